-- X8_init: LogHunt.<init>()V
def wX8_init_110 (post : Pool → Prop) : Nat → Option Nat → Int32 → Pool → Prop
  | 0 => fun _ _ _ => False
  | n + 1 => fun v0 v1 S => br (8 ≤ v1) (xnw S 3 fun a2 S3 => xnn a2 (wX3_init (fun S4 => xpR S4 v0 8 8 a2 fun S5 => xpI S5 v0 8 12 100 fun S6 => xpI S6 v0 8 13 ((-1)) fun S7 => xpI S7 v0 8 15 ((-1)) fun S8 => post S8) a2 S3)) (xR S v0 8 7 fun a9 => xaR S a9 15 v1 fun a10 => wJ7_fill_53178 (fun S11 => wX8_init_110 post n v0 (v1 + 1) S11) a10 ((-1)) S)
def wX8_init (post : Pool → Prop) (v0 : Option Nat) (S : Pool) : Prop := xnn v0 (xnw S 7 fun a1 S2 => xnn a1 (wX7_init (fun S3 => xpR S3 v0 8 0 a1 fun S4 => xnw S4 4 fun a5 S6 => xR S6 v0 8 0 fun a7 => xnn a5 (wX4_init (fun S8 => xpR S8 v0 8 1 a5 fun S9 => xnw S9 2 fun a10 S11 => xnn a10 (wX2_init (fun S12 => xpR S12 v0 8 2 a10 fun S13 => xnw S13 6 fun a14 S15 => xR S15 v0 8 2 fun a16 => xnn a14 (wX6_init (fun S17 => xpR S17 v0 8 3 a14 fun S18 => xnw S18 1 fun a19 S20 => xR S20 v0 8 2 fun a21 => xnn a19 (wX1_init (fun S22 => xpR S22 v0 8 4 a19 fun S23 => xna S23 13 8 8 fun a24 S25 => xpR S25 v0 8 5 a24 fun S26 => xna S26 10 4 4 fun a27 S28 => xpR S28 v0 8 6 a27 fun S29 => xR S29 v0 8 6 fun a30 => wJ7_fill_53178 (fun S31 => xmn S31 8 31 8 31 fun a32 S33 => xpR S33 v0 8 7 a32 fun S34 => ∃ n1, wX8_init_110 post n1 v0 0 S34) a30 7 S29) a19 a21 S20)) a14 a16 S15)) a10 S11)) a5 a7 S6)) a1 S2))
def rmX8_init : Room := { frames := 4, cells := 110, slots := 5898, locals := 74 }
section
variable {p : Program} {l : Launch} {e : Env} {R : Room} {s : State} {m : MethodId} {args : Array Value} {below : List Frame} {meth : Method} {c : Code} {D : va_G} {cy : Nat → ClassId} {A : Nat → Prop}
set_option maxRecDepth 100000 in
set_option maxHeartbeats 4000000 in
theorem tX8_init_110 {post : Pool → Prop} (M : MC p m c cX8_init 2 s args RX8) (hr : meth.sig.returnType = none) (hlk : meth.locks = false) (hRf : 4 ≤ R.frames) (hRl : 74 ≤ R.locals) (hRc : 110 ≤ R.cells) (hRs : 5898 ≤ R.slots) (hin : meth.name = "<init>") : ∀ (n : Nat) (v0 : Option Nat) (v1 : Int32) (S : Pool), wX8_init_110 post n v0 v1 S → ∀ (H : Heap) (locs : List Loc) (ls : Array Slot), PB D cy A s S H locs → lv_has ls 2 [(0, va_rf v0), (1, .int v1)] → W p l e R s m args below meth c H locs 102 5836 (MQ below (va_Qv post (PQ D cy A) A) args s 110 5898 A) (F0 m 110 ls []) := by
  intro n
  induction n with
  | zero => intro v0 v1 S h; exact False.elim h
  | succ n ih =>
    intro v0 v1 S h H locs ls B hl
    unfold wX8_init_110 at h
    refine lv_iload_n M.1 M.2.1 dX8_init_110 rfl (lv_at hl 1 rfl) ?_
    refine lv_bipush (v := 8) M.1 M.2.1 dX8_init_111 (by decide) ?_
    refine lv_icmp_ge (tgt := 132) M.1 M.2.1 dX8_init_113 (by decide) (fun c1 => ?_) (fun c1 => ?_)
    · have h := h.1 c1
      refine g_aload_n M dX8_init_132 rfl (lv_at hl 0 rfl) ?_
      refine gnX8_48 M B (Nat.le_trans (by decide) hRc) (Nat.le_trans (by decide) hRs) dX8_init_133 h (fun a2 S3 H locs h B => ?_)
      refine W.widen (k := 103) (n := 5844) (by decide) (by decide) ?_
      refine lv_dup M.1 M.2.1 dX8_init_136 (rf_cat _) ?_
      obtain ⟨⟨o1, e1⟩, h⟩ := h
      refine g_callv (k1 := 110) (k2 := 5898) B (g_runI (n := 0) (As := []) (rm := rmX3_init) M B e1 (kX3_init (v0 := a2) l D cy h _) wmX8_69 wiX3_init wnX3 wcdX3_init rfl ⟨by decide, by decide, by decide +kernel⟩ ⟨Nat.le_trans (by decide) hRf, Nat.le_trans (by decide) hRl⟩ ⟨Nat.le_trans (by decide) hRc, Nat.le_trans (by decide) hRs⟩ rfl hl.1 rfl (ct_r (ct_r ct_0)) (by decide) dX8_init_137) (by decide) (by decide) (fun S4 H locs h B => ?_)
      refine gpX8_70 M B dX8_init_140 h (fun S5 H locs h B => ?_)
      refine g_aload_n M dX8_init_143 rfl (lv_at hl 0 rfl) ?_
      refine lv_bipush (v := 100) M.1 M.2.1 dX8_init_144 (by decide) ?_
      refine gpX8_74 M B dX8_init_146 h (fun S6 H locs h B => ?_)
      refine g_aload_n M dX8_init_149 rfl (lv_at hl 0 rfl) ?_
      refine lv_iconst (v := (-1)) M.1 M.2.1 dX8_init_150 (by decide) ?_
      refine gpX8_78 M B dX8_init_151 h (fun S7 H locs h B => ?_)
      refine g_aload_n M dX8_init_154 rfl (lv_at hl 0 rfl) ?_
      refine lv_iconst (v := (-1)) M.1 M.2.1 dX8_init_155 (by decide) ?_
      refine gpX8_81 M B dX8_init_156 h (fun S8 H locs h B => ?_)
      exact g_vret M B hr hlk h (by decide) (by decide) dX8_init_159
    · have h := h.2 c1
      refine g_aload_n M dX8_init_116 rfl (lv_at hl 0 rfl) ?_
      refine gfX8_66 M B dX8_init_117 h (fun a9 h => ?_)
      refine lv_iload_n M.1 M.2.1 dX8_init_120 rfl (lv_at hl 1 rfl) ?_
      refine g_aaldA M B dX8_init_121 h (fun a10 h => ?_)
      refine lv_iconst (v := (-1)) M.1 M.2.1 dX8_init_122 (by decide) ?_
      refine g_callv (k1 := 102) (k2 := 5836) B (g_runS (n := 2) (As := [va_rf a10, .int ((-1))]) (rm := rmJ7_fill_53178) M B (kJ7_fill_53178 (v0 := a10) (v1 := (-1)) l D cy h _) wmX8_58 wstJ7_fill_53178 wnJ7 wcdJ7_fill_53178 ⟨by decide, by decide, by decide +kernel⟩ ⟨Nat.le_trans (by decide) hRf, Nat.le_trans (by decide) hRl⟩ ⟨Nat.le_trans (by decide) hRc, Nat.le_trans (by decide) hRs⟩ rfl hl.1 rfl ct_0 (by decide) dX8_init_123) (by decide) (by decide) (fun S11 H locs h B => ?_)
      refine lv_iinc (v := v1 + 1) (lv' := [(1, .int (v1 + 1)), (0, va_rf v0)]) M.1 M.2.1 dX8_init_126 hl (k := 1) rfl (by rfl) (by decide) (fl_e (fl_r rfl (fl_d rfl fl_0))) (fun ls hl => ?_)
      refine lv_goto (tgt := 110) M.1 M.2.1 dX8_init_129 (by decide) ?_
      exact ih _ _ _ h _ _ _ B (lv_sub hl [1, 0] rfl)
set_option maxRecDepth 100000 in
set_option maxHeartbeats 4000000 in
theorem tX8_init {post : Pool → Prop} (M : MC p m c cX8_init 2 s args RX8) (hr : meth.sig.returnType = none) (hlk : meth.locks = false) (hRf : 4 ≤ R.frames) (hRl : 74 ≤ R.locals) (hRc : 110 ≤ R.cells) (hRs : 5898 ≤ R.slots) (hin : meth.name = "<init>") : ∀ (v0 : Option Nat) (S : Pool), wX8_init post v0 S → ∀ (H : Heap) (locs : List Loc) (ls : Array Slot), PB D cy A s S H locs → lv_has ls 2 [(0, va_rf v0)] → W p l e R s m args below meth c H locs 0 0 (MQ below (va_Qv post (PQ D cy A) A) args s 110 5898 A) (F0 m 0 ls []) := by
  intro v0 S h H locs ls B hl
  unfold wX8_init at h
  refine g_aload_n M dX8_init_0 rfl (lv_at hl 0 rfl) ?_
  obtain ⟨⟨o1, e1⟩, h⟩ := h
  refine g_objInit M e1 wmX8_1 hl.1 dX8_init_1 rfl (Nat.le_trans (by decide) hRf) (Nat.le_trans (by decide) hRl) ?_
  refine g_aload_n M dX8_init_4 rfl (lv_at hl 0 rfl) ?_
  refine gnX8_7 M B (Nat.le_trans (by decide) hRc) (Nat.le_trans (by decide) hRs) dX8_init_5 h (fun a1 S2 H locs h B => ?_)
  refine W.widen (k := 1) (n := 2) (by decide) (by decide) ?_
  refine lv_dup M.1 M.2.1 dX8_init_8 (rf_cat _) ?_
  obtain ⟨⟨o1, e1⟩, h⟩ := h
  refine g_callv (k1 := 2) (k2 := 402) B (g_runIN (n := 0) (As := []) (rm := rmX7_init) M B e1 (kX7_init (v0 := a1) l D cy h _) B.2.2.2.2.2.2.2.2.2.1 wiX7_init wnX7 wcdX7_init rfl ⟨by decide, by decide, by decide +kernel⟩ ⟨Nat.le_trans (by decide) hRf, Nat.le_trans (by decide) hRl⟩ ⟨Nat.le_trans (by decide) hRc, Nat.le_trans (by decide) hRs⟩ rfl hl.1 rfl (ct_r (ct_r ct_0)) (by decide) dX8_init_9) (by decide) (by decide) (fun S3 H locs h B => ?_)
  refine gpX8_10 M B hin dX8_init_12 h (fun S4 H locs h B => ?_)
  refine g_aload_n M dX8_init_15 rfl (lv_at hl 0 rfl) ?_
  refine gnX8_16 M B (Nat.le_trans (by decide) hRc) (Nat.le_trans (by decide) hRs) dX8_init_16 h (fun a5 S6 H locs h B => ?_)
  refine W.widen (k := 3) (n := 408) (by decide) (by decide) ?_
  refine lv_dup M.1 M.2.1 dX8_init_19 (rf_cat _) ?_
  refine g_aload_n M dX8_init_20 rfl (lv_at hl 0 rfl) ?_
  refine gfX8_10 M B dX8_init_21 h (fun a7 h => ?_)
  obtain ⟨⟨o1, e1⟩, h⟩ := h
  refine g_callv (k1 := 3) (k2 := 408) B (g_runI (n := 1) (As := [va_rf a7]) (rm := rmX4_init) M B e1 (kX4_init (v0 := a5) (v1 := a7) l D cy h _) wmX8_18 wiX4_init wnX4 wcdX4_init rfl ⟨by decide, by decide, by decide +kernel⟩ ⟨Nat.le_trans (by decide) hRf, Nat.le_trans (by decide) hRl⟩ ⟨Nat.le_trans (by decide) hRc, Nat.le_trans (by decide) hRs⟩ rfl hl.1 rfl (ct_r (ct_r ct_0)) (by decide) dX8_init_24) (by decide) (by decide) (fun S8 H locs h B => ?_)
  refine gpX8_21 M B hin dX8_init_27 h (fun S9 H locs h B => ?_)
  refine g_aload_n M dX8_init_30 rfl (lv_at hl 0 rfl) ?_
  refine gnX8_25 M B (Nat.le_trans (by decide) hRc) (Nat.le_trans (by decide) hRs) dX8_init_31 h (fun a10 S11 H locs h B => ?_)
  refine W.widen (k := 4) (n := 413) (by decide) (by decide) ?_
  refine lv_dup M.1 M.2.1 dX8_init_34 (rf_cat _) ?_
  obtain ⟨⟨o1, e1⟩, h⟩ := h
  refine g_callv (k1 := 6) (k2 := 913) B (g_runIN (n := 0) (As := []) (rm := rmX2_init) M B e1 (kX2_init (v0 := a10) l D cy h _) B.2.2.2.2.2.2.2.2.2.2.1 wiX2_init wnX2 wcdX2_init rfl ⟨by decide, by decide, by decide +kernel⟩ ⟨Nat.le_trans (by decide) hRf, Nat.le_trans (by decide) hRl⟩ ⟨Nat.le_trans (by decide) hRc, Nat.le_trans (by decide) hRs⟩ rfl hl.1 rfl (ct_r (ct_r ct_0)) (by decide) dX8_init_35) (by decide) (by decide) (fun S12 H locs h B => ?_)
  refine gpX8_28 M B hin dX8_init_38 h (fun S13 H locs h B => ?_)
  refine g_aload_n M dX8_init_41 rfl (lv_at hl 0 rfl) ?_
  refine gnX8_32 M B (Nat.le_trans (by decide) hRc) (Nat.le_trans (by decide) hRs) dX8_init_42 h (fun a14 S15 H locs h B => ?_)
  refine W.widen (k := 7) (n := 929) (by decide) (by decide) ?_
  refine lv_dup M.1 M.2.1 dX8_init_45 (rf_cat _) ?_
  refine g_aload_n M dX8_init_46 rfl (lv_at hl 0 rfl) ?_
  refine gfX8_28 M B dX8_init_47 h (fun a16 h => ?_)
  obtain ⟨⟨o1, e1⟩, h⟩ := h
  refine g_callv (k1 := 85) (k2 := 4763) B (g_runI (n := 1) (As := [va_rf a16]) (rm := rmX6_init) M B e1 (kX6_init (v0 := a14) (v1 := a16) l D cy h _) wmX8_34 wiX6_init wnX6 wcdX6_init rfl ⟨by decide, by decide, by decide +kernel⟩ ⟨Nat.le_trans (by decide) hRf, Nat.le_trans (by decide) hRl⟩ ⟨Nat.le_trans (by decide) hRc, Nat.le_trans (by decide) hRs⟩ rfl hl.1 rfl (ct_r (ct_r ct_0)) (by decide) dX8_init_50) (by decide) (by decide) (fun S17 H locs h B => ?_)
  refine gpX8_37 M B hin dX8_init_53 h (fun S18 H locs h B => ?_)
  refine g_aload_n M dX8_init_56 rfl (lv_at hl 0 rfl) ?_
  refine gnX8_41 M B (Nat.le_trans (by decide) hRc) (Nat.le_trans (by decide) hRs) dX8_init_57 h (fun a19 S20 H locs h B => ?_)
  refine W.widen (k := 86) (n := 4771) (by decide) (by decide) ?_
  refine lv_dup M.1 M.2.1 dX8_init_60 (rf_cat _) ?_
  refine g_aload_n M dX8_init_61 rfl (lv_at hl 0 rfl) ?_
  refine gfX8_28 M B dX8_init_62 h (fun a21 h => ?_)
  obtain ⟨⟨o1, e1⟩, h⟩ := h
  refine g_callv (k1 := 91) (k2 := 5568) B (g_runI (n := 1) (As := [va_rf a21]) (rm := rmX1_init) M B e1 (kX1_init (v0 := a19) (v1 := a21) l D cy h _) wmX8_43 wiX1_init wnX1 wcdX1_init rfl ⟨by decide, by decide, by decide +kernel⟩ ⟨Nat.le_trans (by decide) hRf, Nat.le_trans (by decide) hRl⟩ ⟨Nat.le_trans (by decide) hRc, Nat.le_trans (by decide) hRs⟩ rfl hl.1 rfl (ct_r (ct_r ct_0)) (by decide) dX8_init_65) (by decide) (by decide) (fun S22 H locs h B => ?_)
  refine gpX8_44 M B hin dX8_init_68 h (fun S23 H locs h B => ?_)
  refine g_aload_n M dX8_init_71 rfl (lv_at hl 0 rfl) ?_
  refine lv_bipush (v := 8) M.1 M.2.1 dX8_init_72 (by decide) ?_
  refine g_newA (kd := 13) (j := 3) (N := 8) M B ⟨by decide, by decide⟩ rfl wcX8_48 B.2.2.2.2.2.2.2.2.2.2.2.2.2.1 (by decide) (Nat.le_trans (by decide) hRc) (Nat.le_trans (by decide) hRs) dX8_init_74 h (fun a24 S25 H locs h B => ?_)
  refine W.widen (k := 92) (n := 5576) (by decide) (by decide) ?_
  refine gpX8_50 M B hin dX8_init_77 h (fun S26 H locs h B => ?_)
  refine g_aload_n M dX8_init_80 rfl (lv_at hl 0 rfl) ?_
  refine lv_iconst (v := 4) M.1 M.2.1 dX8_init_81 (by decide) ?_
  refine g_newI (N := 4) M B (by decide) (Nat.le_trans (by decide) hRc) (Nat.le_trans (by decide) hRs) dX8_init_82 h (fun a27 S28 H locs h B => ?_)
  refine W.widen (k := 93) (n := 5580) (by decide) (by decide) ?_
  refine gpX8_54 M B hin dX8_init_84 h (fun S29 H locs h B => ?_)
  refine g_aload_n M dX8_init_87 rfl (lv_at hl 0 rfl) ?_
  refine gfX8_54 M B dX8_init_88 h (fun a30 h => ?_)
  refine lv_bipush (v := 7) M.1 M.2.1 dX8_init_91 (by decide) ?_
  refine g_callv (k1 := 93) (k2 := 5580) B (g_runS (n := 2) (As := [va_rf a30, .int 7]) (rm := rmJ7_fill_53178) M B (kJ7_fill_53178 (v0 := a30) (v1 := 7) l D cy h _) wmX8_58 wstJ7_fill_53178 wnJ7 wcdJ7_fill_53178 ⟨by decide, by decide, by decide +kernel⟩ ⟨Nat.le_trans (by decide) hRf, Nat.le_trans (by decide) hRl⟩ ⟨Nat.le_trans (by decide) hRc, Nat.le_trans (by decide) hRs⟩ rfl hl.1 rfl ct_0 (by decide) dX8_init_93) (by decide) (by decide) (fun S31 H locs h B => ?_)
  refine g_aload_n M dX8_init_96 rfl (lv_at hl 0 rfl) ?_
  refine lv_bipush (v := 8) M.1 M.2.1 dX8_init_97 (by decide) ?_
  refine lv_bipush (v := 31) M.1 M.2.1 dX8_init_99 (by decide) ?_
  refine g_newM (N := 8) (K9 := 31) M B wcX8_64 (by decide) (by decide) (Nat.le_trans (by decide) hRc) (Nat.le_trans (by decide) hRs) dX8_init_101 h (fun a32 S33 H locs h B => ?_)
  refine W.widen (k := 102) (n := 5836) (by decide) (by decide) ?_
  refine gpX8_66 M B hin dX8_init_105 h (fun S34 H locs h B => ?_)
  refine lv_iconst (v := 0) M.1 M.2.1 dX8_init_108 (by decide) ?_
  refine lv_istore_n (lv' := [(1, .int 0), (0, va_rf v0)]) M.1 M.2.1 dX8_init_109 rfl hl (by decide) (fl_e (fl_r rfl fl_0)) (fun ls hl => ?_)
  obtain ⟨n1, h⟩ := h
  exact tX8_init_110 M hr hlk hRf hRl hRc hRs hin n1 _ _ _ h _ _ _ B (lv_sub hl [1, 0] rfl)
end
set_option maxRecDepth 100000 in
set_option maxHeartbeats 4000000 in
theorem kX8_init (l : Launch) (D : va_G) (cy : Nat → ClassId) {post : Pool → Prop} {v0 : Option Nat} {S : Pool} (h : wX8_init post v0 S) : MetV l yX8_init cX8_init 2 rmX8_init [va_rf v0] D cy S post := by
  intro sz
  refine Met.ofW (cc := cX8_init) (maxL := 2) (ret := none) (by decide) rfl ?_
  intro p e s m args below meth c s₁ B0 hml hv
  obtain ⟨rfl, hpp⟩ := hv
  have hts := atoms_spec (ws := .code yX8_init cX8_init 2 none :: Gw) B0.pre
  obtain rfl : s.heap.size = sz := hpp.1
  have hl := lv_entry [va_rf v0] (n := 2) (by rw [sl_r, sl_0]; decide)
  rw [lg_entry_eq]
  rw [la_r, la_0] at hl
  exact tX8_init (l := l) (R := rmX8_init) ⟨B0.exec, B0.bytes, hml, findClass_of_methodNamed B0.named, fun w hw => hts w (List.mem_cons_of_mem _ hw)⟩ B0.returns B0.notSynchronized (Nat.le_refl _) (Nat.le_refl _) (Nat.le_refl _) (Nat.le_refl _) (name_of_methodNamed B0.named B0.method).1 _ _ h _ _ _ hpp.pb (lv_sub hl [0] rfl)
-- X8_feed: LogHunt.feed(IIIII)I
def wX8_feed (post : Int32 → Pool → Prop) (v0 : Option Nat) (v1 : Int32) (v2 : Int32) (v3 : Int32) (v4 : Int32) (v5 : Int32) (S : Pool) : Prop := xR S v0 8 0 fun a1 => xrc S a1 7 (wX7_hasRoomFor (fun a3 S2 => br (a3 = 0) (post ((-1)) S2) (xR S2 v0 8 0 fun a5 => xrc S2 a5 7 (wX7_put (fun S6 => xR S6 v0 8 0 fun a7 => xrc S6 a7 7 (wX7_put (fun S8 => xR S8 v0 8 0 fun a9 => xrc S8 a9 7 (wX7_put (fun S10 => xR S10 v0 8 0 fun a11 => xrc S10 a11 7 (wX7_put (fun S12 => xR S12 v0 8 0 fun a13 => xrc S12 a13 7 (wX7_put (fun S14 => xR S14 v0 8 0 fun a15 => xI S14 a15 7 1 fun a16 => post a16 S14) a13 v5 S12)) a11 v4 S10)) a9 v3 S8)) a7 v2 S6)) a5 v1 S2))) a1 20 S)
def rmX8_feed : Room := { frames := 1, cells := 0, slots := 0, locals := 22 }
section
variable {p : Program} {l : Launch} {e : Env} {R : Room} {s : State} {m : MethodId} {args : Array Value} {below : List Frame} {meth : Method} {c : Code} {D : va_G} {cy : Nat → ClassId} {A : Nat → Prop}
set_option maxRecDepth 100000 in
set_option maxHeartbeats 4000000 in
theorem tX8_feed {post : Int32 → Pool → Prop} (M : MC p m c cX8_feed 6 s args RX8) (hr : meth.sig.returnType = (some FieldType.int)) (hlk : meth.locks = false) (hRf : 1 ≤ R.frames) (hRl : 22 ≤ R.locals) (hRc : 0 ≤ R.cells) (hRs : 0 ≤ R.slots) : ∀ (v0 : Option Nat) (v1 : Int32) (v2 : Int32) (v3 : Int32) (v4 : Int32) (v5 : Int32) (S : Pool), wX8_feed post v0 v1 v2 v3 v4 v5 S → ∀ (H : Heap) (locs : List Loc) (ls : Array Slot), PB D cy A s S H locs → lv_has ls 6 [(0, va_rf v0), (1, .int v1), (2, .int v2), (3, .int v3), (4, .int v4), (5, .int v5)] → W p l e R s m args below meth c H locs 0 0 (MQ below (va_Qi post (PQ D cy A) A) args s 0 0 A) (F0 m 0 ls []) := by
  intro v0 v1 v2 v3 v4 v5 S h H locs ls B hl
  unfold wX8_feed at h
  refine g_aload_n M dX8_feed_0 rfl (lv_at hl 0 rfl) ?_
  refine gfX8_10 M B dX8_feed_1 h (fun a1 h => ?_)
  refine lv_bipush (v := 20) M.1 M.2.1 dX8_feed_4 (by decide) ?_
  obtain ⟨o1, e1, hL1, hK1, h⟩ := h
  refine g_calli (k1 := 0) (k2 := 0) B (g_runV (n := 1) (As := [.int 20]) (rm := rmX7_hasRoomFor) M B e1 (kX7_hasRoomFor (v0 := a1) (v1 := 20) l D cy h _) wmX8_84 wiX7_hasRoomFor wsX7_hasRoomFor wnX7 wcdX7_hasRoomFor ⟨rfl, by decide, by decide, by decide +kernel⟩ ⟨Nat.le_trans (by decide) hRf, Nat.le_trans (by decide) hRl⟩ ⟨Nat.le_trans (by decide) hRc, Nat.le_trans (by decide) hRs⟩ hL1 hK1 (by decide) rfl rfl rfl hl.1 rfl ct_0 (by decide) dX8_feed_6) (by decide) (by decide) (fun a3 S2 H locs h B => ?_)
  refine lv_if_ne (tgt := 14) M.1 M.2.1 dX8_feed_9 (by decide) (fun c4 => ?_) (fun c4 => ?_)
  · have h := h.2 c4
    refine g_aload_n M dX8_feed_14 rfl (lv_at hl 0 rfl) ?_
    refine gfX8_10 M B dX8_feed_15 h (fun a5 h => ?_)
    refine lv_iload_n M.1 M.2.1 dX8_feed_18 rfl (lv_at hl 1 rfl) ?_
    obtain ⟨o1, e1, hL1, hK1, h⟩ := h
    refine g_callv (k1 := 0) (k2 := 0) B (g_runV (n := 1) (As := [.int v1]) (rm := rmX7_put) M B e1 (kX7_put (v0 := a5) (v1 := v1) l D cy h _) wmX8_88 wiX7_put wsX7_put wnX7 wcdX7_put ⟨rfl, by decide, by decide, by decide +kernel⟩ ⟨Nat.le_trans (by decide) hRf, Nat.le_trans (by decide) hRl⟩ ⟨Nat.le_trans (by decide) hRc, Nat.le_trans (by decide) hRs⟩ hL1 hK1 (by decide) rfl rfl rfl hl.1 rfl ct_0 (by decide) dX8_feed_19) (by decide) (by decide) (fun S6 H locs h B => ?_)
    refine g_aload_n M dX8_feed_22 rfl (lv_at hl 0 rfl) ?_
    refine gfX8_10 M B dX8_feed_23 h (fun a7 h => ?_)
    refine lv_iload_n M.1 M.2.1 dX8_feed_26 rfl (lv_at hl 2 rfl) ?_
    obtain ⟨o1, e1, hL1, hK1, h⟩ := h
    refine g_callv (k1 := 0) (k2 := 0) B (g_runV (n := 1) (As := [.int v2]) (rm := rmX7_put) M B e1 (kX7_put (v0 := a7) (v1 := v2) l D cy h _) wmX8_88 wiX7_put wsX7_put wnX7 wcdX7_put ⟨rfl, by decide, by decide, by decide +kernel⟩ ⟨Nat.le_trans (by decide) hRf, Nat.le_trans (by decide) hRl⟩ ⟨Nat.le_trans (by decide) hRc, Nat.le_trans (by decide) hRs⟩ hL1 hK1 (by decide) rfl rfl rfl hl.1 rfl ct_0 (by decide) dX8_feed_27) (by decide) (by decide) (fun S8 H locs h B => ?_)
    refine g_aload_n M dX8_feed_30 rfl (lv_at hl 0 rfl) ?_
    refine gfX8_10 M B dX8_feed_31 h (fun a9 h => ?_)
    refine lv_iload_n M.1 M.2.1 dX8_feed_34 rfl (lv_at hl 3 rfl) ?_
    obtain ⟨o1, e1, hL1, hK1, h⟩ := h
    refine g_callv (k1 := 0) (k2 := 0) B (g_runV (n := 1) (As := [.int v3]) (rm := rmX7_put) M B e1 (kX7_put (v0 := a9) (v1 := v3) l D cy h _) wmX8_88 wiX7_put wsX7_put wnX7 wcdX7_put ⟨rfl, by decide, by decide, by decide +kernel⟩ ⟨Nat.le_trans (by decide) hRf, Nat.le_trans (by decide) hRl⟩ ⟨Nat.le_trans (by decide) hRc, Nat.le_trans (by decide) hRs⟩ hL1 hK1 (by decide) rfl rfl rfl hl.1 rfl ct_0 (by decide) dX8_feed_35) (by decide) (by decide) (fun S10 H locs h B => ?_)
    refine g_aload_n M dX8_feed_38 rfl (lv_at hl 0 rfl) ?_
    refine gfX8_10 M B dX8_feed_39 h (fun a11 h => ?_)
    refine lv_iload M.1 M.2.1 dX8_feed_42 (lv_at hl 4 rfl) ?_
    obtain ⟨o1, e1, hL1, hK1, h⟩ := h
    refine g_callv (k1 := 0) (k2 := 0) B (g_runV (n := 1) (As := [.int v4]) (rm := rmX7_put) M B e1 (kX7_put (v0 := a11) (v1 := v4) l D cy h _) wmX8_88 wiX7_put wsX7_put wnX7 wcdX7_put ⟨rfl, by decide, by decide, by decide +kernel⟩ ⟨Nat.le_trans (by decide) hRf, Nat.le_trans (by decide) hRl⟩ ⟨Nat.le_trans (by decide) hRc, Nat.le_trans (by decide) hRs⟩ hL1 hK1 (by decide) rfl rfl rfl hl.1 rfl ct_0 (by decide) dX8_feed_44) (by decide) (by decide) (fun S12 H locs h B => ?_)
    refine g_aload_n M dX8_feed_47 rfl (lv_at hl 0 rfl) ?_
    refine gfX8_10 M B dX8_feed_48 h (fun a13 h => ?_)
    refine lv_iload M.1 M.2.1 dX8_feed_51 (lv_at hl 5 rfl) ?_
    obtain ⟨o1, e1, hL1, hK1, h⟩ := h
    refine g_callv (k1 := 0) (k2 := 0) B (g_runV (n := 1) (As := [.int v5]) (rm := rmX7_put) M B e1 (kX7_put (v0 := a13) (v1 := v5) l D cy h _) wmX8_88 wiX7_put wsX7_put wnX7 wcdX7_put ⟨rfl, by decide, by decide, by decide +kernel⟩ ⟨Nat.le_trans (by decide) hRf, Nat.le_trans (by decide) hRl⟩ ⟨Nat.le_trans (by decide) hRc, Nat.le_trans (by decide) hRs⟩ hL1 hK1 (by decide) rfl rfl rfl hl.1 rfl ct_0 (by decide) dX8_feed_53) (by decide) (by decide) (fun S14 H locs h B => ?_)
    refine g_aload_n M dX8_feed_56 rfl (lv_at hl 0 rfl) ?_
    refine gfX8_10 M B dX8_feed_57 h (fun a15 h => ?_)
    refine gfX8_92 M B dX8_feed_60 h (fun a16 h => ?_)
    exact g_iret M B hr hlk h (by decide) (by decide) dX8_feed_63
  · have h := h.1 c4
    refine lv_iconst (v := (-1)) M.1 M.2.1 dX8_feed_12 (by decide) ?_
    exact g_iret M B hr hlk h (by decide) (by decide) dX8_feed_13
end
set_option maxRecDepth 100000 in
set_option maxHeartbeats 4000000 in
theorem kX8_feed (l : Launch) (D : va_G) (cy : Nat → ClassId) {post : Int32 → Pool → Prop} {v0 : Option Nat} {v1 : Int32} {v2 : Int32} {v3 : Int32} {v4 : Int32} {v5 : Int32} {S : Pool} (h : wX8_feed post v0 v1 v2 v3 v4 v5 S) : MetI l yX8_feed cX8_feed 6 (some FieldType.int) rmX8_feed [va_rf v0, .int v1, .int v2, .int v3, .int v4, .int v5] D cy S post := by
  intro sz
  refine Met.ofW (cc := cX8_feed) (maxL := 6) (ret := (some FieldType.int)) (by decide) rfl ?_
  intro p e s m args below meth c s₁ B0 hml hv
  obtain ⟨rfl, hpp⟩ := hv
  have hts := atoms_spec (ws := .code yX8_feed cX8_feed 6 (some FieldType.int) :: Gw) B0.pre
  obtain rfl : s.heap.size = sz := hpp.1
  have hl := lv_entry [va_rf v0, .int v1, .int v2, .int v3, .int v4, .int v5] (n := 6) (by rw [sl_r, sl_i, sl_i, sl_i, sl_i, sl_i, sl_0]; decide)
  rw [lg_entry_eq]
  rw [la_r, la_i, la_i, la_i, la_i, la_i, la_0] at hl
  exact tX8_feed (l := l) (R := rmX8_feed) ⟨B0.exec, B0.bytes, hml, findClass_of_methodNamed B0.named, fun w hw => hts w (List.mem_cons_of_mem _ hw)⟩ B0.returns B0.notSynchronized (Nat.le_refl _) (Nat.le_refl _) (Nat.le_refl _) (Nat.le_refl _) _ _ _ _ _ _ _ h _ _ _ hpp.pb (lv_sub hl [0, 1, 2, 3, 4, 5] rfl)
-- X8_end: LogHunt.end(I)Z
def wX8_end (post : Int32 → Pool → Prop) (v0 : Option Nat) (v1 : Int32) (S : Pool) : Prop := br (v1 < 0) (((0 : Int32) = 0 ∨ (0 : Int32) = 1) ∧ post (0 : Int32) S) (xR S v0 8 0 fun a2 => xI S a2 7 1 fun a3 => br (v1 ≤ a3) (xR S v0 8 0 fun a5 => xpI S a5 7 1 v1 fun S6 => ((1 : Int32) = 0 ∨ (1 : Int32) = 1) ∧ post (1 : Int32) S6) (((0 : Int32) = 0 ∨ (0 : Int32) = 1) ∧ post (0 : Int32) S))
def rmX8_end : Room := { frames := 0, cells := 0, slots := 0, locals := 0 }
section
variable {p : Program} {l : Launch} {e : Env} {R : Room} {s : State} {m : MethodId} {args : Array Value} {below : List Frame} {meth : Method} {c : Code} {D : va_G} {cy : Nat → ClassId} {A : Nat → Prop}
set_option maxRecDepth 100000 in
set_option maxHeartbeats 4000000 in
theorem tX8_end {post : Int32 → Pool → Prop} (M : MC p m c cX8_end 2 s args RX8) (hr : meth.sig.returnType = (some FieldType.boolean)) (hlk : meth.locks = false) (hRf : 0 ≤ R.frames) (hRl : 0 ≤ R.locals) (hRc : 0 ≤ R.cells) (hRs : 0 ≤ R.slots) : ∀ (v0 : Option Nat) (v1 : Int32) (S : Pool), wX8_end post v0 v1 S → ∀ (H : Heap) (locs : List Loc) (ls : Array Slot), PB D cy A s S H locs → lv_has ls 2 [(0, va_rf v0), (1, .int v1)] → W p l e R s m args below meth c H locs 0 0 (MQ below (va_Qi post (PQ D cy A) A) args s 0 0 A) (F0 m 0 ls []) := by
  intro v0 v1 S h H locs ls B hl
  unfold wX8_end at h
  refine lv_iload_n M.1 M.2.1 dX8_end_0 rfl (lv_at hl 1 rfl) ?_
  refine lv_if_lt (tgt := 15) M.1 M.2.1 dX8_end_1 (by decide) (fun c1 => ?_) (fun c1 => ?_)
  · have h := h.1 c1
    refine lv_iconst (v := 0) M.1 M.2.1 dX8_end_15 (by decide) ?_
    exact g_zret M B hr hlk h (by decide) (by decide) dX8_end_16
  · have h := h.2 c1
    refine lv_iload_n M.1 M.2.1 dX8_end_4 rfl (lv_at hl 1 rfl) ?_
    refine g_aload_n M dX8_end_5 rfl (lv_at hl 0 rfl) ?_
    refine gfX8_10 M B dX8_end_6 h (fun a2 h => ?_)
    refine gfX8_92 M B dX8_end_9 h (fun a3 h => ?_)
    refine lv_icmp_le (tgt := 17) M.1 M.2.1 dX8_end_12 (by decide) (fun c4 => ?_) (fun c4 => ?_)
    · have h := h.1 c4
      refine g_aload_n M dX8_end_17 rfl (lv_at hl 0 rfl) ?_
      refine gfX8_10 M B dX8_end_18 h (fun a5 h => ?_)
      refine lv_iload_n M.1 M.2.1 dX8_end_21 rfl (lv_at hl 1 rfl) ?_
      refine gpX8_92 M B dX8_end_22 h (fun S6 H locs h B => ?_)
      refine lv_iconst (v := 1) M.1 M.2.1 dX8_end_25 (by decide) ?_
      exact g_zret M B hr hlk h (by decide) (by decide) dX8_end_26
    · have h := h.2 c4
      refine lv_iconst (v := 0) M.1 M.2.1 dX8_end_15 (by decide) ?_
      exact g_zret M B hr hlk h (by decide) (by decide) dX8_end_16
end
set_option maxRecDepth 100000 in
set_option maxHeartbeats 4000000 in
theorem kX8_end (l : Launch) (D : va_G) (cy : Nat → ClassId) {post : Int32 → Pool → Prop} {v0 : Option Nat} {v1 : Int32} {S : Pool} (h : wX8_end post v0 v1 S) : MetI l yX8_end cX8_end 2 (some FieldType.boolean) rmX8_end [va_rf v0, .int v1] D cy S post := by
  intro sz
  refine Met.ofW (cc := cX8_end) (maxL := 2) (ret := (some FieldType.boolean)) (by decide) rfl ?_
  intro p e s m args below meth c s₁ B0 hml hv
  obtain ⟨rfl, hpp⟩ := hv
  have hts := atoms_spec (ws := .code yX8_end cX8_end 2 (some FieldType.boolean) :: Gw) B0.pre
  obtain rfl : s.heap.size = sz := hpp.1
  have hl := lv_entry [va_rf v0, .int v1] (n := 2) (by rw [sl_r, sl_i, sl_0]; decide)
  rw [lg_entry_eq]
  rw [la_r, la_i, la_0] at hl
  exact tX8_end (l := l) (R := rmX8_end) ⟨B0.exec, B0.bytes, hml, findClass_of_methodNamed B0.named, fun w hw => hts w (List.mem_cons_of_mem _ hw)⟩ B0.returns B0.notSynchronized (Nat.le_refl _) (Nat.le_refl _) (Nat.le_refl _) (Nat.le_refl _) _ _ _ h _ _ _ hpp.pb (lv_sub hl [0, 1] rfl)
-- X8_ticks: LogHunt.ticks(I)I
def wX8_ticks_10 (pox : String → Pool → Prop) (post : Int32 → Pool → Prop) (S : Pool) : Prop := pox "java/lang/IllegalArgumentException" S
def wX8_ticks (pox : String → Pool → Prop) (post : Int32 → Pool → Prop) (v0 : Option Nat) (v1 : Int32) (S : Pool) : Prop := br (v1 < 0) (wX8_ticks_10 pox post S) (br (v1 ≤ 100000) (xI S v0 8 11 fun a3 => xpI S v0 8 11 (if (1000000 : Int32) < (a3 + v1) then (1000000 : Int32) else (a3 + v1)) fun S4 => xI S4 v0 8 14 fun a5 => xpI S4 v0 8 14 (a5 + 1) fun S6 => xI S6 v0 8 11 fun a7 => post a7 S6) (wX8_ticks_10 pox post S))
def rmX8_ticks : Room := { frames := 6, cells := 1, slots := 6, locals := 90 }
section
variable {p : Program} {l : Launch} {e : Env} {R : Room} {s : State} {m : MethodId} {args : Array Value} {below : List Frame} {meth : Method} {c : Code} {D : va_G} {cy : Nat → ClassId} {A : Nat → Prop} {adK adV : Nat → Nat}
set_option maxRecDepth 100000 in
set_option maxHeartbeats 4000000 in
theorem tX8_ticks_10 {pox : String → Pool → Prop} {post : Int32 → Pool → Prop} (M : MC p m c cX8_ticks 2 s args RX8) (hr : meth.sig.returnType = (some FieldType.int)) (hlk : meth.locks = false) (hRf : 6 ≤ R.frames) (hRl : 90 ≤ R.locals) (hRc : 1 ≤ R.cells) (hRs : 6 ≤ R.slots) (X : EX adK adV A s) (hl0 : l.stackTraces = false) (hout : ∀ x ∈ c.exceptionTable.toList, False) : ∀ (S : Pool), wX8_ticks_10 pox post S → ∀ (H : Heap) (locs : List Loc) (ls : Array Slot), PB D cy A s S H locs → lv_has ls 2 [] → W p l e R s m args below meth c H locs 0 0 (vx_MQ below (va_Qi post (PQ D cy A) A) (XT D cy A pox) args s 1 6 A) (F0 m 10 ls []) := by
  intro S h H locs ls B hl
  unfold wX8_ticks_10 at h
  exact g_throw (j := 0) (is := 98) (ic := 100) M B X hl0 hout hlk (by decide +kernel) (by decide) rfl wcX8_96 wn_IllegalArgumentException (by decide +kernel) (by decide +kernel) (by decide +kernel) hl.1 (Nat.le_trans (by decide) hRf) (Nat.le_trans (by decide) hRl) (Nat.le_trans (by decide) hRc) (Nat.le_trans (by decide) hRs) ct_0 (by decide) (by decide) (by decide) dX8_ticks_10 dX8_ticks_13 dX8_ticks_14 dX8_ticks_16 dX8_ticks_19 h
set_option maxRecDepth 100000 in
set_option maxHeartbeats 4000000 in
theorem tX8_ticks {pox : String → Pool → Prop} {post : Int32 → Pool → Prop} (M : MC p m c cX8_ticks 2 s args RX8) (hr : meth.sig.returnType = (some FieldType.int)) (hlk : meth.locks = false) (hRf : 6 ≤ R.frames) (hRl : 90 ≤ R.locals) (hRc : 1 ≤ R.cells) (hRs : 6 ≤ R.slots) (X : EX adK adV A s) (hl0 : l.stackTraces = false) (hout : ∀ x ∈ c.exceptionTable.toList, False) : ∀ (v0 : Option Nat) (v1 : Int32) (S : Pool), wX8_ticks pox post v0 v1 S → ∀ (H : Heap) (locs : List Loc) (ls : Array Slot), PB D cy A s S H locs → lv_has ls 2 [(0, va_rf v0), (1, .int v1)] → W p l e R s m args below meth c H locs 0 0 (vx_MQ below (va_Qi post (PQ D cy A) A) (XT D cy A pox) args s 1 6 A) (F0 m 0 ls []) := by
  intro v0 v1 S h H locs ls B hl
  unfold wX8_ticks at h
  refine lv_iload_n M.1 M.2.1 dX8_ticks_0 rfl (lv_at hl 1 rfl) ?_
  refine lv_if_lt (tgt := 10) M.1 M.2.1 dX8_ticks_1 (by decide) (fun c1 => ?_) (fun c1 => ?_)
  · have h := h.1 c1
    exact tX8_ticks_10 M hr hlk hRf hRl hRc hRs X hl0 hout _ h _ _ _ B (lv_sub hl [] rfl)
  · have h := h.2 c1
    refine lv_iload_n M.1 M.2.1 dX8_ticks_4 rfl (lv_at hl 1 rfl) ?_
    refine lv_ldc (v := 100000) M.1 M.2.1 M.2.2.2.1 (M.2.2.2.2 _ wkX8_95) dX8_ticks_5 ?_
    refine lv_icmp_le (tgt := 20) M.1 M.2.1 dX8_ticks_7 (by decide) (fun c2 => ?_) (fun c2 => ?_)
    · have h := h.1 c2
      refine g_aload_n M dX8_ticks_20 rfl (lv_at hl 0 rfl) ?_
      refine g_aload_n M dX8_ticks_21 rfl (lv_at hl 0 rfl) ?_
      refine gfX8_103 M B dX8_ticks_22 h (fun a3 h => ?_)
      refine lv_iload_n M.1 M.2.1 dX8_ticks_25 rfl (lv_at hl 1 rfl) ?_
      refine lv_iadd M.1 M.2.1 dX8_ticks_26 ?_
      refine lv_ldc (v := 1000000) M.1 M.2.1 M.2.2.2.1 (M.2.2.2.2 _ wkX8_106) dX8_ticks_27 ?_
      refine g_min M wmX8_107 hl.1 (Nat.le_trans (by decide) hRf) (Nat.le_trans (by decide) hRl) (Nat.le_trans (by decide) hRc) (Nat.le_trans (by decide) hRs) (ct_r ct_0) (by decide) dX8_ticks_29 ?_
      refine gpX8_103 M B dX8_ticks_32 h (fun S4 H locs h B => ?_)
      refine g_aload_n M dX8_ticks_35 rfl (lv_at hl 0 rfl) ?_
      refine lv_dup M.1 M.2.1 dX8_ticks_36 (rf_cat _) ?_
      refine gfX8_113 M B dX8_ticks_37 h (fun a5 h => ?_)
      refine lv_iconst (v := 1) M.1 M.2.1 dX8_ticks_40 (by decide) ?_
      refine lv_iadd M.1 M.2.1 dX8_ticks_41 ?_
      refine gpX8_113 M B dX8_ticks_42 h (fun S6 H locs h B => ?_)
      refine g_aload_n M dX8_ticks_45 rfl (lv_at hl 0 rfl) ?_
      refine gfX8_103 M B dX8_ticks_46 h (fun a7 h => ?_)
      exact vx_ret (g_iret M B hr hlk h (by decide) (by decide) dX8_ticks_49)
    · have h := h.2 c2
      exact tX8_ticks_10 M hr hlk hRf hRl hRc hRs X hl0 hout _ h _ _ _ B (lv_sub hl [] rfl)
end
set_option maxRecDepth 100000 in
set_option maxHeartbeats 4000000 in
theorem kX8_ticks (l : Launch) (D : va_G) (cy : Nat → ClassId) (adK adV : Nat → Nat) (hl0 : l.stackTraces = false) {pox : String → Pool → Prop} {post : Int32 → Pool → Prop} {v0 : Option Nat} {v1 : Int32} {S : Pool} (h : wX8_ticks pox post v0 v1 S) : MetIT l adK adV yX8_ticks cX8_ticks 2 (some FieldType.int) rmX8_ticks [va_rf v0, .int v1] D cy S pox post := by
  intro sz
  refine vx_ofW (cc := cX8_ticks) (maxL := 2) (ret := (some FieldType.int)) (by decide) rfl ?_
  intro p e s m args below meth c s₁ B0 hml hout hv
  obtain ⟨rfl, hpp⟩ := hv
  have hts := atoms_spec (ws := .code yX8_ticks cX8_ticks 2 (some FieldType.int) :: Gw) B0.pre
  obtain rfl : s.heap.size = sz := hpp.1.1
  have hl := lv_entry [va_rf v0, .int v1] (n := 2) (by rw [sl_r, sl_i, sl_0]; decide)
  rw [lg_entry_eq]
  rw [la_r, la_i, la_0] at hl
  exact tX8_ticks (l := l) (R := rmX8_ticks) ⟨B0.exec, B0.bytes, hml, findClass_of_methodNamed B0.named, fun w hw => hts w (List.mem_cons_of_mem _ hw)⟩ B0.returns B0.notSynchronized (Nat.le_refl _) (Nat.le_refl _) (Nat.le_refl _) (Nat.le_refl _) hpp.ex hl0 hout _ _ _ h _ _ _ hpp.1.pb (lv_sub hl [0, 1] rfl)
-- X8_isBelow: LogHunt.isBelow(II)Z
def wX8_isBelow (post : Int32 → Pool → Prop) (v0 : Int32) (v1 : Int32) (S : Pool) : Prop := br (v0 < 0) (((0 : Int32) = 0 ∨ (0 : Int32) = 1) ∧ post (0 : Int32) S) (br (v1 ≤ v0) (((0 : Int32) = 0 ∨ (0 : Int32) = 1) ∧ post (0 : Int32) S) (((1 : Int32) = 0 ∨ (1 : Int32) = 1) ∧ post (1 : Int32) S))
def rmX8_isBelow : Room := { frames := 0, cells := 0, slots := 0, locals := 0 }
section
variable {p : Program} {l : Launch} {e : Env} {R : Room} {s : State} {m : MethodId} {args : Array Value} {below : List Frame} {meth : Method} {c : Code} {D : va_G} {cy : Nat → ClassId} {A : Nat → Prop}
set_option maxRecDepth 100000 in
set_option maxHeartbeats 4000000 in
theorem tX8_isBelow {post : Int32 → Pool → Prop} (M : MC p m c cX8_isBelow 2 s args RX8) (hr : meth.sig.returnType = (some FieldType.boolean)) (hlk : meth.locks = false) (hRf : 0 ≤ R.frames) (hRl : 0 ≤ R.locals) (hRc : 0 ≤ R.cells) (hRs : 0 ≤ R.slots) : ∀ (v0 : Int32) (v1 : Int32) (S : Pool), wX8_isBelow post v0 v1 S → ∀ (H : Heap) (locs : List Loc) (ls : Array Slot), PB D cy A s S H locs → lv_has ls 2 [(0, .int v0), (1, .int v1)] → W p l e R s m args below meth c H locs 0 0 (MQ below (va_Qi post (PQ D cy A) A) args s 0 0 A) (F0 m 0 ls []) := by
  intro v0 v1 S h H locs ls B hl
  unfold wX8_isBelow at h
  refine lv_iload_n M.1 M.2.1 dX8_isBelow_0 rfl (lv_at hl 0 rfl) ?_
  refine lv_if_lt (tgt := 13) M.1 M.2.1 dX8_isBelow_1 (by decide) (fun c1 => ?_) (fun c1 => ?_)
  · have h := h.1 c1
    refine lv_iconst (v := 0) M.1 M.2.1 dX8_isBelow_13 (by decide) ?_
    exact g_zret M B hr hlk h (by decide) (by decide) dX8_isBelow_14
  · have h := h.2 c1
    refine lv_iload_n M.1 M.2.1 dX8_isBelow_4 rfl (lv_at hl 0 rfl) ?_
    refine lv_iload_n M.1 M.2.1 dX8_isBelow_5 rfl (lv_at hl 1 rfl) ?_
    refine lv_icmp_ge (tgt := 13) M.1 M.2.1 dX8_isBelow_6 (by decide) (fun c2 => ?_) (fun c2 => ?_)
    · have h := h.1 c2
      refine lv_iconst (v := 0) M.1 M.2.1 dX8_isBelow_13 (by decide) ?_
      exact g_zret M B hr hlk h (by decide) (by decide) dX8_isBelow_14
    · have h := h.2 c2
      refine lv_iconst (v := 1) M.1 M.2.1 dX8_isBelow_9 (by decide) ?_
      refine lv_goto (tgt := 14) M.1 M.2.1 dX8_isBelow_10 (by decide) ?_
      exact g_zret M B hr hlk h (by decide) (by decide) dX8_isBelow_14
end
set_option maxRecDepth 100000 in
set_option maxHeartbeats 4000000 in
theorem kX8_isBelow (l : Launch) (D : va_G) (cy : Nat → ClassId) {post : Int32 → Pool → Prop} {v0 : Int32} {v1 : Int32} {S : Pool} (h : wX8_isBelow post v0 v1 S) : MetI l yX8_isBelow cX8_isBelow 2 (some FieldType.boolean) rmX8_isBelow [.int v0, .int v1] D cy S post := by
  intro sz
  refine Met.ofW (cc := cX8_isBelow) (maxL := 2) (ret := (some FieldType.boolean)) (by decide) rfl ?_
  intro p e s m args below meth c s₁ B0 hml hv
  obtain ⟨rfl, hpp⟩ := hv
  have hts := atoms_spec (ws := .code yX8_isBelow cX8_isBelow 2 (some FieldType.boolean) :: Gw) B0.pre
  obtain rfl : s.heap.size = sz := hpp.1
  have hl := lv_entry [.int v0, .int v1] (n := 2) (by rw [sl_i, sl_i, sl_0]; decide)
  rw [lg_entry_eq]
  rw [la_i, la_i, la_0] at hl
  exact tX8_isBelow (l := l) (R := rmX8_isBelow) ⟨B0.exec, B0.bytes, hml, findClass_of_methodNamed B0.named, fun w hw => hts w (List.mem_cons_of_mem _ hw)⟩ B0.returns B0.notSynchronized (Nat.le_refl _) (Nat.le_refl _) (Nat.le_refl _) (Nat.le_refl _) _ _ _ h _ _ _ hpp.pb (lv_sub hl [0, 1] rfl)
-- X8_act: LogHunt.act(IIIII)I
def wX8_act_61 (pox : String → Pool → Prop) (post : Int32 → Pool → Prop) (S : Pool) : Prop := pox "java/lang/IllegalArgumentException" S
def wX8_act_37 (pox : String → Pool → Prop) (post : Int32 → Pool → Prop) (S : Pool) : Prop := pox "java/lang/IllegalArgumentException" S
def wX8_act (pox : String → Pool → Prop) (post : Int32 → Pool → Prop) (v0 : Option Nat) (v1 : Int32) (v2 : Int32) (v3 : Int32) (v4 : Int32) (v5 : Int32) (S : Pool) : Prop := wX8_isBelow (fun a2 S1 => br (a2 = 0) (wX8_act_37 pox post S1) (wX8_isBelow (fun a5 S4 => br (a5 = 0) (wX8_act_37 pox post S4) (wX8_isBelow (fun a8 S7 => br (a8 = 0) (wX8_act_37 pox post S7) (wX8_isBelow (fun a11 S10 => br (a11 = 0) (wX8_act_37 pox post S10) (br (v5 < 0) (wX8_act_61 pox post S10) (xI S10 v0 8 11 fun a14 => br (v5 ≤ a14) (xR S10 v0 8 2 fun a16 => xrc S10 a16 2 (wX2_tookDouble (fun a18 S17 => br (a18 = 0) (xR S17 v0 8 2 fun a20 => xI S17 a20 2 2 fun a21 => br (a21 < 250) (xR S17 v0 8 2 fun a23 => xI S17 a23 2 2 fun a24 => xR S17 v0 8 2 fun a25 => xnw S17 0 fun a26 S27 => xI S27 v0 8 11 fun a28 => xnn a26 (wX0_init (fun S29 => xrc S29 a25 2 (wX2_add (fun S30 => xI S30 v0 8 14 fun a31 => xpI S30 v0 8 14 (a31 + 1) fun S32 => post a24 S32) a25 a26 S29)) a26 a24 v1 v2 v3 v4 v5 a28 S27)) (pox "java/lang/UnsupportedOperationException" S17)) (post ((-1)) S17)) a16 v1 v2 v3 v4 v5 S10)) (wX8_act_61 pox post S10)))) v4 16 S7)) v3 31 S4)) v2 31 S1)) v1 8 S
def rmX8_act : Room := { frames := 6, cells := 1, slots := 9, locals := 90 }
section
variable {p : Program} {l : Launch} {e : Env} {R : Room} {s : State} {m : MethodId} {args : Array Value} {below : List Frame} {meth : Method} {c : Code} {D : va_G} {cy : Nat → ClassId} {A : Nat → Prop} {adK adV : Nat → Nat}
set_option maxRecDepth 100000 in
set_option maxHeartbeats 4000000 in
theorem tX8_act_61 {pox : String → Pool → Prop} {post : Int32 → Pool → Prop} (M : MC p m c cX8_act 7 s args RX8) (hr : meth.sig.returnType = (some FieldType.int)) (hlk : meth.locks = false) (hRf : 6 ≤ R.frames) (hRl : 90 ≤ R.locals) (hRc : 1 ≤ R.cells) (hRs : 9 ≤ R.slots) (X : EX adK adV A s) (hl0 : l.stackTraces = false) (hout : ∀ x ∈ c.exceptionTable.toList, False) : ∀ (S : Pool), wX8_act_61 pox post S → ∀ (H : Heap) (locs : List Loc) (ls : Array Slot), PB D cy A s S H locs → lv_has ls 7 [] → W p l e R s m args below meth c H locs 0 0 (vx_MQ below (va_Qi post (PQ D cy A) A) (XT D cy A pox) args s 1 9 A) (F0 m 61 ls []) := by
  intro S h H locs ls B hl
  unfold wX8_act_61 at h
  exact g_throw (j := 2) (is := 122) (ic := 100) M B X hl0 hout hlk (by decide +kernel) (by decide) rfl wcX8_96 wn_IllegalArgumentException (by decide +kernel) (by decide +kernel) (by decide +kernel) hl.1 (Nat.le_trans (by decide) hRf) (Nat.le_trans (by decide) hRl) (Nat.le_trans (by decide) hRc) (Nat.le_trans (by decide) hRs) ct_0 (by decide) (by decide) (by decide) dX8_act_61 dX8_act_64 dX8_act_65 dX8_act_67 dX8_act_70 h
set_option maxRecDepth 100000 in
set_option maxHeartbeats 4000000 in
theorem tX8_act_37 {pox : String → Pool → Prop} {post : Int32 → Pool → Prop} (M : MC p m c cX8_act 7 s args RX8) (hr : meth.sig.returnType = (some FieldType.int)) (hlk : meth.locks = false) (hRf : 6 ≤ R.frames) (hRl : 90 ≤ R.locals) (hRc : 1 ≤ R.cells) (hRs : 9 ≤ R.slots) (X : EX adK adV A s) (hl0 : l.stackTraces = false) (hout : ∀ x ∈ c.exceptionTable.toList, False) : ∀ (S : Pool), wX8_act_37 pox post S → ∀ (H : Heap) (locs : List Loc) (ls : Array Slot), PB D cy A s S H locs → lv_has ls 7 [] → W p l e R s m args below meth c H locs 0 0 (vx_MQ below (va_Qi post (PQ D cy A) A) (XT D cy A pox) args s 1 9 A) (F0 m 37 ls []) := by
  intro S h H locs ls B hl
  unfold wX8_act_37 at h
  exact g_throw (j := 1) (is := 120) (ic := 100) M B X hl0 hout hlk (by decide +kernel) (by decide) rfl wcX8_96 wn_IllegalArgumentException (by decide +kernel) (by decide +kernel) (by decide +kernel) hl.1 (Nat.le_trans (by decide) hRf) (Nat.le_trans (by decide) hRl) (Nat.le_trans (by decide) hRc) (Nat.le_trans (by decide) hRs) ct_0 (by decide) (by decide) (by decide) dX8_act_37 dX8_act_40 dX8_act_41 dX8_act_43 dX8_act_46 h
set_option maxRecDepth 100000 in
set_option maxHeartbeats 4000000 in
theorem tX8_act {pox : String → Pool → Prop} {post : Int32 → Pool → Prop} (M : MC p m c cX8_act 7 s args RX8) (hr : meth.sig.returnType = (some FieldType.int)) (hlk : meth.locks = false) (hRf : 6 ≤ R.frames) (hRl : 90 ≤ R.locals) (hRc : 1 ≤ R.cells) (hRs : 9 ≤ R.slots) (X : EX adK adV A s) (hl0 : l.stackTraces = false) (hout : ∀ x ∈ c.exceptionTable.toList, False) : ∀ (v0 : Option Nat) (v1 : Int32) (v2 : Int32) (v3 : Int32) (v4 : Int32) (v5 : Int32) (S : Pool), wX8_act pox post v0 v1 v2 v3 v4 v5 S → ∀ (H : Heap) (locs : List Loc) (ls : Array Slot), PB D cy A s S H locs → lv_has ls 7 [(0, va_rf v0), (1, .int v1), (2, .int v2), (3, .int v3), (4, .int v4), (5, .int v5)] → W p l e R s m args below meth c H locs 0 0 (vx_MQ below (va_Qi post (PQ D cy A) A) (XT D cy A pox) args s 1 9 A) (F0 m 0 ls []) := by
  intro v0 v1 v2 v3 v4 v5 S h H locs ls B hl
  unfold wX8_act at h
  refine lv_iload_n M.1 M.2.1 dX8_act_0 rfl (lv_at hl 1 rfl) ?_
  refine lv_bipush (v := 8) M.1 M.2.1 dX8_act_1 (by decide) ?_
  refine g_calli (k1 := 0) (k2 := 0) B (g_runS (n := 2) (As := [.int v1, .int 8]) (rm := rmX8_isBelow) M B (kX8_isBelow (v0 := v1) (v1 := 8) l D cy h _) wmX8_116 wstX8_isBelow wnX8 wcdX8_isBelow ⟨by decide, by decide, by decide +kernel⟩ ⟨Nat.le_trans (by decide) hRf, Nat.le_trans (by decide) hRl⟩ ⟨Nat.le_trans (by decide) hRc, Nat.le_trans (by decide) hRs⟩ rfl hl.1 rfl ct_0 (by decide) dX8_act_3) (by decide) (by decide) (fun a2 S1 H locs h B => ?_)
  refine lv_if_eq (tgt := 37) M.1 M.2.1 dX8_act_6 (by decide) (fun c3 => ?_) (fun c3 => ?_)
  · have h := h.1 c3
    exact tX8_act_37 M hr hlk hRf hRl hRc hRs X hl0 hout _ h _ _ _ B (lv_sub hl [] rfl)
  · have h := h.2 c3
    refine lv_iload_n M.1 M.2.1 dX8_act_9 rfl (lv_at hl 2 rfl) ?_
    refine lv_bipush (v := 31) M.1 M.2.1 dX8_act_10 (by decide) ?_
    refine g_calli (k1 := 0) (k2 := 0) B (g_runS (n := 2) (As := [.int v2, .int 31]) (rm := rmX8_isBelow) M B (kX8_isBelow (v0 := v2) (v1 := 31) l D cy h _) wmX8_116 wstX8_isBelow wnX8 wcdX8_isBelow ⟨by decide, by decide, by decide +kernel⟩ ⟨Nat.le_trans (by decide) hRf, Nat.le_trans (by decide) hRl⟩ ⟨Nat.le_trans (by decide) hRc, Nat.le_trans (by decide) hRs⟩ rfl hl.1 rfl ct_0 (by decide) dX8_act_12) (by decide) (by decide) (fun a5 S4 H locs h B => ?_)
    refine lv_if_eq (tgt := 37) M.1 M.2.1 dX8_act_15 (by decide) (fun c6 => ?_) (fun c6 => ?_)
    · have h := h.1 c6
      exact tX8_act_37 M hr hlk hRf hRl hRc hRs X hl0 hout _ h _ _ _ B (lv_sub hl [] rfl)
    · have h := h.2 c6
      refine lv_iload_n M.1 M.2.1 dX8_act_18 rfl (lv_at hl 3 rfl) ?_
      refine lv_bipush (v := 31) M.1 M.2.1 dX8_act_19 (by decide) ?_
      refine g_calli (k1 := 0) (k2 := 0) B (g_runS (n := 2) (As := [.int v3, .int 31]) (rm := rmX8_isBelow) M B (kX8_isBelow (v0 := v3) (v1 := 31) l D cy h _) wmX8_116 wstX8_isBelow wnX8 wcdX8_isBelow ⟨by decide, by decide, by decide +kernel⟩ ⟨Nat.le_trans (by decide) hRf, Nat.le_trans (by decide) hRl⟩ ⟨Nat.le_trans (by decide) hRc, Nat.le_trans (by decide) hRs⟩ rfl hl.1 rfl ct_0 (by decide) dX8_act_21) (by decide) (by decide) (fun a8 S7 H locs h B => ?_)
      refine lv_if_eq (tgt := 37) M.1 M.2.1 dX8_act_24 (by decide) (fun c9 => ?_) (fun c9 => ?_)
      · have h := h.1 c9
        exact tX8_act_37 M hr hlk hRf hRl hRc hRs X hl0 hout _ h _ _ _ B (lv_sub hl [] rfl)
      · have h := h.2 c9
        refine lv_iload M.1 M.2.1 dX8_act_27 (lv_at hl 4 rfl) ?_
        refine lv_bipush (v := 16) M.1 M.2.1 dX8_act_29 (by decide) ?_
        refine g_calli (k1 := 0) (k2 := 0) B (g_runS (n := 2) (As := [.int v4, .int 16]) (rm := rmX8_isBelow) M B (kX8_isBelow (v0 := v4) (v1 := 16) l D cy h _) wmX8_116 wstX8_isBelow wnX8 wcdX8_isBelow ⟨by decide, by decide, by decide +kernel⟩ ⟨Nat.le_trans (by decide) hRf, Nat.le_trans (by decide) hRl⟩ ⟨Nat.le_trans (by decide) hRc, Nat.le_trans (by decide) hRs⟩ rfl hl.1 rfl ct_0 (by decide) dX8_act_31) (by decide) (by decide) (fun a11 S10 H locs h B => ?_)
        refine lv_if_ne (tgt := 47) M.1 M.2.1 dX8_act_34 (by decide) (fun c12 => ?_) (fun c12 => ?_)
        · have h := h.2 c12
          refine lv_iload M.1 M.2.1 dX8_act_47 (lv_at hl 5 rfl) ?_
          refine lv_if_lt (tgt := 61) M.1 M.2.1 dX8_act_49 (by decide) (fun c13 => ?_) (fun c13 => ?_)
          · have h := h.1 c13
            exact tX8_act_61 M hr hlk hRf hRl hRc hRs X hl0 hout _ h _ _ _ B (lv_sub hl [] rfl)
          · have h := h.2 c13
            refine lv_iload M.1 M.2.1 dX8_act_52 (lv_at hl 5 rfl) ?_
            refine g_aload_n M dX8_act_54 rfl (lv_at hl 0 rfl) ?_
            refine gfX8_103 M B dX8_act_55 h (fun a14 h => ?_)
            refine lv_icmp_le (tgt := 71) M.1 M.2.1 dX8_act_58 (by decide) (fun c15 => ?_) (fun c15 => ?_)
            · have h := h.1 c15
              refine g_aload_n M dX8_act_71 rfl (lv_at hl 0 rfl) ?_
              refine gfX8_28 M B dX8_act_72 h (fun a16 h => ?_)
              refine lv_iload_n M.1 M.2.1 dX8_act_75 rfl (lv_at hl 1 rfl) ?_
              refine lv_iload_n M.1 M.2.1 dX8_act_76 rfl (lv_at hl 2 rfl) ?_
              refine lv_iload_n M.1 M.2.1 dX8_act_77 rfl (lv_at hl 3 rfl) ?_
              refine lv_iload M.1 M.2.1 dX8_act_78 (lv_at hl 4 rfl) ?_
              refine lv_iload M.1 M.2.1 dX8_act_80 (lv_at hl 5 rfl) ?_
              obtain ⟨o1, e1, hL1, hK1, h⟩ := h
              refine g_calli (k1 := 0) (k2 := 0) B (g_runV (n := 5) (As := [.int v1, .int v2, .int v3, .int v4, .int v5]) (rm := rmX2_tookDouble) M B e1 (kX2_tookDouble (v0 := a16) (v1 := v1) (v2 := v2) (v3 := v3) (v4 := v4) (v5 := v5) l D cy h _) wmX8_124 wiX2_tookDouble wsX2_tookDouble wnX2 wcdX2_tookDouble ⟨rfl, by decide, by decide, by decide +kernel⟩ ⟨Nat.le_trans (by decide) hRf, Nat.le_trans (by decide) hRl⟩ ⟨Nat.le_trans (by decide) hRc, Nat.le_trans (by decide) hRs⟩ hL1 hK1 (by decide) rfl rfl rfl hl.1 rfl ct_0 (by decide) dX8_act_82) (by decide) (by decide) (fun a18 S17 H locs h B => ?_)
              refine lv_if_eq (tgt := 90) M.1 M.2.1 dX8_act_85 (by decide) (fun c19 => ?_) (fun c19 => ?_)
              · have h := h.1 c19
                refine g_aload_n M dX8_act_90 rfl (lv_at hl 0 rfl) ?_
                refine gfX8_28 M B dX8_act_91 h (fun a20 h => ?_)
                refine gfX8_128 M B dX8_act_94 h (fun a21 h => ?_)
                refine lv_sipush (v := 250) M.1 M.2.1 dX8_act_97 (by decide) ?_
                refine lv_icmp_lt (tgt := 113) M.1 M.2.1 dX8_act_100 (by decide) (fun c22 => ?_) (fun c22 => ?_)
                · have h := h.1 c22
                  refine g_aload_n M dX8_act_113 rfl (lv_at hl 0 rfl) ?_
                  refine gfX8_28 M B dX8_act_114 h (fun a23 h => ?_)
                  refine gfX8_128 M B dX8_act_117 h (fun a24 h => ?_)
                  refine lv_istore (lv' := [(6, .int a24), (0, va_rf v0), (1, .int v1), (2, .int v2), (3, .int v3), (4, .int v4), (5, .int v5)]) M.1 M.2.1 dX8_act_120 hl (by decide) (fl_e (fl_k rfl rfl (fl_k rfl rfl (fl_k rfl rfl (fl_k rfl rfl (fl_k rfl rfl (fl_i rfl fl_0))))))) (fun ls hl => ?_)
                  refine g_aload_n M dX8_act_122 rfl (lv_at hl 1 rfl) ?_
                  refine gfX8_28 M B dX8_act_123 h (fun a25 h => ?_)
                  refine gnX8_136 M B (Nat.le_trans (by decide) hRc) (Nat.le_trans (by decide) hRs) dX8_act_126 h (fun a26 S27 H locs h B => ?_)
                  refine W.widen (k := 1) (n := 9) (by decide) (by decide) ?_
                  refine lv_dup M.1 M.2.1 dX8_act_129 (rf_cat _) ?_
                  refine lv_iload M.1 M.2.1 dX8_act_130 (lv_at hl 0 rfl) ?_
                  refine lv_iload_n M.1 M.2.1 dX8_act_132 rfl (lv_at hl 2 rfl) ?_
                  refine lv_iload_n M.1 M.2.1 dX8_act_133 rfl (lv_at hl 3 rfl) ?_
                  refine lv_iload_n M.1 M.2.1 dX8_act_134 rfl (lv_at hl 4 rfl) ?_
                  refine lv_iload M.1 M.2.1 dX8_act_135 (lv_at hl 5 rfl) ?_
                  refine lv_iload M.1 M.2.1 dX8_act_137 (lv_at hl 6 rfl) ?_
                  refine g_aload_n M dX8_act_139 rfl (lv_at hl 1 rfl) ?_
                  refine gfX8_103 M B dX8_act_140 h (fun a28 h => ?_)
                  obtain ⟨⟨o1, e1⟩, h⟩ := h
                  refine g_callv (k1 := 1) (k2 := 9) B (g_runI (n := 7) (As := [.int a24, .int v1, .int v2, .int v3, .int v4, .int v5, .int a28]) (rm := rmX0_init) M B e1 (kX0_init (v0 := a26) (v1 := a24) (v2 := v1) (v3 := v2) (v4 := v3) (v5 := v4) (v6 := v5) (v7 := a28) l D cy h _) wmX8_138 wiX0_init wnX0 wcdX0_init rfl ⟨by decide, by decide, by decide +kernel⟩ ⟨Nat.le_trans (by decide) hRf, Nat.le_trans (by decide) hRl⟩ ⟨Nat.le_trans (by decide) hRc, Nat.le_trans (by decide) hRs⟩ rfl hl.1 rfl (ct_r (ct_r ct_0)) (by decide) dX8_act_143) (by decide) (by decide) (fun S29 H locs h B => ?_)
                  obtain ⟨o1, e1, hL1, hK1, h⟩ := h
                  refine g_callv (k1 := 1) (k2 := 9) B (g_runV (n := 1) (As := [va_rf a26]) (rm := rmX2_add) M B e1 (kX2_add (v0 := a25) (v1 := a26) l D cy h _) wmX8_141 wiX2_add wsX2_add wnX2 wcdX2_add ⟨rfl, by decide, by decide, by decide +kernel⟩ ⟨Nat.le_trans (by decide) hRf, Nat.le_trans (by decide) hRl⟩ ⟨Nat.le_trans (by decide) hRc, Nat.le_trans (by decide) hRs⟩ hL1 hK1 (by decide) rfl rfl rfl hl.1 rfl ct_0 (by decide) dX8_act_146) (by decide) (by decide) (fun S30 H locs h B => ?_)
                  refine g_aload_n M dX8_act_149 rfl (lv_at hl 1 rfl) ?_
                  refine lv_dup M.1 M.2.1 dX8_act_150 (rf_cat _) ?_
                  refine gfX8_113 M B dX8_act_151 h (fun a31 h => ?_)
                  refine lv_iconst (v := 1) M.1 M.2.1 dX8_act_154 (by decide) ?_
                  refine lv_iadd M.1 M.2.1 dX8_act_155 ?_
                  refine gpX8_113 M B dX8_act_156 h (fun S32 H locs h B => ?_)
                  refine lv_iload M.1 M.2.1 dX8_act_159 (lv_at hl 0 rfl) ?_
                  exact vx_ret (g_iret M B hr hlk h (by decide) (by decide) dX8_act_161)
                · have h := h.2 c22
                  exact g_throw (j := 3) (is := 133) (ic := 135) M B X hl0 hout hlk (by decide +kernel) (by decide) rfl wcX8_131 wn_UnsupportedOperationException (by decide +kernel) (by decide +kernel) (by decide +kernel) hl.1 (Nat.le_trans (by decide) hRf) (Nat.le_trans (by decide) hRl) (Nat.le_trans (by decide) hRc) (Nat.le_trans (by decide) hRs) ct_0 (by decide) (by decide) (by decide) dX8_act_103 dX8_act_106 dX8_act_107 dX8_act_109 dX8_act_112 h
              · have h := h.2 c19
                refine lv_iconst (v := (-1)) M.1 M.2.1 dX8_act_88 (by decide) ?_
                exact vx_ret (g_iret M B hr hlk h (by decide) (by decide) dX8_act_89)
            · have h := h.2 c15
              exact tX8_act_61 M hr hlk hRf hRl hRc hRs X hl0 hout _ h _ _ _ B (lv_sub hl [] rfl)
        · have h := h.1 c12
          exact tX8_act_37 M hr hlk hRf hRl hRc hRs X hl0 hout _ h _ _ _ B (lv_sub hl [] rfl)
end
set_option maxRecDepth 100000 in
set_option maxHeartbeats 4000000 in
theorem kX8_act (l : Launch) (D : va_G) (cy : Nat → ClassId) (adK adV : Nat → Nat) (hl0 : l.stackTraces = false) {pox : String → Pool → Prop} {post : Int32 → Pool → Prop} {v0 : Option Nat} {v1 : Int32} {v2 : Int32} {v3 : Int32} {v4 : Int32} {v5 : Int32} {S : Pool} (h : wX8_act pox post v0 v1 v2 v3 v4 v5 S) : MetIT l adK adV yX8_act cX8_act 7 (some FieldType.int) rmX8_act [va_rf v0, .int v1, .int v2, .int v3, .int v4, .int v5] D cy S pox post := by
  intro sz
  refine vx_ofW (cc := cX8_act) (maxL := 7) (ret := (some FieldType.int)) (by decide) rfl ?_
  intro p e s m args below meth c s₁ B0 hml hout hv
  obtain ⟨rfl, hpp⟩ := hv
  have hts := atoms_spec (ws := .code yX8_act cX8_act 7 (some FieldType.int) :: Gw) B0.pre
  obtain rfl : s.heap.size = sz := hpp.1.1
  have hl := lv_entry [va_rf v0, .int v1, .int v2, .int v3, .int v4, .int v5] (n := 7) (by rw [sl_r, sl_i, sl_i, sl_i, sl_i, sl_i, sl_0]; decide)
  rw [lg_entry_eq]
  rw [la_r, la_i, la_i, la_i, la_i, la_i, la_0] at hl
  exact tX8_act (l := l) (R := rmX8_act) ⟨B0.exec, B0.bytes, hml, findClass_of_methodNamed B0.named, fun w hw => hts w (List.mem_cons_of_mem _ hw)⟩ B0.returns B0.notSynchronized (Nat.le_refl _) (Nat.le_refl _) (Nat.le_refl _) (Nat.le_refl _) hpp.ex hl0 hout _ _ _ _ _ _ _ h _ _ _ hpp.1.pb (lv_sub hl [0, 1, 2, 3, 4, 5] rfl)
-- X8_actAt: LogHunt.actAt(I)LLogHunt$Act;
def wX8_actAt (pox : String → Pool → Prop) (post : Option Nat → Pool → Prop) (v0 : Option Nat) (v1 : Int32) (S : Pool) : Prop := xR S v0 8 2 fun a1 => xrc S a1 2 (wX2_actAt (fun a3 S2 => br (a3 = none) (pox "java/lang/IndexOutOfBoundsException" S2) (post a3 S2)) a1 v1 S)
def rmX8_actAt : Room := { frames := 6, cells := 1, slots := 6, locals := 90 }
section
variable {p : Program} {l : Launch} {e : Env} {R : Room} {s : State} {m : MethodId} {args : Array Value} {below : List Frame} {meth : Method} {c : Code} {D : va_G} {cy : Nat → ClassId} {A : Nat → Prop} {adK adV : Nat → Nat}
set_option maxRecDepth 100000 in
set_option maxHeartbeats 4000000 in
theorem tX8_actAt {pox : String → Pool → Prop} {post : Option Nat → Pool → Prop} (M : MC p m c cX8_actAt 3 s args RX8) (hr : meth.sig.returnType = (some (FieldType.object "LogHunt$Act"))) (hlk : meth.locks = false) (hRf : 6 ≤ R.frames) (hRl : 90 ≤ R.locals) (hRc : 1 ≤ R.cells) (hRs : 6 ≤ R.slots) (X : EX adK adV A s) (hl0 : l.stackTraces = false) (hout : ∀ x ∈ c.exceptionTable.toList, False) : ∀ (v0 : Option Nat) (v1 : Int32) (S : Pool), wX8_actAt pox post v0 v1 S → ∀ (H : Heap) (locs : List Loc) (ls : Array Slot), PB D cy A s S H locs → lv_has ls 3 [(0, va_rf v0), (1, .int v1)] → W p l e R s m args below meth c H locs 0 0 (vx_MQ below (va_Qq post (PQ D cy A) A) (XT D cy A pox) args s 1 6 A) (F0 m 0 ls []) := by
  intro v0 v1 S h H locs ls B hl
  unfold wX8_actAt at h
  refine g_aload_n M dX8_actAt_0 rfl (lv_at hl 0 rfl) ?_
  refine gfX8_28 M B dX8_actAt_1 h (fun a1 h => ?_)
  refine lv_iload_n M.1 M.2.1 dX8_actAt_4 rfl (lv_at hl 1 rfl) ?_
  obtain ⟨o1, e1, hL1, hK1, h⟩ := h
  refine g_callr (k1 := 0) (k2 := 0) B (g_runV (n := 1) (As := [.int v1]) (rm := rmX2_actAt) M B e1 (kX2_actAt (v0 := a1) (v1 := v1) l D cy h _) wmX8_264 wiX2_actAt wsX2_actAt wnX2 wcdX2_actAt ⟨rfl, by decide, by decide, by decide +kernel⟩ ⟨Nat.le_trans (by decide) hRf, Nat.le_trans (by decide) hRl⟩ ⟨Nat.le_trans (by decide) hRc, Nat.le_trans (by decide) hRs⟩ hL1 hK1 (by decide) rfl rfl rfl hl.1 rfl ct_0 (by decide) dX8_actAt_5) (by decide) (by decide) (fun a3 S2 H locs h B => ?_)
  refine g_astore_n (lv' := [(2, va_rf a3), (0, va_rf v0), (1, .int v1)]) M dX8_actAt_8 rfl hl (by decide) (fl_e (fl_k rfl rfl (fl_i rfl fl_0))) (fun ls hl => ?_)
  refine g_aload_n M dX8_actAt_9 rfl (lv_at hl 0 rfl) ?_
  refine g_ifnonnull (tgt := 24) M dX8_actAt_10 (by decide) (fun c4 => ?_) (fun c4 => ?_)
  · have h := h.2 c4
    refine g_aload_n M dX8_actAt_24 rfl (lv_at hl 0 rfl) ?_
    exact vx_ret (g_aret M B hr hlk h (by decide) (by decide) dX8_actAt_25)
  · have h := h.1 c4
    exact g_throwW (j := 4) (is := 265) (ic := 179) M B X hl0 hout hlk (by decide +kernel) (by decide) rfl wcX8_175 wn_IndexOutOfBoundsException (by decide +kernel) (by decide +kernel) (by decide +kernel) hl.1 (Nat.le_trans (by decide) hRf) (Nat.le_trans (by decide) hRl) (Nat.le_trans (by decide) hRc) (Nat.le_trans (by decide) hRs) ct_0 (by decide) (by decide) (by decide) dX8_actAt_13 dX8_actAt_16 dX8_actAt_17 dX8_actAt_20 dX8_actAt_23 h
end
set_option maxRecDepth 100000 in
set_option maxHeartbeats 4000000 in
theorem kX8_actAt (l : Launch) (D : va_G) (cy : Nat → ClassId) (adK adV : Nat → Nat) (hl0 : l.stackTraces = false) {pox : String → Pool → Prop} {post : Option Nat → Pool → Prop} {v0 : Option Nat} {v1 : Int32} {S : Pool} (h : wX8_actAt pox post v0 v1 S) : MetRT l adK adV yX8_actAt cX8_actAt 3 (some (FieldType.object "LogHunt$Act")) rmX8_actAt [va_rf v0, .int v1] D cy S pox post := by
  intro sz
  refine vx_ofW (cc := cX8_actAt) (maxL := 3) (ret := (some (FieldType.object "LogHunt$Act"))) (by decide) rfl ?_
  intro p e s m args below meth c s₁ B0 hml hout hv
  obtain ⟨rfl, hpp⟩ := hv
  have hts := atoms_spec (ws := .code yX8_actAt cX8_actAt 3 (some (FieldType.object "LogHunt$Act")) :: Gw) B0.pre
  obtain rfl : s.heap.size = sz := hpp.1.1
  have hl := lv_entry [va_rf v0, .int v1] (n := 3) (by rw [sl_r, sl_i, sl_0]; decide)
  rw [lg_entry_eq]
  rw [la_r, la_i, la_0] at hl
  exact tX8_actAt (l := l) (R := rmX8_actAt) ⟨B0.exec, B0.bytes, hml, findClass_of_methodNamed B0.named, fun w hw => hts w (List.mem_cons_of_mem _ hw)⟩ B0.returns B0.notSynchronized (Nat.le_refl _) (Nat.le_refl _) (Nat.le_refl _) (Nat.le_refl _) hpp.ex hl0 hout _ _ _ h _ _ _ hpp.1.pb (lv_sub hl [0, 1] rfl)
-- X8_may: LogHunt.may(II)V
def wX8_may_28 (pox : String → Pool → Prop) (post : Pool → Prop) (S : Pool) : Prop := pox "java/lang/IllegalArgumentException" S
def wX8_may (pox : String → Pool → Prop) (post : Pool → Prop) (v0 : Option Nat) (v1 : Int32) (v2 : Int32) (S : Pool) : Prop := wX8_isBelow (fun a2 S1 => br (a2 = 0) (pox "java/lang/IndexOutOfBoundsException" S1) (br (v2 < 0) (wX8_may_28 pox post S1) (br (v2 ≤ 7) (xR S1 v0 8 6 fun a6 => xsI S1 a6 10 v1 v2 fun S7 => post S7) (wX8_may_28 pox post S1)))) v1 4 S
def rmX8_may : Room := { frames := 6, cells := 1, slots := 6, locals := 90 }
section
variable {p : Program} {l : Launch} {e : Env} {R : Room} {s : State} {m : MethodId} {args : Array Value} {below : List Frame} {meth : Method} {c : Code} {D : va_G} {cy : Nat → ClassId} {A : Nat → Prop} {adK adV : Nat → Nat}
set_option maxRecDepth 100000 in
set_option maxHeartbeats 4000000 in
theorem tX8_may_28 {pox : String → Pool → Prop} {post : Pool → Prop} (M : MC p m c cX8_may 3 s args RX8) (hr : meth.sig.returnType = none) (hlk : meth.locks = false) (hRf : 6 ≤ R.frames) (hRl : 90 ≤ R.locals) (hRc : 1 ≤ R.cells) (hRs : 6 ≤ R.slots) (X : EX adK adV A s) (hl0 : l.stackTraces = false) (hout : ∀ x ∈ c.exceptionTable.toList, False) : ∀ (S : Pool), wX8_may_28 pox post S → ∀ (H : Heap) (locs : List Loc) (ls : Array Slot), PB D cy A s S H locs → lv_has ls 3 [] → W p l e R s m args below meth c H locs 0 0 (vx_MQ below (va_Qv post (PQ D cy A) A) (XT D cy A pox) args s 1 6 A) (F0 m 28 ls []) := by
  intro S h H locs ls B hl
  unfold wX8_may_28 at h
  exact g_throw (j := 7) (is := 180) (ic := 100) M B X hl0 hout hlk (by decide +kernel) (by decide) rfl wcX8_96 wn_IllegalArgumentException (by decide +kernel) (by decide +kernel) (by decide +kernel) hl.1 (Nat.le_trans (by decide) hRf) (Nat.le_trans (by decide) hRl) (Nat.le_trans (by decide) hRc) (Nat.le_trans (by decide) hRs) ct_0 (by decide) (by decide) (by decide) dX8_may_28 dX8_may_31 dX8_may_32 dX8_may_34 dX8_may_37 h
set_option maxRecDepth 100000 in
set_option maxHeartbeats 4000000 in
theorem tX8_may {pox : String → Pool → Prop} {post : Pool → Prop} (M : MC p m c cX8_may 3 s args RX8) (hr : meth.sig.returnType = none) (hlk : meth.locks = false) (hRf : 6 ≤ R.frames) (hRl : 90 ≤ R.locals) (hRc : 1 ≤ R.cells) (hRs : 6 ≤ R.slots) (X : EX adK adV A s) (hl0 : l.stackTraces = false) (hout : ∀ x ∈ c.exceptionTable.toList, False) : ∀ (v0 : Option Nat) (v1 : Int32) (v2 : Int32) (S : Pool), wX8_may pox post v0 v1 v2 S → ∀ (H : Heap) (locs : List Loc) (ls : Array Slot), PB D cy A s S H locs → lv_has ls 3 [(0, va_rf v0), (1, .int v1), (2, .int v2)] → W p l e R s m args below meth c H locs 0 0 (vx_MQ below (va_Qv post (PQ D cy A) A) (XT D cy A pox) args s 1 6 A) (F0 m 0 ls []) := by
  intro v0 v1 v2 S h H locs ls B hl
  unfold wX8_may at h
  refine lv_iload_n M.1 M.2.1 dX8_may_0 rfl (lv_at hl 1 rfl) ?_
  refine lv_iconst (v := 4) M.1 M.2.1 dX8_may_1 (by decide) ?_
  refine g_calli (k1 := 0) (k2 := 0) B (g_runS (n := 2) (As := [.int v1, .int 4]) (rm := rmX8_isBelow) M B (kX8_isBelow (v0 := v1) (v1 := 4) l D cy h _) wmX8_116 wstX8_isBelow wnX8 wcdX8_isBelow ⟨by decide, by decide, by decide +kernel⟩ ⟨Nat.le_trans (by decide) hRf, Nat.le_trans (by decide) hRl⟩ ⟨Nat.le_trans (by decide) hRc, Nat.le_trans (by decide) hRs⟩ rfl hl.1 rfl ct_0 (by decide) dX8_may_2) (by decide) (by decide) (fun a2 S1 H locs h B => ?_)
  refine lv_if_ne (tgt := 18) M.1 M.2.1 dX8_may_5 (by decide) (fun c3 => ?_) (fun c3 => ?_)
  · have h := h.2 c3
    refine lv_iload_n M.1 M.2.1 dX8_may_18 rfl (lv_at hl 2 rfl) ?_
    refine lv_if_lt (tgt := 28) M.1 M.2.1 dX8_may_19 (by decide) (fun c4 => ?_) (fun c4 => ?_)
    · have h := h.1 c4
      exact tX8_may_28 M hr hlk hRf hRl hRc hRs X hl0 hout _ h _ _ _ B (lv_sub hl [] rfl)
    · have h := h.2 c4
      refine lv_iload_n M.1 M.2.1 dX8_may_22 rfl (lv_at hl 2 rfl) ?_
      refine lv_bipush (v := 7) M.1 M.2.1 dX8_may_23 (by decide) ?_
      refine lv_icmp_le (tgt := 38) M.1 M.2.1 dX8_may_25 (by decide) (fun c5 => ?_) (fun c5 => ?_)
      · have h := h.1 c5
        refine g_aload_n M dX8_may_38 rfl (lv_at hl 0 rfl) ?_
        refine gfX8_54 M B dX8_may_39 h (fun a6 h => ?_)
        refine lv_iload_n M.1 M.2.1 dX8_may_42 rfl (lv_at hl 1 rfl) ?_
        refine lv_iload_n M.1 M.2.1 dX8_may_43 rfl (lv_at hl 2 rfl) ?_
        refine g_iast M B dX8_may_44 h (fun S7 H locs h B => ?_)
        exact vx_ret (g_vret M B hr hlk h (by decide) (by decide) dX8_may_45)
      · have h := h.2 c5
        exact tX8_may_28 M hr hlk hRf hRl hRc hRs X hl0 hout _ h _ _ _ B (lv_sub hl [] rfl)
  · have h := h.1 c3
    exact g_throw (j := 6) (is := 177) (ic := 179) M B X hl0 hout hlk (by decide +kernel) (by decide) rfl wcX8_175 wn_IndexOutOfBoundsException (by decide +kernel) (by decide +kernel) (by decide +kernel) hl.1 (Nat.le_trans (by decide) hRf) (Nat.le_trans (by decide) hRl) (Nat.le_trans (by decide) hRc) (Nat.le_trans (by decide) hRs) ct_0 (by decide) (by decide) (by decide) dX8_may_8 dX8_may_11 dX8_may_12 dX8_may_14 dX8_may_17 h
end
set_option maxRecDepth 100000 in
set_option maxHeartbeats 4000000 in
theorem kX8_may (l : Launch) (D : va_G) (cy : Nat → ClassId) (adK adV : Nat → Nat) (hl0 : l.stackTraces = false) {pox : String → Pool → Prop} {post : Pool → Prop} {v0 : Option Nat} {v1 : Int32} {v2 : Int32} {S : Pool} (h : wX8_may pox post v0 v1 v2 S) : MetVT l adK adV yX8_may cX8_may 3 rmX8_may [va_rf v0, .int v1, .int v2] D cy S pox post := by
  intro sz
  refine vx_ofW (cc := cX8_may) (maxL := 3) (ret := none) (by decide) rfl ?_
  intro p e s m args below meth c s₁ B0 hml hout hv
  obtain ⟨rfl, hpp⟩ := hv
  have hts := atoms_spec (ws := .code yX8_may cX8_may 3 none :: Gw) B0.pre
  obtain rfl : s.heap.size = sz := hpp.1.1
  have hl := lv_entry [va_rf v0, .int v1, .int v2] (n := 3) (by rw [sl_r, sl_i, sl_i, sl_0]; decide)
  rw [lg_entry_eq]
  rw [la_r, la_i, la_i, la_0] at hl
  exact tX8_may (l := l) (R := rmX8_may) ⟨B0.exec, B0.bytes, hml, findClass_of_methodNamed B0.named, fun w hw => hts w (List.mem_cons_of_mem _ hw)⟩ B0.returns B0.notSynchronized (Nat.le_refl _) (Nat.le_refl _) (Nat.le_refl _) (Nat.le_refl _) hpp.ex hl0 hout _ _ _ _ h _ _ _ hpp.1.pb (lv_sub hl [0, 1, 2] rfl)
-- X8_ask: LogHunt.ask(I)I
def wX8_ask_54 (pox : String → Pool → Prop) (post : Int32 → Pool → Prop) (v0 : Option Nat) (v1 : Int32) (v2 : Int32) (z0 : Int32) (z1 : Option Nat) (S : Pool) : Prop := xpI S z1 8 13 z0 fun S1 => br (v2 = 0) (pox "java/lang/IllegalArgumentException" S1) (xR S1 v0 8 8 fun a3 => xI S1 a3 3 7 fun a4 => xR S1 v0 8 6 fun a5 => xaI S1 a5 10 v1 fun a6 => br ((a4 &&& (a6 ^^^ ((-1)))) = 0) (xI S1 v0 8 9 fun a8 => br (a8 < 8) (xI S1 v0 8 9 fun a10 => xR S1 v0 8 5 fun a11 => xR S1 v0 8 8 fun a12 => xsR S1 a11 13 3 a10 a12 fun S13 => xnw S13 3 fun a14 S15 => xnn a14 (wX3_init (fun S16 => xpR S16 v0 8 8 a14 fun S17 => xpI S17 v0 8 9 (a10 + 1) fun S18 => xI S18 v0 8 14 fun a19 => xpI S18 v0 8 14 (a19 + 1) fun S20 => post a10 S20) a14 S15)) (pox "java/lang/UnsupportedOperationException" S1)) (pox "java/lang/IllegalStateException" S1))
def wX8_ask (pox : String → Pool → Prop) (post : Int32 → Pool → Prop) (v0 : Option Nat) (v1 : Int32) (S : Pool) : Prop := xR S v0 8 1 fun a1 => xR S v0 8 8 fun a2 => xrc S a1 4 (wX4_reads (fun a4 S3 => xR S3 v0 8 0 fun a5 => xpI S3 a5 7 1 0 fun S6 => wX8_isBelow (fun a8 S7 => br (a8 = 0) (pox "java/lang/IndexOutOfBoundsException" S7) (br (a4 = 0) (xR S7 v0 8 1 fun a11 => xI S7 a11 4 2 fun a12 => wX8_ask_54 pox post v0 v1 a4 a12 v0 S7) (wX8_ask_54 pox post v0 v1 a4 ((-1)) v0 S7))) v1 4 S6) a1 a2 S)
def rmX8_ask : Room := { frames := 9, cells := 8, slots := 62, locals := 200 }
section
variable {p : Program} {l : Launch} {e : Env} {R : Room} {s : State} {m : MethodId} {args : Array Value} {below : List Frame} {meth : Method} {c : Code} {D : va_G} {cy : Nat → ClassId} {A : Nat → Prop} {adK adV : Nat → Nat}
set_option maxRecDepth 100000 in
set_option maxHeartbeats 4000000 in
theorem tX8_ask_54 {pox : String → Pool → Prop} {post : Int32 → Pool → Prop} (M : MC p m c cX8_ask 4 s args RX8) (hr : meth.sig.returnType = (some FieldType.int)) (hlk : meth.locks = false) (hRf : 9 ≤ R.frames) (hRl : 200 ≤ R.locals) (hRc : 8 ≤ R.cells) (hRs : 62 ≤ R.slots) (X : EX adK adV A s) (hl0 : l.stackTraces = false) (hout : ∀ x ∈ c.exceptionTable.toList, False) : ∀ (v0 : Option Nat) (v1 : Int32) (v2 : Int32) (z0 : Int32) (z1 : Option Nat) (S : Pool), wX8_ask_54 pox post v0 v1 v2 z0 z1 S → ∀ (H : Heap) (locs : List Loc) (ls : Array Slot), PB D cy A s S H locs → lv_has ls 4 [(0, va_rf v0), (1, .int v1), (2, .int v2)] → W p l e R s m args below meth c H locs 0 0 (vx_MQ below (va_Qi post (PQ D cy A) A) (XT D cy A pox) args s 8 62 A) (F0 m 54 ls [.int z0, va_rf z1]) := by
  intro v0 v1 v2 z0 z1 S h H locs ls B hl
  unfold wX8_ask_54 at h
  refine gpX8_78 M B dX8_ask_54 h (fun S1 H locs h B => ?_)
  refine lv_iload_n M.1 M.2.1 dX8_ask_57 rfl (lv_at hl 2 rfl) ?_
  refine lv_if_ne (tgt := 71) M.1 M.2.1 dX8_ask_58 (by decide) (fun c2 => ?_) (fun c2 => ?_)
  · have h := h.2 c2
    refine g_aload_n M dX8_ask_71 rfl (lv_at hl 0 rfl) ?_
    refine gfX8_70 M B dX8_ask_72 h (fun a3 h => ?_)
    refine gfX8_191 M B dX8_ask_75 h (fun a4 h => ?_)
    refine g_aload_n M dX8_ask_78 rfl (lv_at hl 0 rfl) ?_
    refine gfX8_54 M B dX8_ask_79 h (fun a5 h => ?_)
    refine lv_iload_n M.1 M.2.1 dX8_ask_82 rfl (lv_at hl 1 rfl) ?_
    refine g_iald M B dX8_ask_83 h (fun a6 h => ?_)
    refine lv_iconst (v := (-1)) M.1 M.2.1 dX8_ask_84 (by decide) ?_
    refine lv_ixor M.1 M.2.1 dX8_ask_85 ?_
    refine lv_iand M.1 M.2.1 dX8_ask_86 ?_
    refine lv_if_eq (tgt := 100) M.1 M.2.1 dX8_ask_87 (by decide) (fun c7 => ?_) (fun c7 => ?_)
    · have h := h.1 c7
      refine g_aload_n M dX8_ask_100 rfl (lv_at hl 0 rfl) ?_
      refine gfX8_199 M B dX8_ask_101 h (fun a8 h => ?_)
      refine lv_bipush (v := 8) M.1 M.2.1 dX8_ask_104 (by decide) ?_
      refine lv_icmp_lt (tgt := 119) M.1 M.2.1 dX8_ask_106 (by decide) (fun c9 => ?_) (fun c9 => ?_)
      · have h := h.1 c9
        refine g_aload_n M dX8_ask_119 rfl (lv_at hl 0 rfl) ?_
        refine gfX8_199 M B dX8_ask_120 h (fun a10 h => ?_)
        refine lv_istore_n (lv' := [(3, .int a10), (0, va_rf v0), (1, .int v1), (2, .int v2)]) M.1 M.2.1 dX8_ask_123 rfl hl (by decide) (fl_e (fl_k rfl rfl (fl_k rfl rfl (fl_i rfl fl_0)))) (fun ls hl => ?_)
        refine g_aload_n M dX8_ask_124 rfl (lv_at hl 1 rfl) ?_
        refine gfX8_50 M B dX8_ask_125 h (fun a11 h => ?_)
        refine lv_iload_n M.1 M.2.1 dX8_ask_128 rfl (lv_at hl 0 rfl) ?_
        refine g_aload_n M dX8_ask_129 rfl (lv_at hl 1 rfl) ?_
        refine gfX8_70 M B dX8_ask_130 h (fun a12 h => ?_)
        refine g_aast (kd := 13) (kv := 3) (t0 := 3) M B ⟨by decide, by decide⟩ (by decide) rfl rfl dX8_ask_133 h (fun S13 H locs h B => ?_)
        refine g_aload_n M dX8_ask_134 rfl (lv_at hl 1 rfl) ?_
        refine gnX8_48 M B (Nat.le_trans (by decide) hRc) (Nat.le_trans (by decide) hRs) dX8_ask_135 h (fun a14 S15 H locs h B => ?_)
        refine W.widen (k := 1) (n := 8) (by decide) (by decide) ?_
        refine lv_dup M.1 M.2.1 dX8_ask_138 (rf_cat _) ?_
        obtain ⟨⟨o1, e1⟩, h⟩ := h
        refine g_callv (k1 := 8) (k2 := 62) B (g_runI (n := 0) (As := []) (rm := rmX3_init) M B e1 (kX3_init (v0 := a14) l D cy h _) wmX8_69 wiX3_init wnX3 wcdX3_init rfl ⟨by decide, by decide, by decide +kernel⟩ ⟨Nat.le_trans (by decide) hRf, Nat.le_trans (by decide) hRl⟩ ⟨Nat.le_trans (by decide) hRc, Nat.le_trans (by decide) hRs⟩ rfl hl.1 rfl (ct_r (ct_r ct_0)) (by decide) dX8_ask_139) (by decide) (by decide) (fun S16 H locs h B => ?_)
        refine gpX8_70 M B dX8_ask_142 h (fun S17 H locs h B => ?_)
        refine g_aload_n M dX8_ask_145 rfl (lv_at hl 1 rfl) ?_
        refine lv_iload_n M.1 M.2.1 dX8_ask_146 rfl (lv_at hl 0 rfl) ?_
        refine lv_iconst (v := 1) M.1 M.2.1 dX8_ask_147 (by decide) ?_
        refine lv_iadd M.1 M.2.1 dX8_ask_148 ?_
        refine gpX8_199 M B dX8_ask_149 h (fun S18 H locs h B => ?_)
        refine g_aload_n M dX8_ask_152 rfl (lv_at hl 1 rfl) ?_
        refine lv_dup M.1 M.2.1 dX8_ask_153 (rf_cat _) ?_
        refine gfX8_113 M B dX8_ask_154 h (fun a19 h => ?_)
        refine lv_iconst (v := 1) M.1 M.2.1 dX8_ask_157 (by decide) ?_
        refine lv_iadd M.1 M.2.1 dX8_ask_158 ?_
        refine gpX8_113 M B dX8_ask_159 h (fun S20 H locs h B => ?_)
        refine lv_iload_n M.1 M.2.1 dX8_ask_162 rfl (lv_at hl 0 rfl) ?_
        exact vx_ret (g_iret M B hr hlk h (by decide) (by decide) dX8_ask_163)
      · have h := h.2 c9
        exact g_throw (j := 10) (is := 202) (ic := 135) M B X hl0 hout hlk (by decide +kernel) (by decide) rfl wcX8_131 wn_UnsupportedOperationException (by decide +kernel) (by decide +kernel) (by decide +kernel) hl.1 (Nat.le_trans (by decide) hRf) (Nat.le_trans (by decide) hRl) (Nat.le_trans (by decide) hRc) (Nat.le_trans (by decide) hRs) ct_0 (by decide) (by decide) (by decide) dX8_ask_109 dX8_ask_112 dX8_ask_113 dX8_ask_115 dX8_ask_118 h
    · have h := h.2 c7
      exact g_throw (j := 9) (is := 196) (ic := 198) M B X hl0 hout hlk (by decide +kernel) (by decide) rfl wcX8_194 wn_IllegalStateException (by decide +kernel) (by decide +kernel) (by decide +kernel) hl.1 (Nat.le_trans (by decide) hRf) (Nat.le_trans (by decide) hRl) (Nat.le_trans (by decide) hRc) (Nat.le_trans (by decide) hRs) ct_0 (by decide) (by decide) (by decide) dX8_ask_90 dX8_ask_93 dX8_ask_94 dX8_ask_96 dX8_ask_99 h
  · have h := h.1 c2
    exact g_throw (j := 8) (is := 189) (ic := 100) M B X hl0 hout hlk (by decide +kernel) (by decide) rfl wcX8_96 wn_IllegalArgumentException (by decide +kernel) (by decide +kernel) (by decide +kernel) hl.1 (Nat.le_trans (by decide) hRf) (Nat.le_trans (by decide) hRl) (Nat.le_trans (by decide) hRc) (Nat.le_trans (by decide) hRs) ct_0 (by decide) (by decide) (by decide) dX8_ask_61 dX8_ask_64 dX8_ask_65 dX8_ask_67 dX8_ask_70 h
set_option maxRecDepth 100000 in
set_option maxHeartbeats 4000000 in
theorem tX8_ask {pox : String → Pool → Prop} {post : Int32 → Pool → Prop} (M : MC p m c cX8_ask 4 s args RX8) (hr : meth.sig.returnType = (some FieldType.int)) (hlk : meth.locks = false) (hRf : 9 ≤ R.frames) (hRl : 200 ≤ R.locals) (hRc : 8 ≤ R.cells) (hRs : 62 ≤ R.slots) (X : EX adK adV A s) (hl0 : l.stackTraces = false) (hout : ∀ x ∈ c.exceptionTable.toList, False) : ∀ (v0 : Option Nat) (v1 : Int32) (S : Pool), wX8_ask pox post v0 v1 S → ∀ (H : Heap) (locs : List Loc) (ls : Array Slot), PB D cy A s S H locs → lv_has ls 4 [(0, va_rf v0), (1, .int v1)] → W p l e R s m args below meth c H locs 0 0 (vx_MQ below (va_Qi post (PQ D cy A) A) (XT D cy A pox) args s 8 62 A) (F0 m 0 ls []) := by
  intro v0 v1 S h H locs ls B hl
  unfold wX8_ask at h
  refine g_aload_n M dX8_ask_0 rfl (lv_at hl 0 rfl) ?_
  refine gfX8_21 M B dX8_ask_1 h (fun a1 h => ?_)
  refine g_aload_n M dX8_ask_4 rfl (lv_at hl 0 rfl) ?_
  refine gfX8_70 M B dX8_ask_5 h (fun a2 h => ?_)
  obtain ⟨o1, e1, hL1, hK1, h⟩ := h
  refine g_calli (k1 := 0) (k2 := 0) B (g_runVX (n := 1) (As := [va_rf a2]) (rm := rmX4_reads) M B X e1 (kX4_reads (v0 := a1) (v1 := a2) l D cy adK adV h _) wmX8_182 wiX4_reads wsX4_reads wnX4 wcdX4_reads ⟨rfl, by decide, by decide, by decide +kernel⟩ ⟨Nat.le_trans (by decide) hRf, Nat.le_trans (by decide) hRl⟩ ⟨Nat.le_trans (by decide) hRc, Nat.le_trans (by decide) hRs⟩ hL1 hK1 (by decide) rfl rfl rfl hl.1 rfl ct_0 (by decide) dX8_ask_8) (by decide) (by decide) (fun a4 S3 H locs h B => ?_)
  refine lv_istore_n (lv' := [(2, .int a4), (0, va_rf v0), (1, .int v1)]) M.1 M.2.1 dX8_ask_11 rfl hl (by decide) (fl_e (fl_k rfl rfl (fl_i rfl fl_0))) (fun ls hl => ?_)
  refine g_aload_n M dX8_ask_12 rfl (lv_at hl 1 rfl) ?_
  refine gfX8_10 M B dX8_ask_13 h (fun a5 h => ?_)
  refine lv_iconst (v := 0) M.1 M.2.1 dX8_ask_16 (by decide) ?_
  refine gpX8_92 M B dX8_ask_17 h (fun S6 H locs h B => ?_)
  refine lv_iload_n M.1 M.2.1 dX8_ask_20 rfl (lv_at hl 2 rfl) ?_
  refine lv_iconst (v := 4) M.1 M.2.1 dX8_ask_21 (by decide) ?_
  refine g_calli (k1 := 0) (k2 := 0) B (g_runS (n := 2) (As := [.int v1, .int 4]) (rm := rmX8_isBelow) M B (kX8_isBelow (v0 := v1) (v1 := 4) l D cy h _) wmX8_116 wstX8_isBelow wnX8 wcdX8_isBelow ⟨by decide, by decide, by decide +kernel⟩ ⟨Nat.le_trans (by decide) hRf, Nat.le_trans (by decide) hRl⟩ ⟨Nat.le_trans (by decide) hRc, Nat.le_trans (by decide) hRs⟩ rfl hl.1 rfl ct_0 (by decide) dX8_ask_22) (by decide) (by decide) (fun a8 S7 H locs h B => ?_)
  refine lv_if_ne (tgt := 38) M.1 M.2.1 dX8_ask_25 (by decide) (fun c9 => ?_) (fun c9 => ?_)
  · have h := h.2 c9
    refine g_aload_n M dX8_ask_38 rfl (lv_at hl 1 rfl) ?_
    refine lv_iload_n M.1 M.2.1 dX8_ask_39 rfl (lv_at hl 0 rfl) ?_
    refine lv_if_eq (tgt := 47) M.1 M.2.1 dX8_ask_40 (by decide) (fun c10 => ?_) (fun c10 => ?_)
    · have h := h.1 c10
      refine g_aload_n M dX8_ask_47 rfl (lv_at hl 1 rfl) ?_
      refine gfX8_21 M B dX8_ask_48 h (fun a11 h => ?_)
      refine gfX8_186 M B dX8_ask_51 h (fun a12 h => ?_)
      exact tX8_ask_54 M hr hlk hRf hRl hRc hRs X hl0 hout _ _ _ _ _ _ h _ _ _ B (lv_sub hl [1, 2, 0] rfl)
    · have h := h.2 c10
      refine lv_iconst (v := (-1)) M.1 M.2.1 dX8_ask_43 (by decide) ?_
      refine lv_goto (tgt := 54) M.1 M.2.1 dX8_ask_44 (by decide) ?_
      exact tX8_ask_54 M hr hlk hRf hRl hRc hRs X hl0 hout _ _ _ _ _ _ h _ _ _ B (lv_sub hl [1, 2, 0] rfl)
  · have h := h.1 c9
    exact g_throw (j := 6) (is := 177) (ic := 179) M B X hl0 hout hlk (by decide +kernel) (by decide) rfl wcX8_175 wn_IndexOutOfBoundsException (by decide +kernel) (by decide +kernel) (by decide +kernel) hl.1 (Nat.le_trans (by decide) hRf) (Nat.le_trans (by decide) hRl) (Nat.le_trans (by decide) hRc) (Nat.le_trans (by decide) hRs) ct_0 (by decide) (by decide) (by decide) dX8_ask_28 dX8_ask_31 dX8_ask_32 dX8_ask_34 dX8_ask_37 h
end
set_option maxRecDepth 100000 in
set_option maxHeartbeats 4000000 in
theorem kX8_ask (l : Launch) (D : va_G) (cy : Nat → ClassId) (adK adV : Nat → Nat) (hl0 : l.stackTraces = false) {pox : String → Pool → Prop} {post : Int32 → Pool → Prop} {v0 : Option Nat} {v1 : Int32} {S : Pool} (h : wX8_ask pox post v0 v1 S) : MetIT l adK adV yX8_ask cX8_ask 4 (some FieldType.int) rmX8_ask [va_rf v0, .int v1] D cy S pox post := by
  intro sz
  refine vx_ofW (cc := cX8_ask) (maxL := 4) (ret := (some FieldType.int)) (by decide) rfl ?_
  intro p e s m args below meth c s₁ B0 hml hout hv
  obtain ⟨rfl, hpp⟩ := hv
  have hts := atoms_spec (ws := .code yX8_ask cX8_ask 4 (some FieldType.int) :: Gw) B0.pre
  obtain rfl : s.heap.size = sz := hpp.1.1
  have hl := lv_entry [va_rf v0, .int v1] (n := 4) (by rw [sl_r, sl_i, sl_0]; decide)
  rw [lg_entry_eq]
  rw [la_r, la_i, la_0] at hl
  exact tX8_ask (l := l) (R := rmX8_ask) ⟨B0.exec, B0.bytes, hml, findClass_of_methodNamed B0.named, fun w hw => hts w (List.mem_cons_of_mem _ hw)⟩ B0.returns B0.notSynchronized (Nat.le_refl _) (Nat.le_refl _) (Nat.le_refl _) (Nat.le_refl _) hpp.ex hl0 hout _ _ _ h _ _ _ hpp.1.pb (lv_sub hl [0, 1] rfl)
-- X8_fault: LogHunt.fault()I
def wX8_fault (post : Int32 → Pool → Prop) (v0 : Option Nat) (S : Pool) : Prop := xI S v0 8 13 fun a1 => post a1 S
def rmX8_fault : Room := { frames := 0, cells := 0, slots := 0, locals := 0 }
section
variable {p : Program} {l : Launch} {e : Env} {R : Room} {s : State} {m : MethodId} {args : Array Value} {below : List Frame} {meth : Method} {c : Code} {D : va_G} {cy : Nat → ClassId} {A : Nat → Prop}
set_option maxRecDepth 100000 in
set_option maxHeartbeats 4000000 in
theorem tX8_fault {post : Int32 → Pool → Prop} (M : MC p m c cX8_fault 1 s args RX8) (hr : meth.sig.returnType = (some FieldType.int)) (hlk : meth.locks = false) (hRf : 0 ≤ R.frames) (hRl : 0 ≤ R.locals) (hRc : 0 ≤ R.cells) (hRs : 0 ≤ R.slots) : ∀ (v0 : Option Nat) (S : Pool), wX8_fault post v0 S → ∀ (H : Heap) (locs : List Loc) (ls : Array Slot), PB D cy A s S H locs → lv_has ls 1 [(0, va_rf v0)] → W p l e R s m args below meth c H locs 0 0 (MQ below (va_Qi post (PQ D cy A) A) args s 0 0 A) (F0 m 0 ls []) := by
  intro v0 S h H locs ls B hl
  unfold wX8_fault at h
  refine g_aload_n M dX8_fault_0 rfl (lv_at hl 0 rfl) ?_
  refine gfX8_78 M B dX8_fault_1 h (fun a1 h => ?_)
  exact g_iret M B hr hlk h (by decide) (by decide) dX8_fault_4
end
set_option maxRecDepth 100000 in
set_option maxHeartbeats 4000000 in
theorem kX8_fault (l : Launch) (D : va_G) (cy : Nat → ClassId) {post : Int32 → Pool → Prop} {v0 : Option Nat} {S : Pool} (h : wX8_fault post v0 S) : MetI l yX8_fault cX8_fault 1 (some FieldType.int) rmX8_fault [va_rf v0] D cy S post := by
  intro sz
  refine Met.ofW (cc := cX8_fault) (maxL := 1) (ret := (some FieldType.int)) (by decide) rfl ?_
  intro p e s m args below meth c s₁ B0 hml hv
  obtain ⟨rfl, hpp⟩ := hv
  have hts := atoms_spec (ws := .code yX8_fault cX8_fault 1 (some FieldType.int) :: Gw) B0.pre
  obtain rfl : s.heap.size = sz := hpp.1
  have hl := lv_entry [va_rf v0] (n := 1) (by rw [sl_r, sl_0]; decide)
  rw [lg_entry_eq]
  rw [la_r, la_0] at hl
  exact tX8_fault (l := l) (R := rmX8_fault) ⟨B0.exec, B0.bytes, hml, findClass_of_methodNamed B0.named, fun w hw => hts w (List.mem_cons_of_mem _ hw)⟩ B0.returns B0.notSynchronized (Nat.le_refl _) (Nat.le_refl _) (Nat.le_refl _) (Nat.le_refl _) _ _ h _ _ _ hpp.pb (lv_sub hl [0] rfl)
-- X8_questionAt: LogHunt.questionAt(I)LLogHunt$Question;
def wX8_questionAt_19 (pox : String → Pool → Prop) (post : Option Nat → Pool → Prop) (z0 : Option Nat) (S : Pool) : Prop := br (z0 = none) (pox "java/lang/IndexOutOfBoundsException" S) (post z0 S)
def wX8_questionAt (pox : String → Pool → Prop) (post : Option Nat → Pool → Prop) (v0 : Option Nat) (v1 : Int32) (S : Pool) : Prop := wX8_isBelow (fun a2 S1 => br (a2 = 0) (wX8_questionAt_19 pox post none S1) (xR S1 v0 8 5 fun a4 => xaR S1 a4 13 v1 fun a5 => wX8_questionAt_19 pox post a5 S1)) v1 8 S
def rmX8_questionAt : Room := { frames := 6, cells := 1, slots := 6, locals := 90 }
section
variable {p : Program} {l : Launch} {e : Env} {R : Room} {s : State} {m : MethodId} {args : Array Value} {below : List Frame} {meth : Method} {c : Code} {D : va_G} {cy : Nat → ClassId} {A : Nat → Prop} {adK adV : Nat → Nat}
set_option maxRecDepth 100000 in
set_option maxHeartbeats 4000000 in
theorem tX8_questionAt_19 {pox : String → Pool → Prop} {post : Option Nat → Pool → Prop} (M : MC p m c cX8_questionAt 3 s args RX8) (hr : meth.sig.returnType = (some (FieldType.object "LogHunt$Question"))) (hlk : meth.locks = false) (hRf : 6 ≤ R.frames) (hRl : 90 ≤ R.locals) (hRc : 1 ≤ R.cells) (hRs : 6 ≤ R.slots) (X : EX adK adV A s) (hl0 : l.stackTraces = false) (hout : ∀ x ∈ c.exceptionTable.toList, False) : ∀ (z0 : Option Nat) (S : Pool), wX8_questionAt_19 pox post z0 S → ∀ (H : Heap) (locs : List Loc) (ls : Array Slot), PB D cy A s S H locs → lv_has ls 3 [] → W p l e R s m args below meth c H locs 0 0 (vx_MQ below (va_Qq post (PQ D cy A) A) (XT D cy A pox) args s 1 6 A) (F0 m 19 ls [va_rf z0]) := by
  intro z0 S h H locs ls B hl
  unfold wX8_questionAt_19 at h
  refine g_astore_n (lv' := [(2, va_rf z0)]) M dX8_questionAt_19 rfl hl (by decide) (fl_e fl_0) (fun ls hl => ?_)
  refine g_aload_n M dX8_questionAt_20 rfl (lv_at hl 0 rfl) ?_
  refine g_ifnonnull (tgt := 35) M dX8_questionAt_21 (by decide) (fun c1 => ?_) (fun c1 => ?_)
  · have h := h.2 c1
    refine g_aload_n M dX8_questionAt_35 rfl (lv_at hl 0 rfl) ?_
    exact vx_ret (g_aret M B hr hlk h (by decide) (by decide) dX8_questionAt_36)
  · have h := h.1 c1
    exact g_throwW (j := 11) (is := 267) (ic := 179) M B X hl0 hout hlk (by decide +kernel) (by decide) rfl wcX8_175 wn_IndexOutOfBoundsException (by decide +kernel) (by decide +kernel) (by decide +kernel) hl.1 (Nat.le_trans (by decide) hRf) (Nat.le_trans (by decide) hRl) (Nat.le_trans (by decide) hRc) (Nat.le_trans (by decide) hRs) ct_0 (by decide) (by decide) (by decide) dX8_questionAt_24 dX8_questionAt_27 dX8_questionAt_28 dX8_questionAt_31 dX8_questionAt_34 h
set_option maxRecDepth 100000 in
set_option maxHeartbeats 4000000 in
theorem tX8_questionAt {pox : String → Pool → Prop} {post : Option Nat → Pool → Prop} (M : MC p m c cX8_questionAt 3 s args RX8) (hr : meth.sig.returnType = (some (FieldType.object "LogHunt$Question"))) (hlk : meth.locks = false) (hRf : 6 ≤ R.frames) (hRl : 90 ≤ R.locals) (hRc : 1 ≤ R.cells) (hRs : 6 ≤ R.slots) (X : EX adK adV A s) (hl0 : l.stackTraces = false) (hout : ∀ x ∈ c.exceptionTable.toList, False) : ∀ (v0 : Option Nat) (v1 : Int32) (S : Pool), wX8_questionAt pox post v0 v1 S → ∀ (H : Heap) (locs : List Loc) (ls : Array Slot), PB D cy A s S H locs → lv_has ls 3 [(0, va_rf v0), (1, .int v1)] → W p l e R s m args below meth c H locs 0 0 (vx_MQ below (va_Qq post (PQ D cy A) A) (XT D cy A pox) args s 1 6 A) (F0 m 0 ls []) := by
  intro v0 v1 S h H locs ls B hl
  unfold wX8_questionAt at h
  refine lv_iload_n M.1 M.2.1 dX8_questionAt_0 rfl (lv_at hl 1 rfl) ?_
  refine lv_bipush (v := 8) M.1 M.2.1 dX8_questionAt_1 (by decide) ?_
  refine g_calli (k1 := 0) (k2 := 0) B (g_runS (n := 2) (As := [.int v1, .int 8]) (rm := rmX8_isBelow) M B (kX8_isBelow (v0 := v1) (v1 := 8) l D cy h _) wmX8_116 wstX8_isBelow wnX8 wcdX8_isBelow ⟨by decide, by decide, by decide +kernel⟩ ⟨Nat.le_trans (by decide) hRf, Nat.le_trans (by decide) hRl⟩ ⟨Nat.le_trans (by decide) hRc, Nat.le_trans (by decide) hRs⟩ rfl hl.1 rfl ct_0 (by decide) dX8_questionAt_3) (by decide) (by decide) (fun a2 S1 H locs h B => ?_)
  refine lv_if_eq (tgt := 18) M.1 M.2.1 dX8_questionAt_6 (by decide) (fun c3 => ?_) (fun c3 => ?_)
  · have h := h.1 c3
    refine g_null M dX8_questionAt_18 ?_
    exact tX8_questionAt_19 M hr hlk hRf hRl hRc hRs X hl0 hout _ _ h _ _ _ B (lv_sub hl [] rfl)
  · have h := h.2 c3
    refine g_aload_n M dX8_questionAt_9 rfl (lv_at hl 0 rfl) ?_
    refine gfX8_50 M B dX8_questionAt_10 h (fun a4 h => ?_)
    refine lv_iload_n M.1 M.2.1 dX8_questionAt_13 rfl (lv_at hl 1 rfl) ?_
    refine g_aald (kd := 13) (t0 := 3) M B ⟨by decide, by decide⟩ rfl dX8_questionAt_14 h (fun a5 h => ?_)
    refine lv_goto (tgt := 19) M.1 M.2.1 dX8_questionAt_15 (by decide) ?_
    exact tX8_questionAt_19 M hr hlk hRf hRl hRc hRs X hl0 hout _ _ h _ _ _ B (lv_sub hl [] rfl)
end
set_option maxRecDepth 100000 in
set_option maxHeartbeats 4000000 in
theorem kX8_questionAt (l : Launch) (D : va_G) (cy : Nat → ClassId) (adK adV : Nat → Nat) (hl0 : l.stackTraces = false) {pox : String → Pool → Prop} {post : Option Nat → Pool → Prop} {v0 : Option Nat} {v1 : Int32} {S : Pool} (h : wX8_questionAt pox post v0 v1 S) : MetRT l adK adV yX8_questionAt cX8_questionAt 3 (some (FieldType.object "LogHunt$Question")) rmX8_questionAt [va_rf v0, .int v1] D cy S pox post := by
  intro sz
  refine vx_ofW (cc := cX8_questionAt) (maxL := 3) (ret := (some (FieldType.object "LogHunt$Question"))) (by decide) rfl ?_
  intro p e s m args below meth c s₁ B0 hml hout hv
  obtain ⟨rfl, hpp⟩ := hv
  have hts := atoms_spec (ws := .code yX8_questionAt cX8_questionAt 3 (some (FieldType.object "LogHunt$Question")) :: Gw) B0.pre
  obtain rfl : s.heap.size = sz := hpp.1.1
  have hl := lv_entry [va_rf v0, .int v1] (n := 3) (by rw [sl_r, sl_i, sl_0]; decide)
  rw [lg_entry_eq]
  rw [la_r, la_i, la_0] at hl
  exact tX8_questionAt (l := l) (R := rmX8_questionAt) ⟨B0.exec, B0.bytes, hml, findClass_of_methodNamed B0.named, fun w hw => hts w (List.mem_cons_of_mem _ hw)⟩ B0.returns B0.notSynchronized (Nat.le_refl _) (Nat.le_refl _) (Nat.le_refl _) (Nat.le_refl _) hpp.ex hl0 hout _ _ _ h _ _ _ hpp.1.pb (lv_sub hl [0, 1] rfl)
-- X8_sweepOf: LogHunt.sweepOf(II)LLogHunt$Sweep;
def wX8_sweepOf (pox : String → Pool → Prop) (post : Option Nat → Pool → Prop) (v0 : Option Nat) (v1 : Int32) (v2 : Int32) (S : Pool) : Prop := xR S v0 8 3 fun a1 => xrc S v0 8 (wX8_questionAt pox (fun a3 S2 => xrc S2 a1 6 (wX6_goOver (fun S4 => xR S4 v0 8 3 fun a5 => post a5 S4) a1 a3 v1 v2 S2)) v0 v1 S)
def rmX8_sweepOf : Room := { frames := 7, cells := 1, slots := 6, locals := 112 }
section
variable {p : Program} {l : Launch} {e : Env} {R : Room} {s : State} {m : MethodId} {args : Array Value} {below : List Frame} {meth : Method} {c : Code} {D : va_G} {cy : Nat → ClassId} {A : Nat → Prop} {adK adV : Nat → Nat}
set_option maxRecDepth 100000 in
set_option maxHeartbeats 4000000 in
theorem tX8_sweepOf {pox : String → Pool → Prop} {post : Option Nat → Pool → Prop} (M : MC p m c cX8_sweepOf 3 s args RX8) (hr : meth.sig.returnType = (some (FieldType.object "LogHunt$Sweep"))) (hlk : meth.locks = false) (hRf : 7 ≤ R.frames) (hRl : 112 ≤ R.locals) (hRc : 1 ≤ R.cells) (hRs : 6 ≤ R.slots) (X : EX adK adV A s) (hl0 : l.stackTraces = false) (hout : ∀ x ∈ c.exceptionTable.toList, False) : ∀ (v0 : Option Nat) (v1 : Int32) (v2 : Int32) (S : Pool), wX8_sweepOf pox post v0 v1 v2 S → ∀ (H : Heap) (locs : List Loc) (ls : Array Slot), PB D cy A s S H locs → lv_has ls 3 [(0, va_rf v0), (1, .int v1), (2, .int v2)] → W p l e R s m args below meth c H locs 0 0 (vx_MQ below (va_Qq post (PQ D cy A) A) (XT D cy A pox) args s 1 6 A) (F0 m 0 ls []) := by
  intro v0 v1 v2 S h H locs ls B hl
  unfold wX8_sweepOf at h
  refine g_aload_n M dX8_sweepOf_0 rfl (lv_at hl 0 rfl) ?_
  refine gfX8_37 M B dX8_sweepOf_1 h (fun a1 h => ?_)
  refine g_aload_n M dX8_sweepOf_4 rfl (lv_at hl 0 rfl) ?_
  refine lv_iload_n M.1 M.2.1 dX8_sweepOf_5 rfl (lv_at hl 1 rfl) ?_
  obtain ⟨o1, e1, hL1, hK1, h⟩ := h
  refine g_tcallr (k1 := 1) (k2 := 6) B hout hlk (g_runVT (n := 1) (As := [.int v1]) (rm := rmX8_questionAt) M B X e1 (kX8_questionAt (v0 := v0) (v1 := v1) l D cy adK adV hl0 h _) wmX8_220 wiX8_questionAt wsX8_questionAt wnX8 wcdX8_questionAt ⟨rfl, by decide, by decide, by decide +kernel⟩ ⟨Nat.le_trans (by decide) hRf, Nat.le_trans (by decide) hRl⟩ ⟨Nat.le_trans (by decide) hRc, Nat.le_trans (by decide) hRs⟩ hL1 hK1 (by decide) rfl rfl rfl hl.1 rfl (ct_r ct_0) (by decide) dX8_sweepOf_6) (by decide) (by decide) (by decide) (by decide) (fun a3 S2 H locs h B => ?_)
  refine lv_iload_n M.1 M.2.1 dX8_sweepOf_9 rfl (lv_at hl 1 rfl) ?_
  refine lv_iload_n M.1 M.2.1 dX8_sweepOf_10 rfl (lv_at hl 2 rfl) ?_
  obtain ⟨o1, e1, hL1, hK1, h⟩ := h
  refine g_callv (k1 := 1) (k2 := 6) B (g_runV (n := 3) (As := [va_rf a3, .int v1, .int v2]) (rm := rmX6_goOver) M B e1 (kX6_goOver (v0 := a1) (v1 := a3) (v2 := v1) (v3 := v2) l D cy h _) wmX8_269 wiX6_goOver wsX6_goOver wnX6 wcdX6_goOver ⟨rfl, by decide, by decide, by decide +kernel⟩ ⟨Nat.le_trans (by decide) hRf, Nat.le_trans (by decide) hRl⟩ ⟨Nat.le_trans (by decide) hRc, Nat.le_trans (by decide) hRs⟩ hL1 hK1 (by decide) rfl rfl rfl hl.1 rfl ct_0 (by decide) dX8_sweepOf_11) (by decide) (by decide) (fun S4 H locs h B => ?_)
  refine g_aload_n M dX8_sweepOf_14 rfl (lv_at hl 0 rfl) ?_
  refine gfX8_37 M B dX8_sweepOf_15 h (fun a5 h => ?_)
  exact vx_ret (g_aret M B hr hlk h (by decide) (by decide) dX8_sweepOf_18)
end
set_option maxRecDepth 100000 in
set_option maxHeartbeats 4000000 in
theorem kX8_sweepOf (l : Launch) (D : va_G) (cy : Nat → ClassId) (adK adV : Nat → Nat) (hl0 : l.stackTraces = false) {pox : String → Pool → Prop} {post : Option Nat → Pool → Prop} {v0 : Option Nat} {v1 : Int32} {v2 : Int32} {S : Pool} (h : wX8_sweepOf pox post v0 v1 v2 S) : MetRT l adK adV yX8_sweepOf cX8_sweepOf 3 (some (FieldType.object "LogHunt$Sweep")) rmX8_sweepOf [va_rf v0, .int v1, .int v2] D cy S pox post := by
  intro sz
  refine vx_ofW (cc := cX8_sweepOf) (maxL := 3) (ret := (some (FieldType.object "LogHunt$Sweep"))) (by decide) rfl ?_
  intro p e s m args below meth c s₁ B0 hml hout hv
  obtain ⟨rfl, hpp⟩ := hv
  have hts := atoms_spec (ws := .code yX8_sweepOf cX8_sweepOf 3 (some (FieldType.object "LogHunt$Sweep")) :: Gw) B0.pre
  obtain rfl : s.heap.size = sz := hpp.1.1
  have hl := lv_entry [va_rf v0, .int v1, .int v2] (n := 3) (by rw [sl_r, sl_i, sl_i, sl_0]; decide)
  rw [lg_entry_eq]
  rw [la_r, la_i, la_i, la_0] at hl
  exact tX8_sweepOf (l := l) (R := rmX8_sweepOf) ⟨B0.exec, B0.bytes, hml, findClass_of_methodNamed B0.named, fun w hw => hts w (List.mem_cons_of_mem _ hw)⟩ B0.returns B0.notSynchronized (Nat.le_refl _) (Nat.le_refl _) (Nat.le_refl _) (Nat.le_refl _) hpp.ex hl0 hout _ _ _ _ h _ _ _ hpp.1.pb (lv_sub hl [0, 1, 2] rfl)
-- X8_finds: LogHunt.finds(II)I
def wX8_finds (pox : String → Pool → Prop) (post : Int32 → Pool → Prop) (v0 : Option Nat) (v1 : Int32) (v2 : Int32) (S : Pool) : Prop := xrc S v0 8 (wX8_sweepOf pox (fun a2 S1 => xI S1 a2 6 15 fun a3 => post a3 S1) v0 v1 v2 S)
def rmX8_finds : Room := { frames := 8, cells := 1, slots := 6, locals := 134 }
section
variable {p : Program} {l : Launch} {e : Env} {R : Room} {s : State} {m : MethodId} {args : Array Value} {below : List Frame} {meth : Method} {c : Code} {D : va_G} {cy : Nat → ClassId} {A : Nat → Prop} {adK adV : Nat → Nat}
set_option maxRecDepth 100000 in
set_option maxHeartbeats 4000000 in
theorem tX8_finds {pox : String → Pool → Prop} {post : Int32 → Pool → Prop} (M : MC p m c cX8_finds 3 s args RX8) (hr : meth.sig.returnType = (some FieldType.int)) (hlk : meth.locks = false) (hRf : 8 ≤ R.frames) (hRl : 134 ≤ R.locals) (hRc : 1 ≤ R.cells) (hRs : 6 ≤ R.slots) (X : EX adK adV A s) (hl0 : l.stackTraces = false) (hout : ∀ x ∈ c.exceptionTable.toList, False) : ∀ (v0 : Option Nat) (v1 : Int32) (v2 : Int32) (S : Pool), wX8_finds pox post v0 v1 v2 S → ∀ (H : Heap) (locs : List Loc) (ls : Array Slot), PB D cy A s S H locs → lv_has ls 3 [(0, va_rf v0), (1, .int v1), (2, .int v2)] → W p l e R s m args below meth c H locs 0 0 (vx_MQ below (va_Qi post (PQ D cy A) A) (XT D cy A pox) args s 1 6 A) (F0 m 0 ls []) := by
  intro v0 v1 v2 S h H locs ls B hl
  unfold wX8_finds at h
  refine g_aload_n M dX8_finds_0 rfl (lv_at hl 0 rfl) ?_
  refine lv_iload_n M.1 M.2.1 dX8_finds_1 rfl (lv_at hl 1 rfl) ?_
  refine lv_iload_n M.1 M.2.1 dX8_finds_2 rfl (lv_at hl 2 rfl) ?_
  obtain ⟨o1, e1, hL1, hK1, h⟩ := h
  refine g_tcallr (k1 := 1) (k2 := 6) B hout hlk (g_runVT (n := 2) (As := [.int v1, .int v2]) (rm := rmX8_sweepOf) M B X e1 (kX8_sweepOf (v0 := v0) (v1 := v1) (v2 := v2) l D cy adK adV hl0 h _) wmX8_204 wiX8_sweepOf wsX8_sweepOf wnX8 wcdX8_sweepOf ⟨rfl, by decide, by decide, by decide +kernel⟩ ⟨Nat.le_trans (by decide) hRf, Nat.le_trans (by decide) hRl⟩ ⟨Nat.le_trans (by decide) hRc, Nat.le_trans (by decide) hRs⟩ hL1 hK1 (by decide) rfl rfl rfl hl.1 rfl ct_0 (by decide) dX8_finds_3) (by decide) (by decide) (by decide) (by decide) (fun a2 S1 H locs h B => ?_)
  refine gfX8_208 M B dX8_finds_6 h (fun a3 h => ?_)
  exact vx_ret (g_iret M B hr hlk h (by decide) (by decide) dX8_finds_9)
end
set_option maxRecDepth 100000 in
set_option maxHeartbeats 4000000 in
theorem kX8_finds (l : Launch) (D : va_G) (cy : Nat → ClassId) (adK adV : Nat → Nat) (hl0 : l.stackTraces = false) {pox : String → Pool → Prop} {post : Int32 → Pool → Prop} {v0 : Option Nat} {v1 : Int32} {v2 : Int32} {S : Pool} (h : wX8_finds pox post v0 v1 v2 S) : MetIT l adK adV yX8_finds cX8_finds 3 (some FieldType.int) rmX8_finds [va_rf v0, .int v1, .int v2] D cy S pox post := by
  intro sz
  refine vx_ofW (cc := cX8_finds) (maxL := 3) (ret := (some FieldType.int)) (by decide) rfl ?_
  intro p e s m args below meth c s₁ B0 hml hout hv
  obtain ⟨rfl, hpp⟩ := hv
  have hts := atoms_spec (ws := .code yX8_finds cX8_finds 3 (some FieldType.int) :: Gw) B0.pre
  obtain rfl : s.heap.size = sz := hpp.1.1
  have hl := lv_entry [va_rf v0, .int v1, .int v2] (n := 3) (by rw [sl_r, sl_i, sl_i, sl_0]; decide)
  rw [lg_entry_eq]
  rw [la_r, la_i, la_i, la_0] at hl
  exact tX8_finds (l := l) (R := rmX8_finds) ⟨B0.exec, B0.bytes, hml, findClass_of_methodNamed B0.named, fun w hw => hts w (List.mem_cons_of_mem _ hw)⟩ B0.returns B0.notSynchronized (Nat.le_refl _) (Nat.le_refl _) (Nat.le_refl _) (Nat.le_refl _) hpp.ex hl0 hout _ _ _ _ h _ _ _ hpp.1.pb (lv_sub hl [0, 1, 2] rfl)
-- X8_found: LogHunt.found(III)I
def wX8_found (pox : String → Pool → Prop) (post : Int32 → Pool → Prop) (v0 : Option Nat) (v1 : Int32) (v2 : Int32) (v3 : Int32) (S : Pool) : Prop := xrc S v0 8 (wX8_sweepOf pox (fun a2 S1 => xrc S1 a2 6 (wX6_findAt (fun a4 S3 => br (a4 = none) (post ((-1)) S3) (xI S3 a4 0 0 fun a6 => post a6 S3)) a2 v3 S1)) v0 v1 v2 S)
def rmX8_found : Room := { frames := 8, cells := 1, slots := 6, locals := 134 }
section
variable {p : Program} {l : Launch} {e : Env} {R : Room} {s : State} {m : MethodId} {args : Array Value} {below : List Frame} {meth : Method} {c : Code} {D : va_G} {cy : Nat → ClassId} {A : Nat → Prop} {adK adV : Nat → Nat}
set_option maxRecDepth 100000 in
set_option maxHeartbeats 4000000 in
theorem tX8_found {pox : String → Pool → Prop} {post : Int32 → Pool → Prop} (M : MC p m c cX8_found 5 s args RX8) (hr : meth.sig.returnType = (some FieldType.int)) (hlk : meth.locks = false) (hRf : 8 ≤ R.frames) (hRl : 134 ≤ R.locals) (hRc : 1 ≤ R.cells) (hRs : 6 ≤ R.slots) (X : EX adK adV A s) (hl0 : l.stackTraces = false) (hout : ∀ x ∈ c.exceptionTable.toList, False) : ∀ (v0 : Option Nat) (v1 : Int32) (v2 : Int32) (v3 : Int32) (S : Pool), wX8_found pox post v0 v1 v2 v3 S → ∀ (H : Heap) (locs : List Loc) (ls : Array Slot), PB D cy A s S H locs → lv_has ls 5 [(0, va_rf v0), (1, .int v1), (2, .int v2), (3, .int v3)] → W p l e R s m args below meth c H locs 0 0 (vx_MQ below (va_Qi post (PQ D cy A) A) (XT D cy A pox) args s 1 6 A) (F0 m 0 ls []) := by
  intro v0 v1 v2 v3 S h H locs ls B hl
  unfold wX8_found at h
  refine g_aload_n M dX8_found_0 rfl (lv_at hl 0 rfl) ?_
  refine lv_iload_n M.1 M.2.1 dX8_found_1 rfl (lv_at hl 1 rfl) ?_
  refine lv_iload_n M.1 M.2.1 dX8_found_2 rfl (lv_at hl 2 rfl) ?_
  obtain ⟨o1, e1, hL1, hK1, h⟩ := h
  refine g_tcallr (k1 := 1) (k2 := 6) B hout hlk (g_runVT (n := 2) (As := [.int v1, .int v2]) (rm := rmX8_sweepOf) M B X e1 (kX8_sweepOf (v0 := v0) (v1 := v1) (v2 := v2) l D cy adK adV hl0 h _) wmX8_204 wiX8_sweepOf wsX8_sweepOf wnX8 wcdX8_sweepOf ⟨rfl, by decide, by decide, by decide +kernel⟩ ⟨Nat.le_trans (by decide) hRf, Nat.le_trans (by decide) hRl⟩ ⟨Nat.le_trans (by decide) hRc, Nat.le_trans (by decide) hRs⟩ hL1 hK1 (by decide) rfl rfl rfl hl.1 rfl ct_0 (by decide) dX8_found_3) (by decide) (by decide) (by decide) (by decide) (fun a2 S1 H locs h B => ?_)
  refine lv_iload_n M.1 M.2.1 dX8_found_6 rfl (lv_at hl 3 rfl) ?_
  obtain ⟨o1, e1, hL1, hK1, h⟩ := h
  refine g_callr (k1 := 1) (k2 := 6) B (g_runV (n := 1) (As := [.int v3]) (rm := rmX6_findAt) M B e1 (kX6_findAt (v0 := a2) (v1 := v3) l D cy h _) wmX8_211 wiX6_findAt wsX6_findAt wnX6 wcdX6_findAt ⟨rfl, by decide, by decide, by decide +kernel⟩ ⟨Nat.le_trans (by decide) hRf, Nat.le_trans (by decide) hRl⟩ ⟨Nat.le_trans (by decide) hRc, Nat.le_trans (by decide) hRs⟩ hL1 hK1 (by decide) rfl rfl rfl hl.1 rfl ct_0 (by decide) dX8_found_7) (by decide) (by decide) (fun a4 S3 H locs h B => ?_)
  refine g_astore (lv' := [(4, va_rf a4), (0, va_rf v0), (1, .int v1), (2, .int v2), (3, .int v3)]) M dX8_found_10 hl (by decide) (fl_e (fl_k rfl rfl (fl_k rfl rfl (fl_k rfl rfl (fl_i rfl fl_0))))) (fun ls hl => ?_)
  refine g_aload M dX8_found_12 (lv_at hl 0 rfl) ?_
  refine g_ifnonnull (tgt := 21) M dX8_found_14 (by decide) (fun c5 => ?_) (fun c5 => ?_)
  · have h := h.2 c5
    refine g_aload M dX8_found_21 (lv_at hl 0 rfl) ?_
    refine gfX8_214 M B dX8_found_23 h (fun a6 h => ?_)
    exact vx_ret (g_iret M B hr hlk h (by decide) (by decide) dX8_found_26)
  · have h := h.1 c5
    refine lv_iconst (v := (-1)) M.1 M.2.1 dX8_found_17 (by decide) ?_
    refine lv_goto (tgt := 26) M.1 M.2.1 dX8_found_18 (by decide) ?_
    exact vx_ret (g_iret M B hr hlk h (by decide) (by decide) dX8_found_26)
end
set_option maxRecDepth 100000 in
set_option maxHeartbeats 4000000 in
theorem kX8_found (l : Launch) (D : va_G) (cy : Nat → ClassId) (adK adV : Nat → Nat) (hl0 : l.stackTraces = false) {pox : String → Pool → Prop} {post : Int32 → Pool → Prop} {v0 : Option Nat} {v1 : Int32} {v2 : Int32} {v3 : Int32} {S : Pool} (h : wX8_found pox post v0 v1 v2 v3 S) : MetIT l adK adV yX8_found cX8_found 5 (some FieldType.int) rmX8_found [va_rf v0, .int v1, .int v2, .int v3] D cy S pox post := by
  intro sz
  refine vx_ofW (cc := cX8_found) (maxL := 5) (ret := (some FieldType.int)) (by decide) rfl ?_
  intro p e s m args below meth c s₁ B0 hml hout hv
  obtain ⟨rfl, hpp⟩ := hv
  have hts := atoms_spec (ws := .code yX8_found cX8_found 5 (some FieldType.int) :: Gw) B0.pre
  obtain rfl : s.heap.size = sz := hpp.1.1
  have hl := lv_entry [va_rf v0, .int v1, .int v2, .int v3] (n := 5) (by rw [sl_r, sl_i, sl_i, sl_i, sl_0]; decide)
  rw [lg_entry_eq]
  rw [la_r, la_i, la_i, la_i, la_0] at hl
  exact tX8_found (l := l) (R := rmX8_found) ⟨B0.exec, B0.bytes, hml, findClass_of_methodNamed B0.named, fun w hw => hts w (List.mem_cons_of_mem _ hw)⟩ B0.returns B0.notSynchronized (Nat.le_refl _) (Nat.le_refl _) (Nat.le_refl _) (Nat.le_refl _) hpp.ex hl0 hout _ _ _ _ _ h _ _ _ hpp.1.pb (lv_sub hl [0, 1, 2, 3] rfl)
-- X8_proof: LogHunt.proof(IIII)I
def wX8_proof (pox : String → Pool → Prop) (post : Int32 → Pool → Prop) (v0 : Option Nat) (v1 : Int32) (v2 : Int32) (v3 : Int32) (v4 : Int32) (S : Pool) : Prop := xrc S v0 8 (wX8_sweepOf pox (fun a2 S1 => xrc S1 a2 6 (wX6_proofAct (fun a4 S3 => post a4 S3) a2 v3 v4 S1)) v0 v1 v2 S)
def rmX8_proof : Room := { frames := 8, cells := 1, slots := 6, locals := 134 }
section
variable {p : Program} {l : Launch} {e : Env} {R : Room} {s : State} {m : MethodId} {args : Array Value} {below : List Frame} {meth : Method} {c : Code} {D : va_G} {cy : Nat → ClassId} {A : Nat → Prop} {adK adV : Nat → Nat}
set_option maxRecDepth 100000 in
set_option maxHeartbeats 4000000 in
theorem tX8_proof {pox : String → Pool → Prop} {post : Int32 → Pool → Prop} (M : MC p m c cX8_proof 5 s args RX8) (hr : meth.sig.returnType = (some FieldType.int)) (hlk : meth.locks = false) (hRf : 8 ≤ R.frames) (hRl : 134 ≤ R.locals) (hRc : 1 ≤ R.cells) (hRs : 6 ≤ R.slots) (X : EX adK adV A s) (hl0 : l.stackTraces = false) (hout : ∀ x ∈ c.exceptionTable.toList, False) : ∀ (v0 : Option Nat) (v1 : Int32) (v2 : Int32) (v3 : Int32) (v4 : Int32) (S : Pool), wX8_proof pox post v0 v1 v2 v3 v4 S → ∀ (H : Heap) (locs : List Loc) (ls : Array Slot), PB D cy A s S H locs → lv_has ls 5 [(0, va_rf v0), (1, .int v1), (2, .int v2), (3, .int v3), (4, .int v4)] → W p l e R s m args below meth c H locs 0 0 (vx_MQ below (va_Qi post (PQ D cy A) A) (XT D cy A pox) args s 1 6 A) (F0 m 0 ls []) := by
  intro v0 v1 v2 v3 v4 S h H locs ls B hl
  unfold wX8_proof at h
  refine g_aload_n M dX8_proof_0 rfl (lv_at hl 0 rfl) ?_
  refine lv_iload_n M.1 M.2.1 dX8_proof_1 rfl (lv_at hl 1 rfl) ?_
  refine lv_iload_n M.1 M.2.1 dX8_proof_2 rfl (lv_at hl 2 rfl) ?_
  obtain ⟨o1, e1, hL1, hK1, h⟩ := h
  refine g_tcallr (k1 := 1) (k2 := 6) B hout hlk (g_runVT (n := 2) (As := [.int v1, .int v2]) (rm := rmX8_sweepOf) M B X e1 (kX8_sweepOf (v0 := v0) (v1 := v1) (v2 := v2) l D cy adK adV hl0 h _) wmX8_204 wiX8_sweepOf wsX8_sweepOf wnX8 wcdX8_sweepOf ⟨rfl, by decide, by decide, by decide +kernel⟩ ⟨Nat.le_trans (by decide) hRf, Nat.le_trans (by decide) hRl⟩ ⟨Nat.le_trans (by decide) hRc, Nat.le_trans (by decide) hRs⟩ hL1 hK1 (by decide) rfl rfl rfl hl.1 rfl ct_0 (by decide) dX8_proof_3) (by decide) (by decide) (by decide) (by decide) (fun a2 S1 H locs h B => ?_)
  refine lv_iload_n M.1 M.2.1 dX8_proof_6 rfl (lv_at hl 3 rfl) ?_
  refine lv_iload M.1 M.2.1 dX8_proof_7 (lv_at hl 4 rfl) ?_
  obtain ⟨o1, e1, hL1, hK1, h⟩ := h
  refine g_calli (k1 := 1) (k2 := 6) B (g_runV (n := 2) (As := [.int v3, .int v4]) (rm := rmX6_proofAct) M B e1 (kX6_proofAct (v0 := a2) (v1 := v3) (v2 := v4) l D cy h _) wmX8_217 wiX6_proofAct wsX6_proofAct wnX6 wcdX6_proofAct ⟨rfl, by decide, by decide, by decide +kernel⟩ ⟨Nat.le_trans (by decide) hRf, Nat.le_trans (by decide) hRl⟩ ⟨Nat.le_trans (by decide) hRc, Nat.le_trans (by decide) hRs⟩ hL1 hK1 (by decide) rfl rfl rfl hl.1 rfl ct_0 (by decide) dX8_proof_9) (by decide) (by decide) (fun a4 S3 H locs h B => ?_)
  exact vx_ret (g_iret M B hr hlk h (by decide) (by decide) dX8_proof_12)
end
set_option maxRecDepth 100000 in
set_option maxHeartbeats 4000000 in
theorem kX8_proof (l : Launch) (D : va_G) (cy : Nat → ClassId) (adK adV : Nat → Nat) (hl0 : l.stackTraces = false) {pox : String → Pool → Prop} {post : Int32 → Pool → Prop} {v0 : Option Nat} {v1 : Int32} {v2 : Int32} {v3 : Int32} {v4 : Int32} {S : Pool} (h : wX8_proof pox post v0 v1 v2 v3 v4 S) : MetIT l adK adV yX8_proof cX8_proof 5 (some FieldType.int) rmX8_proof [va_rf v0, .int v1, .int v2, .int v3, .int v4] D cy S pox post := by
  intro sz
  refine vx_ofW (cc := cX8_proof) (maxL := 5) (ret := (some FieldType.int)) (by decide) rfl ?_
  intro p e s m args below meth c s₁ B0 hml hout hv
  obtain ⟨rfl, hpp⟩ := hv
  have hts := atoms_spec (ws := .code yX8_proof cX8_proof 5 (some FieldType.int) :: Gw) B0.pre
  obtain rfl : s.heap.size = sz := hpp.1.1
  have hl := lv_entry [va_rf v0, .int v1, .int v2, .int v3, .int v4] (n := 5) (by rw [sl_r, sl_i, sl_i, sl_i, sl_i, sl_0]; decide)
  rw [lg_entry_eq]
  rw [la_r, la_i, la_i, la_i, la_i, la_0] at hl
  exact tX8_proof (l := l) (R := rmX8_proof) ⟨B0.exec, B0.bytes, hml, findClass_of_methodNamed B0.named, fun w hw => hts w (List.mem_cons_of_mem _ hw)⟩ B0.returns B0.notSynchronized (Nat.le_refl _) (Nat.le_refl _) (Nat.le_refl _) (Nat.le_refl _) hpp.ex hl0 hout _ _ _ _ _ _ h _ _ _ hpp.1.pb (lv_sub hl [0, 1, 2, 3, 4] rfl)
-- X8_exempt: LogHunt.exempt(III)I
def wX8_exempt_25 (pox : String → Pool → Prop) (post : Int32 → Pool → Prop) (S : Pool) : Prop := pox "java/lang/IllegalArgumentException" S
def wX8_exempt (pox : String → Pool → Prop) (post : Int32 → Pool → Prop) (v0 : Option Nat) (v1 : Int32) (v2 : Int32) (v3 : Int32) (S : Pool) : Prop := xrc S v0 8 (wX8_questionAt pox (fun a2 S1 => wX8_isBelow (fun a4 S3 => br (a4 = 0) (wX8_exempt_25 pox post S3) (br (v3 < 0) (wX8_exempt_25 pox post S3) (br (v3 ≤ 1000000) (xI S3 v0 8 10 fun a8 => br (a8 < 40) (xR S3 v0 8 7 fun a10 => xaR S3 a10 15 v1 fun a11 => xR S3 v0 8 7 fun a12 => xaR S3 a12 15 v1 fun a13 => xaI S3 a13 10 v2 fun a14 => xsI S3 a11 10 v2 (if a14 < v3 then v3 else a14) fun S15 => xI S15 v0 8 10 fun a16 => xpI S15 v0 8 10 (a16 + 1) fun S17 => xI S17 v0 8 14 fun a18 => xpI S17 v0 8 14 (a18 + 1) fun S19 => xI S19 v0 8 10 fun a20 => post a20 S19) (post ((-1)) S3)) (wX8_exempt_25 pox post S3)))) v2 31 S1) v0 v1 S)
def rmX8_exempt : Room := { frames := 7, cells := 2, slots := 12, locals := 112 }
section
variable {p : Program} {l : Launch} {e : Env} {R : Room} {s : State} {m : MethodId} {args : Array Value} {below : List Frame} {meth : Method} {c : Code} {D : va_G} {cy : Nat → ClassId} {A : Nat → Prop} {adK adV : Nat → Nat}
set_option maxRecDepth 100000 in
set_option maxHeartbeats 4000000 in
theorem tX8_exempt_25 {pox : String → Pool → Prop} {post : Int32 → Pool → Prop} (M : MC p m c cX8_exempt 4 s args RX8) (hr : meth.sig.returnType = (some FieldType.int)) (hlk : meth.locks = false) (hRf : 7 ≤ R.frames) (hRl : 112 ≤ R.locals) (hRc : 2 ≤ R.cells) (hRs : 12 ≤ R.slots) (X : EX adK adV A s) (hl0 : l.stackTraces = false) (hout : ∀ x ∈ c.exceptionTable.toList, False) : ∀ (S : Pool), wX8_exempt_25 pox post S → ∀ (H : Heap) (locs : List Loc) (ls : Array Slot), PB D cy A s S H locs → lv_has ls 4 [] → W p l e R s m args below meth c H locs 1 6 (vx_MQ below (va_Qi post (PQ D cy A) A) (XT D cy A pox) args s 2 12 A) (F0 m 25 ls []) := by
  intro S h H locs ls B hl
  unfold wX8_exempt_25 at h
  exact g_throw (j := 12) (is := 224) (ic := 100) M B X hl0 hout hlk (by decide +kernel) (by decide) rfl wcX8_96 wn_IllegalArgumentException (by decide +kernel) (by decide +kernel) (by decide +kernel) hl.1 (Nat.le_trans (by decide) hRf) (Nat.le_trans (by decide) hRl) (Nat.le_trans (by decide) hRc) (Nat.le_trans (by decide) hRs) ct_0 (by decide) (by decide) (by decide) dX8_exempt_25 dX8_exempt_28 dX8_exempt_29 dX8_exempt_31 dX8_exempt_34 h
set_option maxRecDepth 100000 in
set_option maxHeartbeats 4000000 in
theorem tX8_exempt {pox : String → Pool → Prop} {post : Int32 → Pool → Prop} (M : MC p m c cX8_exempt 4 s args RX8) (hr : meth.sig.returnType = (some FieldType.int)) (hlk : meth.locks = false) (hRf : 7 ≤ R.frames) (hRl : 112 ≤ R.locals) (hRc : 2 ≤ R.cells) (hRs : 12 ≤ R.slots) (X : EX adK adV A s) (hl0 : l.stackTraces = false) (hout : ∀ x ∈ c.exceptionTable.toList, False) : ∀ (v0 : Option Nat) (v1 : Int32) (v2 : Int32) (v3 : Int32) (S : Pool), wX8_exempt pox post v0 v1 v2 v3 S → ∀ (H : Heap) (locs : List Loc) (ls : Array Slot), PB D cy A s S H locs → lv_has ls 4 [(0, va_rf v0), (1, .int v1), (2, .int v2), (3, .int v3)] → W p l e R s m args below meth c H locs 0 0 (vx_MQ below (va_Qi post (PQ D cy A) A) (XT D cy A pox) args s 2 12 A) (F0 m 0 ls []) := by
  intro v0 v1 v2 v3 S h H locs ls B hl
  unfold wX8_exempt at h
  refine g_aload_n M dX8_exempt_0 rfl (lv_at hl 0 rfl) ?_
  refine lv_iload_n M.1 M.2.1 dX8_exempt_1 rfl (lv_at hl 1 rfl) ?_
  obtain ⟨o1, e1, hL1, hK1, h⟩ := h
  refine g_tcallr (k1 := 1) (k2 := 6) B hout hlk (g_runVT (n := 1) (As := [.int v1]) (rm := rmX8_questionAt) M B X e1 (kX8_questionAt (v0 := v0) (v1 := v1) l D cy adK adV hl0 h _) wmX8_220 wiX8_questionAt wsX8_questionAt wnX8 wcdX8_questionAt ⟨rfl, by decide, by decide, by decide +kernel⟩ ⟨Nat.le_trans (by decide) hRf, Nat.le_trans (by decide) hRl⟩ ⟨Nat.le_trans (by decide) hRc, Nat.le_trans (by decide) hRs⟩ hL1 hK1 (by decide) rfl rfl rfl hl.1 rfl ct_0 (by decide) dX8_exempt_2) (by decide) (by decide) (by decide) (by decide) (fun a2 S1 H locs h B => ?_)
  refine lv_pop M.1 M.2.1 dX8_exempt_5 (rf_cat _) ?_
  refine lv_iload_n M.1 M.2.1 dX8_exempt_6 rfl (lv_at hl 2 rfl) ?_
  refine lv_bipush (v := 31) M.1 M.2.1 dX8_exempt_7 (by decide) ?_
  refine g_calli (k1 := 1) (k2 := 6) B (g_runS (n := 2) (As := [.int v2, .int 31]) (rm := rmX8_isBelow) M B (kX8_isBelow (v0 := v2) (v1 := 31) l D cy h _) wmX8_116 wstX8_isBelow wnX8 wcdX8_isBelow ⟨by decide, by decide, by decide +kernel⟩ ⟨Nat.le_trans (by decide) hRf, Nat.le_trans (by decide) hRl⟩ ⟨Nat.le_trans (by decide) hRc, Nat.le_trans (by decide) hRs⟩ rfl hl.1 rfl ct_0 (by decide) dX8_exempt_9) (by decide) (by decide) (fun a4 S3 H locs h B => ?_)
  refine lv_if_eq (tgt := 25) M.1 M.2.1 dX8_exempt_12 (by decide) (fun c5 => ?_) (fun c5 => ?_)
  · have h := h.1 c5
    exact tX8_exempt_25 M hr hlk hRf hRl hRc hRs X hl0 hout _ h _ _ _ B (lv_sub hl [] rfl)
  · have h := h.2 c5
    refine lv_iload_n M.1 M.2.1 dX8_exempt_15 rfl (lv_at hl 3 rfl) ?_
    refine lv_if_lt (tgt := 25) M.1 M.2.1 dX8_exempt_16 (by decide) (fun c6 => ?_) (fun c6 => ?_)
    · have h := h.1 c6
      exact tX8_exempt_25 M hr hlk hRf hRl hRc hRs X hl0 hout _ h _ _ _ B (lv_sub hl [] rfl)
    · have h := h.2 c6
      refine lv_iload_n M.1 M.2.1 dX8_exempt_19 rfl (lv_at hl 3 rfl) ?_
      refine lv_ldc (v := 1000000) M.1 M.2.1 M.2.2.2.1 (M.2.2.2.2 _ wkX8_106) dX8_exempt_20 ?_
      refine lv_icmp_le (tgt := 35) M.1 M.2.1 dX8_exempt_22 (by decide) (fun c7 => ?_) (fun c7 => ?_)
      · have h := h.1 c7
        refine g_aload_n M dX8_exempt_35 rfl (lv_at hl 0 rfl) ?_
        refine gfX8_226 M B dX8_exempt_36 h (fun a8 h => ?_)
        refine lv_bipush (v := 40) M.1 M.2.1 dX8_exempt_39 (by decide) ?_
        refine lv_icmp_lt (tgt := 46) M.1 M.2.1 dX8_exempt_41 (by decide) (fun c9 => ?_) (fun c9 => ?_)
        · have h := h.1 c9
          refine g_aload_n M dX8_exempt_46 rfl (lv_at hl 0 rfl) ?_
          refine gfX8_66 M B dX8_exempt_47 h (fun a10 h => ?_)
          refine lv_iload_n M.1 M.2.1 dX8_exempt_50 rfl (lv_at hl 1 rfl) ?_
          refine g_aaldA M B dX8_exempt_51 h (fun a11 h => ?_)
          refine lv_iload_n M.1 M.2.1 dX8_exempt_52 rfl (lv_at hl 2 rfl) ?_
          refine g_aload_n M dX8_exempt_53 rfl (lv_at hl 0 rfl) ?_
          refine gfX8_66 M B dX8_exempt_54 h (fun a12 h => ?_)
          refine lv_iload_n M.1 M.2.1 dX8_exempt_57 rfl (lv_at hl 1 rfl) ?_
          refine g_aaldA M B dX8_exempt_58 h (fun a13 h => ?_)
          refine lv_iload_n M.1 M.2.1 dX8_exempt_59 rfl (lv_at hl 2 rfl) ?_
          refine g_iald M B dX8_exempt_60 h (fun a14 h => ?_)
          refine lv_iload_n M.1 M.2.1 dX8_exempt_61 rfl (lv_at hl 3 rfl) ?_
          refine g_max M wmX8_229 hl.1 (Nat.le_trans (by decide) hRf) (Nat.le_trans (by decide) hRl) (Nat.le_trans (by decide) hRc) (Nat.le_trans (by decide) hRs) (ct_i (ct_r ct_0)) (by decide) dX8_exempt_62 ?_
          refine g_iast M B dX8_exempt_65 h (fun S15 H locs h B => ?_)
          refine g_aload_n M dX8_exempt_66 rfl (lv_at hl 0 rfl) ?_
          refine lv_dup M.1 M.2.1 dX8_exempt_67 (rf_cat _) ?_
          refine gfX8_226 M B dX8_exempt_68 h (fun a16 h => ?_)
          refine lv_iconst (v := 1) M.1 M.2.1 dX8_exempt_71 (by decide) ?_
          refine lv_iadd M.1 M.2.1 dX8_exempt_72 ?_
          refine gpX8_226 M B dX8_exempt_73 h (fun S17 H locs h B => ?_)
          refine g_aload_n M dX8_exempt_76 rfl (lv_at hl 0 rfl) ?_
          refine lv_dup M.1 M.2.1 dX8_exempt_77 (rf_cat _) ?_
          refine gfX8_113 M B dX8_exempt_78 h (fun a18 h => ?_)
          refine lv_iconst (v := 1) M.1 M.2.1 dX8_exempt_81 (by decide) ?_
          refine lv_iadd M.1 M.2.1 dX8_exempt_82 ?_
          refine gpX8_113 M B dX8_exempt_83 h (fun S19 H locs h B => ?_)
          refine g_aload_n M dX8_exempt_86 rfl (lv_at hl 0 rfl) ?_
          refine gfX8_226 M B dX8_exempt_87 h (fun a20 h => ?_)
          exact vx_ret (g_iret M B hr hlk h (by decide) (by decide) dX8_exempt_90)
        · have h := h.2 c9
          refine lv_iconst (v := (-1)) M.1 M.2.1 dX8_exempt_44 (by decide) ?_
          exact vx_ret (g_iret M B hr hlk h (by decide) (by decide) dX8_exempt_45)
      · have h := h.2 c7
        exact tX8_exempt_25 M hr hlk hRf hRl hRc hRs X hl0 hout _ h _ _ _ B (lv_sub hl [] rfl)
end
set_option maxRecDepth 100000 in
set_option maxHeartbeats 4000000 in
theorem kX8_exempt (l : Launch) (D : va_G) (cy : Nat → ClassId) (adK adV : Nat → Nat) (hl0 : l.stackTraces = false) {pox : String → Pool → Prop} {post : Int32 → Pool → Prop} {v0 : Option Nat} {v1 : Int32} {v2 : Int32} {v3 : Int32} {S : Pool} (h : wX8_exempt pox post v0 v1 v2 v3 S) : MetIT l adK adV yX8_exempt cX8_exempt 4 (some FieldType.int) rmX8_exempt [va_rf v0, .int v1, .int v2, .int v3] D cy S pox post := by
  intro sz
  refine vx_ofW (cc := cX8_exempt) (maxL := 4) (ret := (some FieldType.int)) (by decide) rfl ?_
  intro p e s m args below meth c s₁ B0 hml hout hv
  obtain ⟨rfl, hpp⟩ := hv
  have hts := atoms_spec (ws := .code yX8_exempt cX8_exempt 4 (some FieldType.int) :: Gw) B0.pre
  obtain rfl : s.heap.size = sz := hpp.1.1
  have hl := lv_entry [va_rf v0, .int v1, .int v2, .int v3] (n := 4) (by rw [sl_r, sl_i, sl_i, sl_i, sl_0]; decide)
  rw [lg_entry_eq]
  rw [la_r, la_i, la_i, la_i, la_0] at hl
  exact tX8_exempt (l := l) (R := rmX8_exempt) ⟨B0.exec, B0.bytes, hml, findClass_of_methodNamed B0.named, fun w hw => hts w (List.mem_cons_of_mem _ hw)⟩ B0.returns B0.notSynchronized (Nat.le_refl _) (Nat.le_refl _) (Nat.le_refl _) (Nat.le_refl _) hpp.ex hl0 hout _ _ _ _ _ h _ _ _ hpp.1.pb (lv_sub hl [0, 1, 2, 3] rfl)
-- X8_isExempt: LogHunt.isExempt(ILLogHunt$Act;)Z
def wX8_isExempt (post : Int32 → Pool → Prop) (v0 : Option Nat) (v1 : Int32) (v2 : Option Nat) (S : Pool) : Prop := br (v2 = none) (((0 : Int32) = 0 ∨ (0 : Int32) = 1) ∧ post (0 : Int32) S) (wX8_isBelow (fun a3 S2 => br (a3 = 0) (((0 : Int32) = 0 ∨ (0 : Int32) = 1) ∧ post (0 : Int32) S2) (xR S2 v0 8 7 fun a5 => xaR S2 a5 15 v1 fun a6 => xI S2 v2 0 2 fun a7 => xaI S2 a6 10 a7 fun a8 => xI S2 v2 0 5 fun a9 => br (a8 < a9) (((0 : Int32) = 0 ∨ (0 : Int32) = 1) ∧ post (0 : Int32) S2) (((1 : Int32) = 0 ∨ (1 : Int32) = 1) ∧ post (1 : Int32) S2))) v1 8 S)
def rmX8_isExempt : Room := { frames := 1, cells := 0, slots := 0, locals := 21 }
section
variable {p : Program} {l : Launch} {e : Env} {R : Room} {s : State} {m : MethodId} {args : Array Value} {below : List Frame} {meth : Method} {c : Code} {D : va_G} {cy : Nat → ClassId} {A : Nat → Prop}
set_option maxRecDepth 100000 in
set_option maxHeartbeats 4000000 in
theorem tX8_isExempt {post : Int32 → Pool → Prop} (M : MC p m c cX8_isExempt 3 s args RX8) (hr : meth.sig.returnType = (some FieldType.boolean)) (hlk : meth.locks = false) (hRf : 1 ≤ R.frames) (hRl : 21 ≤ R.locals) (hRc : 0 ≤ R.cells) (hRs : 0 ≤ R.slots) : ∀ (v0 : Option Nat) (v1 : Int32) (v2 : Option Nat) (S : Pool), wX8_isExempt post v0 v1 v2 S → ∀ (H : Heap) (locs : List Loc) (ls : Array Slot), PB D cy A s S H locs → lv_has ls 3 [(0, va_rf v0), (1, .int v1), (2, va_rf v2)] → W p l e R s m args below meth c H locs 0 0 (MQ below (va_Qi post (PQ D cy A) A) args s 0 0 A) (F0 m 0 ls []) := by
  intro v0 v1 v2 S h H locs ls B hl
  unfold wX8_isExempt at h
  refine g_aload_n M dX8_isExempt_0 rfl (lv_at hl 2 rfl) ?_
  refine g_ifnull (tgt := 35) M dX8_isExempt_1 (by decide) (fun c1 => ?_) (fun c1 => ?_)
  · have h := h.1 c1
    refine lv_iconst (v := 0) M.1 M.2.1 dX8_isExempt_35 (by decide) ?_
    exact g_zret M B hr hlk h (by decide) (by decide) dX8_isExempt_36
  · have h := h.2 c1
    refine lv_iload_n M.1 M.2.1 dX8_isExempt_4 rfl (lv_at hl 1 rfl) ?_
    refine lv_bipush (v := 8) M.1 M.2.1 dX8_isExempt_5 (by decide) ?_
    refine g_calli (k1 := 0) (k2 := 0) B (g_runS (n := 2) (As := [.int v1, .int 8]) (rm := rmX8_isBelow) M B (kX8_isBelow (v0 := v1) (v1 := 8) l D cy h _) wmX8_116 wstX8_isBelow wnX8 wcdX8_isBelow ⟨by decide, by decide, by decide +kernel⟩ ⟨Nat.le_trans (by decide) hRf, Nat.le_trans (by decide) hRl⟩ ⟨Nat.le_trans (by decide) hRc, Nat.le_trans (by decide) hRs⟩ rfl hl.1 rfl ct_0 (by decide) dX8_isExempt_7) (by decide) (by decide) (fun a3 S2 H locs h B => ?_)
    refine lv_if_eq (tgt := 35) M.1 M.2.1 dX8_isExempt_10 (by decide) (fun c4 => ?_) (fun c4 => ?_)
    · have h := h.1 c4
      refine lv_iconst (v := 0) M.1 M.2.1 dX8_isExempt_35 (by decide) ?_
      exact g_zret M B hr hlk h (by decide) (by decide) dX8_isExempt_36
    · have h := h.2 c4
      refine g_aload_n M dX8_isExempt_13 rfl (lv_at hl 0 rfl) ?_
      refine gfX8_66 M B dX8_isExempt_14 h (fun a5 h => ?_)
      refine lv_iload_n M.1 M.2.1 dX8_isExempt_17 rfl (lv_at hl 1 rfl) ?_
      refine g_aaldA M B dX8_isExempt_18 h (fun a6 h => ?_)
      refine g_aload_n M dX8_isExempt_19 rfl (lv_at hl 2 rfl) ?_
      refine gfX8_152 M B dX8_isExempt_20 h (fun a7 h => ?_)
      refine g_iald M B dX8_isExempt_23 h (fun a8 h => ?_)
      refine g_aload_n M dX8_isExempt_24 rfl (lv_at hl 2 rfl) ?_
      refine gfX8_161 M B dX8_isExempt_25 h (fun a9 h => ?_)
      refine lv_icmp_lt (tgt := 35) M.1 M.2.1 dX8_isExempt_28 (by decide) (fun c10 => ?_) (fun c10 => ?_)
      · have h := h.1 c10
        refine lv_iconst (v := 0) M.1 M.2.1 dX8_isExempt_35 (by decide) ?_
        exact g_zret M B hr hlk h (by decide) (by decide) dX8_isExempt_36
      · have h := h.2 c10
        refine lv_iconst (v := 1) M.1 M.2.1 dX8_isExempt_31 (by decide) ?_
        refine lv_goto (tgt := 36) M.1 M.2.1 dX8_isExempt_32 (by decide) ?_
        exact g_zret M B hr hlk h (by decide) (by decide) dX8_isExempt_36
end
set_option maxRecDepth 100000 in
set_option maxHeartbeats 4000000 in
theorem kX8_isExempt (l : Launch) (D : va_G) (cy : Nat → ClassId) {post : Int32 → Pool → Prop} {v0 : Option Nat} {v1 : Int32} {v2 : Option Nat} {S : Pool} (h : wX8_isExempt post v0 v1 v2 S) : MetI l yX8_isExempt cX8_isExempt 3 (some FieldType.boolean) rmX8_isExempt [va_rf v0, .int v1, va_rf v2] D cy S post := by
  intro sz
  refine Met.ofW (cc := cX8_isExempt) (maxL := 3) (ret := (some FieldType.boolean)) (by decide) rfl ?_
  intro p e s m args below meth c s₁ B0 hml hv
  obtain ⟨rfl, hpp⟩ := hv
  have hts := atoms_spec (ws := .code yX8_isExempt cX8_isExempt 3 (some FieldType.boolean) :: Gw) B0.pre
  obtain rfl : s.heap.size = sz := hpp.1
  have hl := lv_entry [va_rf v0, .int v1, va_rf v2] (n := 3) (by rw [sl_r, sl_i, sl_r, sl_0]; decide)
  rw [lg_entry_eq]
  rw [la_r, la_i, la_r, la_0] at hl
  exact tX8_isExempt (l := l) (R := rmX8_isExempt) ⟨B0.exec, B0.bytes, hml, findClass_of_methodNamed B0.named, fun w hw => hts w (List.mem_cons_of_mem _ hw)⟩ B0.returns B0.notSynchronized (Nat.le_refl _) (Nat.le_refl _) (Nat.le_refl _) (Nat.le_refl _) _ _ _ _ h _ _ _ hpp.pb (lv_sub hl [0, 1, 2] rfl)
-- X8_spared: LogHunt.spared(II)I
def wX8_spared_39 (K13 : Option Nat → Int32 → Option Nat → Int32 → Int32 → Pool → Prop) (pox : String → Pool → Prop) (post : Int32 → Pool → Prop) (v0 : Option Nat) (v1 : Int32) (v3 : Option Nat) (v4 : Int32) (v5 : Int32) (S : Pool) : Prop := K13 v0 v1 v3 v4 (v5 + 1) S
def wX8_spared_13 (pox : String → Pool → Prop) (post : Int32 → Pool → Prop) : Nat → Option Nat → Int32 → Option Nat → Int32 → Int32 → Pool → Prop
  | 0 => fun _ _ _ _ _ _ => False
  | n + 1 => fun v0 v1 v3 v4 v5 S => xI S v3 6 15 fun a1 => br (a1 ≤ v5) (post v4 S) (xrc S v3 6 (wX6_findAt (fun a4 S3 => xrc S3 v0 8 (wX8_isExempt (fun a6 S5 => br (a6 = 0) (wX8_spared_39 (wX8_spared_13 pox post n) pox post v0 v1 v3 v4 v5 S5) (wX8_spared_39 (wX8_spared_13 pox post n) pox post v0 v1 v3 (v4 + 1) v5 S5)) v0 v1 a4 S3)) v3 v5 S))
def wX8_spared (pox : String → Pool → Prop) (post : Int32 → Pool → Prop) (v0 : Option Nat) (v1 : Int32) (v2 : Int32) (S : Pool) : Prop := xrc S v0 8 (wX8_sweepOf pox (fun a2 S1 => ∃ n1, wX8_spared_13 pox post n1 v0 v1 a2 0 0 S1) v0 v1 v2 S)
def rmX8_spared : Room := { frames := 8, cells := 1, slots := 6, locals := 134 }
section
variable {p : Program} {l : Launch} {e : Env} {R : Room} {s : State} {m : MethodId} {args : Array Value} {below : List Frame} {meth : Method} {c : Code} {D : va_G} {cy : Nat → ClassId} {A : Nat → Prop} {adK adV : Nat → Nat}
set_option maxRecDepth 100000 in
set_option maxHeartbeats 4000000 in
theorem tX8_spared_39 {K13 : Option Nat → Int32 → Option Nat → Int32 → Int32 → Pool → Prop} {pox : String → Pool → Prop} {post : Int32 → Pool → Prop} (M : MC p m c cX8_spared 6 s args RX8) (hr : meth.sig.returnType = (some FieldType.int)) (hlk : meth.locks = false) (hRf : 8 ≤ R.frames) (hRl : 134 ≤ R.locals) (hRc : 1 ≤ R.cells) (hRs : 6 ≤ R.slots) (X : EX adK adV A s) (hl0 : l.stackTraces = false) (hout : ∀ x ∈ c.exceptionTable.toList, False) (hK13 : ∀ (v0 : Option Nat) (v1 : Int32) (v3 : Option Nat) (v4 : Int32) (v5 : Int32) (S : Pool), K13 v0 v1 v3 v4 v5 S → ∀ (H : Heap) (locs : List Loc) (ls : Array Slot), PB D cy A s S H locs → lv_has ls 6 [(0, va_rf v0), (1, .int v1), (3, va_rf v3), (4, .int v4), (5, .int v5)] → W p l e R s m args below meth c H locs 1 6 (vx_MQ below (va_Qi post (PQ D cy A) A) (XT D cy A pox) args s 1 6 A) (F0 m 13 ls [])) : ∀ (v0 : Option Nat) (v1 : Int32) (v3 : Option Nat) (v4 : Int32) (v5 : Int32) (S : Pool), wX8_spared_39 K13 pox post v0 v1 v3 v4 v5 S → ∀ (H : Heap) (locs : List Loc) (ls : Array Slot), PB D cy A s S H locs → lv_has ls 6 [(0, va_rf v0), (1, .int v1), (3, va_rf v3), (4, .int v4), (5, .int v5)] → W p l e R s m args below meth c H locs 1 6 (vx_MQ below (va_Qi post (PQ D cy A) A) (XT D cy A pox) args s 1 6 A) (F0 m 39 ls []) := by
  intro v0 v1 v3 v4 v5 S h H locs ls B hl
  unfold wX8_spared_39 at h
  refine lv_iinc (v := v5 + 1) (lv' := [(5, .int (v5 + 1)), (0, va_rf v0), (1, .int v1), (3, va_rf v3), (4, .int v4)]) M.1 M.2.1 dX8_spared_39 hl (k := 4) rfl (by rfl) (by decide) (fl_e (fl_k rfl rfl (fl_k rfl rfl (fl_k rfl rfl (fl_i rfl (fl_d rfl fl_0)))))) (fun ls hl => ?_)
  refine lv_goto (tgt := 13) M.1 M.2.1 dX8_spared_42 (by decide) ?_
  exact hK13 _ _ _ _ _ _ h _ _ _ B (lv_sub hl [1, 2, 3, 4, 0] rfl)
set_option maxRecDepth 100000 in
set_option maxHeartbeats 4000000 in
theorem tX8_spared_13 {pox : String → Pool → Prop} {post : Int32 → Pool → Prop} (M : MC p m c cX8_spared 6 s args RX8) (hr : meth.sig.returnType = (some FieldType.int)) (hlk : meth.locks = false) (hRf : 8 ≤ R.frames) (hRl : 134 ≤ R.locals) (hRc : 1 ≤ R.cells) (hRs : 6 ≤ R.slots) (X : EX adK adV A s) (hl0 : l.stackTraces = false) (hout : ∀ x ∈ c.exceptionTable.toList, False) : ∀ (n : Nat) (v0 : Option Nat) (v1 : Int32) (v3 : Option Nat) (v4 : Int32) (v5 : Int32) (S : Pool), wX8_spared_13 pox post n v0 v1 v3 v4 v5 S → ∀ (H : Heap) (locs : List Loc) (ls : Array Slot), PB D cy A s S H locs → lv_has ls 6 [(0, va_rf v0), (1, .int v1), (3, va_rf v3), (4, .int v4), (5, .int v5)] → W p l e R s m args below meth c H locs 1 6 (vx_MQ below (va_Qi post (PQ D cy A) A) (XT D cy A pox) args s 1 6 A) (F0 m 13 ls []) := by
  intro n
  induction n with
  | zero => intro v0 v1 v3 v4 v5 S h; exact False.elim h
  | succ n ih =>
    intro v0 v1 v3 v4 v5 S h H locs ls B hl
    unfold wX8_spared_13 at h
    refine lv_iload M.1 M.2.1 dX8_spared_13 (lv_at hl 4 rfl) ?_
    refine g_aload_n M dX8_spared_15 rfl (lv_at hl 2 rfl) ?_
    refine gfX8_208 M B dX8_spared_16 h (fun a1 h => ?_)
    refine lv_icmp_ge (tgt := 45) M.1 M.2.1 dX8_spared_19 (by decide) (fun c2 => ?_) (fun c2 => ?_)
    · have h := h.1 c2
      refine lv_iload M.1 M.2.1 dX8_spared_45 (lv_at hl 3 rfl) ?_
      exact vx_ret (g_iret M B hr hlk h (by decide) (by decide) dX8_spared_47)
    · have h := h.2 c2
      refine g_aload_n M dX8_spared_22 rfl (lv_at hl 0 rfl) ?_
      refine lv_iload_n M.1 M.2.1 dX8_spared_23 rfl (lv_at hl 1 rfl) ?_
      refine g_aload_n M dX8_spared_24 rfl (lv_at hl 2 rfl) ?_
      refine lv_iload M.1 M.2.1 dX8_spared_25 (lv_at hl 4 rfl) ?_
      obtain ⟨o1, e1, hL1, hK1, h⟩ := h
      refine g_callr (k1 := 1) (k2 := 6) B (g_runV (n := 1) (As := [.int v5]) (rm := rmX6_findAt) M B e1 (kX6_findAt (v0 := v3) (v1 := v5) l D cy h _) wmX8_211 wiX6_findAt wsX6_findAt wnX6 wcdX6_findAt ⟨rfl, by decide, by decide, by decide +kernel⟩ ⟨Nat.le_trans (by decide) hRf, Nat.le_trans (by decide) hRl⟩ ⟨Nat.le_trans (by decide) hRc, Nat.le_trans (by decide) hRs⟩ hL1 hK1 (by decide) rfl rfl rfl hl.1 rfl (ct_i (ct_r ct_0)) (by decide) dX8_spared_27) (by decide) (by decide) (fun a4 S3 H locs h B => ?_)
      obtain ⟨o1, e1, hL1, hK1, h⟩ := h
      refine g_calli (k1 := 1) (k2 := 6) B (g_runV (n := 2) (As := [.int v1, va_rf a4]) (rm := rmX8_isExempt) M B e1 (kX8_isExempt (v0 := v0) (v1 := v1) (v2 := a4) l D cy h _) wmX8_232 wiX8_isExempt wsX8_isExempt wnX8 wcdX8_isExempt ⟨rfl, by decide, by decide, by decide +kernel⟩ ⟨Nat.le_trans (by decide) hRf, Nat.le_trans (by decide) hRl⟩ ⟨Nat.le_trans (by decide) hRc, Nat.le_trans (by decide) hRs⟩ hL1 hK1 (by decide) rfl rfl rfl hl.1 rfl ct_0 (by decide) dX8_spared_30) (by decide) (by decide) (fun a6 S5 H locs h B => ?_)
      refine lv_if_eq (tgt := 39) M.1 M.2.1 dX8_spared_33 (by decide) (fun c7 => ?_) (fun c7 => ?_)
      · have h := h.1 c7
        exact tX8_spared_39 M hr hlk hRf hRl hRc hRs X hl0 hout ih _ _ _ _ _ _ h _ _ _ B (lv_sub hl [0, 1, 2, 3, 4] rfl)
      · have h := h.2 c7
        refine lv_iinc (v := v4 + 1) (lv' := [(4, .int (v4 + 1)), (0, va_rf v0), (1, .int v1), (3, va_rf v3), (5, .int v5)]) M.1 M.2.1 dX8_spared_36 hl (k := 3) rfl (by rfl) (by decide) (fl_e (fl_k rfl rfl (fl_k rfl rfl (fl_r rfl (fl_d rfl (fl_k rfl rfl fl_0)))))) (fun ls hl => ?_)
        exact tX8_spared_39 M hr hlk hRf hRl hRc hRs X hl0 hout ih _ _ _ _ _ _ h _ _ _ B (lv_sub hl [1, 2, 3, 0, 4] rfl)
set_option maxRecDepth 100000 in
set_option maxHeartbeats 4000000 in
theorem tX8_spared {pox : String → Pool → Prop} {post : Int32 → Pool → Prop} (M : MC p m c cX8_spared 6 s args RX8) (hr : meth.sig.returnType = (some FieldType.int)) (hlk : meth.locks = false) (hRf : 8 ≤ R.frames) (hRl : 134 ≤ R.locals) (hRc : 1 ≤ R.cells) (hRs : 6 ≤ R.slots) (X : EX adK adV A s) (hl0 : l.stackTraces = false) (hout : ∀ x ∈ c.exceptionTable.toList, False) : ∀ (v0 : Option Nat) (v1 : Int32) (v2 : Int32) (S : Pool), wX8_spared pox post v0 v1 v2 S → ∀ (H : Heap) (locs : List Loc) (ls : Array Slot), PB D cy A s S H locs → lv_has ls 6 [(0, va_rf v0), (1, .int v1), (2, .int v2)] → W p l e R s m args below meth c H locs 0 0 (vx_MQ below (va_Qi post (PQ D cy A) A) (XT D cy A pox) args s 1 6 A) (F0 m 0 ls []) := by
  intro v0 v1 v2 S h H locs ls B hl
  unfold wX8_spared at h
  refine g_aload_n M dX8_spared_0 rfl (lv_at hl 0 rfl) ?_
  refine lv_iload_n M.1 M.2.1 dX8_spared_1 rfl (lv_at hl 1 rfl) ?_
  refine lv_iload_n M.1 M.2.1 dX8_spared_2 rfl (lv_at hl 2 rfl) ?_
  obtain ⟨o1, e1, hL1, hK1, h⟩ := h
  refine g_tcallr (k1 := 1) (k2 := 6) B hout hlk (g_runVT (n := 2) (As := [.int v1, .int v2]) (rm := rmX8_sweepOf) M B X e1 (kX8_sweepOf (v0 := v0) (v1 := v1) (v2 := v2) l D cy adK adV hl0 h _) wmX8_204 wiX8_sweepOf wsX8_sweepOf wnX8 wcdX8_sweepOf ⟨rfl, by decide, by decide, by decide +kernel⟩ ⟨Nat.le_trans (by decide) hRf, Nat.le_trans (by decide) hRl⟩ ⟨Nat.le_trans (by decide) hRc, Nat.le_trans (by decide) hRs⟩ hL1 hK1 (by decide) rfl rfl rfl hl.1 rfl ct_0 (by decide) dX8_spared_3) (by decide) (by decide) (by decide) (by decide) (fun a2 S1 H locs h B => ?_)
  refine g_astore_n (lv' := [(3, va_rf a2), (0, va_rf v0), (1, .int v1), (2, .int v2)]) M dX8_spared_6 rfl hl (by decide) (fl_e (fl_k rfl rfl (fl_k rfl rfl (fl_i rfl fl_0)))) (fun ls hl => ?_)
  refine lv_iconst (v := 0) M.1 M.2.1 dX8_spared_7 (by decide) ?_
  refine lv_istore (lv' := [(4, .int 0), (3, va_rf a2), (0, va_rf v0), (1, .int v1), (2, .int v2)]) M.1 M.2.1 dX8_spared_8 hl (by decide) (fl_e (fl_r rfl (fl_k rfl rfl (fl_k rfl rfl (fl_k rfl rfl fl_0))))) (fun ls hl => ?_)
  refine lv_iconst (v := 0) M.1 M.2.1 dX8_spared_10 (by decide) ?_
  refine lv_istore (lv' := [(5, .int 0), (4, .int 0), (3, va_rf a2), (0, va_rf v0), (1, .int v1), (2, .int v2)]) M.1 M.2.1 dX8_spared_11 hl (by decide) (fl_e (fl_i rfl (fl_k rfl rfl (fl_k rfl rfl (fl_k rfl rfl (fl_k rfl rfl fl_0)))))) (fun ls hl => ?_)
  obtain ⟨n1, h⟩ := h
  exact tX8_spared_13 M hr hlk hRf hRl hRc hRs X hl0 hout n1 _ _ _ _ _ _ h _ _ _ B (lv_sub hl [3, 4, 2, 1, 0] rfl)
end
set_option maxRecDepth 100000 in
set_option maxHeartbeats 4000000 in
theorem kX8_spared (l : Launch) (D : va_G) (cy : Nat → ClassId) (adK adV : Nat → Nat) (hl0 : l.stackTraces = false) {pox : String → Pool → Prop} {post : Int32 → Pool → Prop} {v0 : Option Nat} {v1 : Int32} {v2 : Int32} {S : Pool} (h : wX8_spared pox post v0 v1 v2 S) : MetIT l adK adV yX8_spared cX8_spared 6 (some FieldType.int) rmX8_spared [va_rf v0, .int v1, .int v2] D cy S pox post := by
  intro sz
  refine vx_ofW (cc := cX8_spared) (maxL := 6) (ret := (some FieldType.int)) (by decide) rfl ?_
  intro p e s m args below meth c s₁ B0 hml hout hv
  obtain ⟨rfl, hpp⟩ := hv
  have hts := atoms_spec (ws := .code yX8_spared cX8_spared 6 (some FieldType.int) :: Gw) B0.pre
  obtain rfl : s.heap.size = sz := hpp.1.1
  have hl := lv_entry [va_rf v0, .int v1, .int v2] (n := 6) (by rw [sl_r, sl_i, sl_i, sl_0]; decide)
  rw [lg_entry_eq]
  rw [la_r, la_i, la_i, la_0] at hl
  exact tX8_spared (l := l) (R := rmX8_spared) ⟨B0.exec, B0.bytes, hml, findClass_of_methodNamed B0.named, fun w hw => hts w (List.mem_cons_of_mem _ hw)⟩ B0.returns B0.notSynchronized (Nat.le_refl _) (Nat.le_refl _) (Nat.le_refl _) (Nat.le_refl _) hpp.ex hl0 hout _ _ _ _ h _ _ _ hpp.1.pb (lv_sub hl [0, 1, 2] rfl)
-- X8_gap: LogHunt.gap(I)V
def wX8_gap_10 (pox : String → Pool → Prop) (post : Pool → Prop) (S : Pool) : Prop := pox "java/lang/IllegalArgumentException" S
def wX8_gap (pox : String → Pool → Prop) (post : Pool → Prop) (v0 : Option Nat) (v1 : Int32) (S : Pool) : Prop := br (v1 < 0) (wX8_gap_10 pox post S) (br (v1 ≤ 100000) (xpI S v0 8 12 v1 fun S3 => xI S3 v0 8 14 fun a4 => xpI S3 v0 8 14 (a4 + 1) fun S5 => post S5) (wX8_gap_10 pox post S))
def rmX8_gap : Room := { frames := 6, cells := 1, slots := 6, locals := 90 }
section
variable {p : Program} {l : Launch} {e : Env} {R : Room} {s : State} {m : MethodId} {args : Array Value} {below : List Frame} {meth : Method} {c : Code} {D : va_G} {cy : Nat → ClassId} {A : Nat → Prop} {adK adV : Nat → Nat}
set_option maxRecDepth 100000 in
set_option maxHeartbeats 4000000 in
theorem tX8_gap_10 {pox : String → Pool → Prop} {post : Pool → Prop} (M : MC p m c cX8_gap 2 s args RX8) (hr : meth.sig.returnType = none) (hlk : meth.locks = false) (hRf : 6 ≤ R.frames) (hRl : 90 ≤ R.locals) (hRc : 1 ≤ R.cells) (hRs : 6 ≤ R.slots) (X : EX adK adV A s) (hl0 : l.stackTraces = false) (hout : ∀ x ∈ c.exceptionTable.toList, False) : ∀ (S : Pool), wX8_gap_10 pox post S → ∀ (H : Heap) (locs : List Loc) (ls : Array Slot), PB D cy A s S H locs → lv_has ls 2 [] → W p l e R s m args below meth c H locs 0 0 (vx_MQ below (va_Qv post (PQ D cy A) A) (XT D cy A pox) args s 1 6 A) (F0 m 10 ls []) := by
  intro S h H locs ls B hl
  unfold wX8_gap_10 at h
  exact g_throw (j := 13) (is := 236) (ic := 100) M B X hl0 hout hlk (by decide +kernel) (by decide) rfl wcX8_96 wn_IllegalArgumentException (by decide +kernel) (by decide +kernel) (by decide +kernel) hl.1 (Nat.le_trans (by decide) hRf) (Nat.le_trans (by decide) hRl) (Nat.le_trans (by decide) hRc) (Nat.le_trans (by decide) hRs) ct_0 (by decide) (by decide) (by decide) dX8_gap_10 dX8_gap_13 dX8_gap_14 dX8_gap_16 dX8_gap_19 h
set_option maxRecDepth 100000 in
set_option maxHeartbeats 4000000 in
theorem tX8_gap {pox : String → Pool → Prop} {post : Pool → Prop} (M : MC p m c cX8_gap 2 s args RX8) (hr : meth.sig.returnType = none) (hlk : meth.locks = false) (hRf : 6 ≤ R.frames) (hRl : 90 ≤ R.locals) (hRc : 1 ≤ R.cells) (hRs : 6 ≤ R.slots) (X : EX adK adV A s) (hl0 : l.stackTraces = false) (hout : ∀ x ∈ c.exceptionTable.toList, False) : ∀ (v0 : Option Nat) (v1 : Int32) (S : Pool), wX8_gap pox post v0 v1 S → ∀ (H : Heap) (locs : List Loc) (ls : Array Slot), PB D cy A s S H locs → lv_has ls 2 [(0, va_rf v0), (1, .int v1)] → W p l e R s m args below meth c H locs 0 0 (vx_MQ below (va_Qv post (PQ D cy A) A) (XT D cy A pox) args s 1 6 A) (F0 m 0 ls []) := by
  intro v0 v1 S h H locs ls B hl
  unfold wX8_gap at h
  refine lv_iload_n M.1 M.2.1 dX8_gap_0 rfl (lv_at hl 1 rfl) ?_
  refine lv_if_lt (tgt := 10) M.1 M.2.1 dX8_gap_1 (by decide) (fun c1 => ?_) (fun c1 => ?_)
  · have h := h.1 c1
    exact tX8_gap_10 M hr hlk hRf hRl hRc hRs X hl0 hout _ h _ _ _ B (lv_sub hl [] rfl)
  · have h := h.2 c1
    refine lv_iload_n M.1 M.2.1 dX8_gap_4 rfl (lv_at hl 1 rfl) ?_
    refine lv_ldc (v := 100000) M.1 M.2.1 M.2.2.2.1 (M.2.2.2.2 _ wkX8_95) dX8_gap_5 ?_
    refine lv_icmp_le (tgt := 20) M.1 M.2.1 dX8_gap_7 (by decide) (fun c2 => ?_) (fun c2 => ?_)
    · have h := h.1 c2
      refine g_aload_n M dX8_gap_20 rfl (lv_at hl 0 rfl) ?_
      refine lv_iload_n M.1 M.2.1 dX8_gap_21 rfl (lv_at hl 1 rfl) ?_
      refine gpX8_74 M B dX8_gap_22 h (fun S3 H locs h B => ?_)
      refine g_aload_n M dX8_gap_25 rfl (lv_at hl 0 rfl) ?_
      refine lv_dup M.1 M.2.1 dX8_gap_26 (rf_cat _) ?_
      refine gfX8_113 M B dX8_gap_27 h (fun a4 h => ?_)
      refine lv_iconst (v := 1) M.1 M.2.1 dX8_gap_30 (by decide) ?_
      refine lv_iadd M.1 M.2.1 dX8_gap_31 ?_
      refine gpX8_113 M B dX8_gap_32 h (fun S5 H locs h B => ?_)
      exact vx_ret (g_vret M B hr hlk h (by decide) (by decide) dX8_gap_35)
    · have h := h.2 c2
      exact tX8_gap_10 M hr hlk hRf hRl hRc hRs X hl0 hout _ h _ _ _ B (lv_sub hl [] rfl)
end
set_option maxRecDepth 100000 in
set_option maxHeartbeats 4000000 in
theorem kX8_gap (l : Launch) (D : va_G) (cy : Nat → ClassId) (adK adV : Nat → Nat) (hl0 : l.stackTraces = false) {pox : String → Pool → Prop} {post : Pool → Prop} {v0 : Option Nat} {v1 : Int32} {S : Pool} (h : wX8_gap pox post v0 v1 S) : MetVT l adK adV yX8_gap cX8_gap 2 rmX8_gap [va_rf v0, .int v1] D cy S pox post := by
  intro sz
  refine vx_ofW (cc := cX8_gap) (maxL := 2) (ret := none) (by decide) rfl ?_
  intro p e s m args below meth c s₁ B0 hml hout hv
  obtain ⟨rfl, hpp⟩ := hv
  have hts := atoms_spec (ws := .code yX8_gap cX8_gap 2 none :: Gw) B0.pre
  obtain rfl : s.heap.size = sz := hpp.1.1
  have hl := lv_entry [va_rf v0, .int v1] (n := 2) (by rw [sl_r, sl_i, sl_0]; decide)
  rw [lg_entry_eq]
  rw [la_r, la_i, la_0] at hl
  exact tX8_gap (l := l) (R := rmX8_gap) ⟨B0.exec, B0.bytes, hml, findClass_of_methodNamed B0.named, fun w hw => hts w (List.mem_cons_of_mem _ hw)⟩ B0.returns B0.notSynchronized (Nat.le_refl _) (Nat.le_refl _) (Nat.le_refl _) (Nat.le_refl _) hpp.ex hl0 hout _ _ _ h _ _ _ hpp.1.pb (lv_sub hl [0, 1] rfl)
-- X8_gatherFinds: LogHunt.gatherFinds(LLogHunt$Question;I)V
def wX8_gatherFinds_62 (K20 : Option Nat → Int32 → Int32 → Pool → Prop) (post : Pool → Prop) (v0 : Option Nat) (v2 : Int32) (v3 : Int32) (S : Pool) : Prop := K20 v0 v2 (v3 + 1) S
def wX8_gatherFinds_20 (post : Pool → Prop) : Nat → Option Nat → Int32 → Int32 → Pool → Prop
  | 0 => fun _ _ _ _ => False
  | n + 1 => fun v0 v2 v3 S => xR S v0 8 3 fun a1 => xI S a1 6 15 fun a2 => br (a2 ≤ v3) (post S) (xR S v0 8 3 fun a4 => xrc S a4 6 (wX6_findAt (fun a6 S5 => br (a6 = none) (wX8_gatherFinds_62 (wX8_gatherFinds_20 post n) post v0 v2 v3 S5) (xR S5 v0 8 4 fun a8 => xrc S5 v0 8 (wX8_isExempt (fun a10 S9 => xrc S9 a8 1 (wX1_add (fun S11 => wX8_gatherFinds_62 (wX8_gatherFinds_20 post n) post v0 v2 v3 S11) a8 a6 a10 S9)) v0 v2 a6 S5))) a4 v3 S))
def wX8_gatherFinds (post : Pool → Prop) (v0 : Option Nat) (v1 : Option Nat) (v2 : Int32) (S : Pool) : Prop := br (v1 = none) (post S) (xR S v0 8 3 fun a2 => xI S v0 8 11 fun a3 => xrc S a2 6 (wX6_goOver (fun S4 => ∃ n1, wX8_gatherFinds_20 post n1 v0 v2 0 S4) a2 v1 v2 a3 S))
def rmX8_gatherFinds : Room := { frames := 4, cells := 0, slots := 0, locals := 97 }
section
variable {p : Program} {l : Launch} {e : Env} {R : Room} {s : State} {m : MethodId} {args : Array Value} {below : List Frame} {meth : Method} {c : Code} {D : va_G} {cy : Nat → ClassId} {A : Nat → Prop}
set_option maxRecDepth 100000 in
set_option maxHeartbeats 4000000 in
theorem tX8_gatherFinds_62 {K20 : Option Nat → Int32 → Int32 → Pool → Prop} {post : Pool → Prop} (M : MC p m c cX8_gatherFinds 5 s args RX8) (hr : meth.sig.returnType = none) (hlk : meth.locks = false) (hRf : 4 ≤ R.frames) (hRl : 97 ≤ R.locals) (hRc : 0 ≤ R.cells) (hRs : 0 ≤ R.slots) (hK20 : ∀ (v0 : Option Nat) (v2 : Int32) (v3 : Int32) (S : Pool), K20 v0 v2 v3 S → ∀ (H : Heap) (locs : List Loc) (ls : Array Slot), PB D cy A s S H locs → lv_has ls 5 [(0, va_rf v0), (2, .int v2), (3, .int v3)] → W p l e R s m args below meth c H locs 0 0 (MQ below (va_Qv post (PQ D cy A) A) args s 0 0 A) (F0 m 20 ls [])) : ∀ (v0 : Option Nat) (v2 : Int32) (v3 : Int32) (S : Pool), wX8_gatherFinds_62 K20 post v0 v2 v3 S → ∀ (H : Heap) (locs : List Loc) (ls : Array Slot), PB D cy A s S H locs → lv_has ls 5 [(0, va_rf v0), (2, .int v2), (3, .int v3)] → W p l e R s m args below meth c H locs 0 0 (MQ below (va_Qv post (PQ D cy A) A) args s 0 0 A) (F0 m 62 ls []) := by
  intro v0 v2 v3 S h H locs ls B hl
  unfold wX8_gatherFinds_62 at h
  refine lv_iinc (v := v3 + 1) (lv' := [(3, .int (v3 + 1)), (0, va_rf v0), (2, .int v2)]) M.1 M.2.1 dX8_gatherFinds_62 hl (k := 2) rfl (by rfl) (by decide) (fl_e (fl_k rfl rfl (fl_i rfl (fl_d rfl fl_0)))) (fun ls hl => ?_)
  refine lv_goto (tgt := 20) M.1 M.2.1 dX8_gatherFinds_65 (by decide) ?_
  exact hK20 _ _ _ _ h _ _ _ B (lv_sub hl [1, 2, 0] rfl)
set_option maxRecDepth 100000 in
set_option maxHeartbeats 4000000 in
theorem tX8_gatherFinds_20 {post : Pool → Prop} (M : MC p m c cX8_gatherFinds 5 s args RX8) (hr : meth.sig.returnType = none) (hlk : meth.locks = false) (hRf : 4 ≤ R.frames) (hRl : 97 ≤ R.locals) (hRc : 0 ≤ R.cells) (hRs : 0 ≤ R.slots) : ∀ (n : Nat) (v0 : Option Nat) (v2 : Int32) (v3 : Int32) (S : Pool), wX8_gatherFinds_20 post n v0 v2 v3 S → ∀ (H : Heap) (locs : List Loc) (ls : Array Slot), PB D cy A s S H locs → lv_has ls 5 [(0, va_rf v0), (2, .int v2), (3, .int v3)] → W p l e R s m args below meth c H locs 0 0 (MQ below (va_Qv post (PQ D cy A) A) args s 0 0 A) (F0 m 20 ls []) := by
  intro n
  induction n with
  | zero => intro v0 v2 v3 S h; exact False.elim h
  | succ n ih =>
    intro v0 v2 v3 S h H locs ls B hl
    unfold wX8_gatherFinds_20 at h
    refine lv_iload_n M.1 M.2.1 dX8_gatherFinds_20 rfl (lv_at hl 2 rfl) ?_
    refine g_aload_n M dX8_gatherFinds_21 rfl (lv_at hl 0 rfl) ?_
    refine gfX8_37 M B dX8_gatherFinds_22 h (fun a1 h => ?_)
    refine gfX8_208 M B dX8_gatherFinds_25 h (fun a2 h => ?_)
    refine lv_icmp_ge (tgt := 68) M.1 M.2.1 dX8_gatherFinds_28 (by decide) (fun c3 => ?_) (fun c3 => ?_)
    · have h := h.1 c3
      exact g_vret M B hr hlk h (by decide) (by decide) dX8_gatherFinds_68
    · have h := h.2 c3
      refine g_aload_n M dX8_gatherFinds_31 rfl (lv_at hl 0 rfl) ?_
      refine gfX8_37 M B dX8_gatherFinds_32 h (fun a4 h => ?_)
      refine lv_iload_n M.1 M.2.1 dX8_gatherFinds_35 rfl (lv_at hl 2 rfl) ?_
      obtain ⟨o1, e1, hL1, hK1, h⟩ := h
      refine g_callr (k1 := 0) (k2 := 0) B (g_runV (n := 1) (As := [.int v3]) (rm := rmX6_findAt) M B e1 (kX6_findAt (v0 := a4) (v1 := v3) l D cy h _) wmX8_211 wiX6_findAt wsX6_findAt wnX6 wcdX6_findAt ⟨rfl, by decide, by decide, by decide +kernel⟩ ⟨Nat.le_trans (by decide) hRf, Nat.le_trans (by decide) hRl⟩ ⟨Nat.le_trans (by decide) hRc, Nat.le_trans (by decide) hRs⟩ hL1 hK1 (by decide) rfl rfl rfl hl.1 rfl ct_0 (by decide) dX8_gatherFinds_36) (by decide) (by decide) (fun a6 S5 H locs h B => ?_)
      refine g_astore (lv' := [(4, va_rf a6), (0, va_rf v0), (2, .int v2), (3, .int v3)]) M dX8_gatherFinds_39 hl (by decide) (fl_e (fl_k rfl rfl (fl_k rfl rfl (fl_i rfl fl_0)))) (fun ls hl => ?_)
      refine g_aload M dX8_gatherFinds_41 (lv_at hl 0 rfl) ?_
      refine g_ifnull (tgt := 62) M dX8_gatherFinds_43 (by decide) (fun c7 => ?_) (fun c7 => ?_)
      · have h := h.1 c7
        exact tX8_gatherFinds_62 M hr hlk hRf hRl hRc hRs ih _ _ _ _ h _ _ _ B (lv_sub hl [1, 2, 3] rfl)
      · have h := h.2 c7
        refine g_aload_n M dX8_gatherFinds_46 rfl (lv_at hl 1 rfl) ?_
        refine gfX8_44 M B dX8_gatherFinds_47 h (fun a8 h => ?_)
        refine g_aload M dX8_gatherFinds_50 (lv_at hl 0 rfl) ?_
        refine g_aload_n M dX8_gatherFinds_52 rfl (lv_at hl 1 rfl) ?_
        refine lv_iload_n M.1 M.2.1 dX8_gatherFinds_53 rfl (lv_at hl 2 rfl) ?_
        refine g_aload M dX8_gatherFinds_54 (lv_at hl 0 rfl) ?_
        obtain ⟨o1, e1, hL1, hK1, h⟩ := h
        refine g_calli (k1 := 0) (k2 := 0) B (g_runV (n := 2) (As := [.int v2, va_rf a6]) (rm := rmX8_isExempt) M B e1 (kX8_isExempt (v0 := v0) (v1 := v2) (v2 := a6) l D cy h _) wmX8_232 wiX8_isExempt wsX8_isExempt wnX8 wcdX8_isExempt ⟨rfl, by decide, by decide, by decide +kernel⟩ ⟨Nat.le_trans (by decide) hRf, Nat.le_trans (by decide) hRl⟩ ⟨Nat.le_trans (by decide) hRc, Nat.le_trans (by decide) hRs⟩ hL1 hK1 (by decide) rfl rfl rfl hl.1 rfl (ct_r (ct_r ct_0)) (by decide) dX8_gatherFinds_56) (by decide) (by decide) (fun a10 S9 H locs h B => ?_)
        obtain ⟨o1, e1, hL1, hK1, h⟩ := h
        refine g_callv (k1 := 0) (k2 := 0) B (g_runV (n := 2) (As := [va_rf a6, .int a10]) (rm := rmX1_add) M B e1 (kX1_add (v0 := a8) (v1 := a6) (v2 := a10) l D cy h _) wmX8_283 wiX1_add wsX1_add wnX1 wcdX1_add ⟨rfl, by decide, by decide, by decide +kernel⟩ ⟨Nat.le_trans (by decide) hRf, Nat.le_trans (by decide) hRl⟩ ⟨Nat.le_trans (by decide) hRc, Nat.le_trans (by decide) hRs⟩ hL1 hK1 (by decide) rfl rfl rfl hl.1 rfl ct_0 (by decide) dX8_gatherFinds_59) (by decide) (by decide) (fun S11 H locs h B => ?_)
        exact tX8_gatherFinds_62 M hr hlk hRf hRl hRc hRs ih _ _ _ _ h _ _ _ B (lv_sub hl [1, 2, 3] rfl)
set_option maxRecDepth 100000 in
set_option maxHeartbeats 4000000 in
theorem tX8_gatherFinds {post : Pool → Prop} (M : MC p m c cX8_gatherFinds 5 s args RX8) (hr : meth.sig.returnType = none) (hlk : meth.locks = false) (hRf : 4 ≤ R.frames) (hRl : 97 ≤ R.locals) (hRc : 0 ≤ R.cells) (hRs : 0 ≤ R.slots) : ∀ (v0 : Option Nat) (v1 : Option Nat) (v2 : Int32) (S : Pool), wX8_gatherFinds post v0 v1 v2 S → ∀ (H : Heap) (locs : List Loc) (ls : Array Slot), PB D cy A s S H locs → lv_has ls 5 [(0, va_rf v0), (1, va_rf v1), (2, .int v2)] → W p l e R s m args below meth c H locs 0 0 (MQ below (va_Qv post (PQ D cy A) A) args s 0 0 A) (F0 m 0 ls []) := by
  intro v0 v1 v2 S h H locs ls B hl
  unfold wX8_gatherFinds at h
  refine g_aload_n M dX8_gatherFinds_0 rfl (lv_at hl 1 rfl) ?_
  refine g_ifnonnull (tgt := 5) M dX8_gatherFinds_1 (by decide) (fun c1 => ?_) (fun c1 => ?_)
  · have h := h.2 c1
    refine g_aload_n M dX8_gatherFinds_5 rfl (lv_at hl 0 rfl) ?_
    refine gfX8_37 M B dX8_gatherFinds_6 h (fun a2 h => ?_)
    refine g_aload_n M dX8_gatherFinds_9 rfl (lv_at hl 1 rfl) ?_
    refine lv_iload_n M.1 M.2.1 dX8_gatherFinds_10 rfl (lv_at hl 2 rfl) ?_
    refine g_aload_n M dX8_gatherFinds_11 rfl (lv_at hl 0 rfl) ?_
    refine gfX8_103 M B dX8_gatherFinds_12 h (fun a3 h => ?_)
    obtain ⟨o1, e1, hL1, hK1, h⟩ := h
    refine g_callv (k1 := 0) (k2 := 0) B (g_runV (n := 3) (As := [va_rf v1, .int v2, .int a3]) (rm := rmX6_goOver) M B e1 (kX6_goOver (v0 := a2) (v1 := v1) (v2 := v2) (v3 := a3) l D cy h _) wmX8_269 wiX6_goOver wsX6_goOver wnX6 wcdX6_goOver ⟨rfl, by decide, by decide, by decide +kernel⟩ ⟨Nat.le_trans (by decide) hRf, Nat.le_trans (by decide) hRl⟩ ⟨Nat.le_trans (by decide) hRc, Nat.le_trans (by decide) hRs⟩ hL1 hK1 (by decide) rfl rfl rfl hl.1 rfl ct_0 (by decide) dX8_gatherFinds_15) (by decide) (by decide) (fun S4 H locs h B => ?_)
    refine lv_iconst (v := 0) M.1 M.2.1 dX8_gatherFinds_18 (by decide) ?_
    refine lv_istore_n (lv' := [(3, .int 0), (0, va_rf v0), (1, va_rf v1), (2, .int v2)]) M.1 M.2.1 dX8_gatherFinds_19 rfl hl (by decide) (fl_e (fl_k rfl rfl (fl_k rfl rfl (fl_i rfl fl_0)))) (fun ls hl => ?_)
    obtain ⟨n1, h⟩ := h
    exact tX8_gatherFinds_20 M hr hlk hRf hRl hRc hRs n1 _ _ _ _ h _ _ _ B (lv_sub hl [1, 3, 0] rfl)
  · have h := h.1 c1
    exact g_vret M B hr hlk h (by decide) (by decide) dX8_gatherFinds_4
end
set_option maxRecDepth 100000 in
set_option maxHeartbeats 4000000 in
theorem kX8_gatherFinds (l : Launch) (D : va_G) (cy : Nat → ClassId) {post : Pool → Prop} {v0 : Option Nat} {v1 : Option Nat} {v2 : Int32} {S : Pool} (h : wX8_gatherFinds post v0 v1 v2 S) : MetV l yX8_gatherFinds cX8_gatherFinds 5 rmX8_gatherFinds [va_rf v0, va_rf v1, .int v2] D cy S post := by
  intro sz
  refine Met.ofW (cc := cX8_gatherFinds) (maxL := 5) (ret := none) (by decide) rfl ?_
  intro p e s m args below meth c s₁ B0 hml hv
  obtain ⟨rfl, hpp⟩ := hv
  have hts := atoms_spec (ws := .code yX8_gatherFinds cX8_gatherFinds 5 none :: Gw) B0.pre
  obtain rfl : s.heap.size = sz := hpp.1
  have hl := lv_entry [va_rf v0, va_rf v1, .int v2] (n := 5) (by rw [sl_r, sl_r, sl_i, sl_0]; decide)
  rw [lg_entry_eq]
  rw [la_r, la_r, la_i, la_0] at hl
  exact tX8_gatherFinds (l := l) (R := rmX8_gatherFinds) ⟨B0.exec, B0.bytes, hml, findClass_of_methodNamed B0.named, fun w hw => hts w (List.mem_cons_of_mem _ hw)⟩ B0.returns B0.notSynchronized (Nat.le_refl _) (Nat.le_refl _) (Nat.le_refl _) (Nat.le_refl _) _ _ _ _ h _ _ _ hpp.pb (lv_sub hl [0, 1, 2] rfl)
-- X8_joinFinds: LogHunt.joinFinds()V
def wX8_joinFinds_21 (post : Pool → Prop) : Nat → Option Nat → Int32 → Pool → Prop
  | 0 => fun _ _ _ => False
  | n + 1 => fun v0 v1 S => xI S v0 8 9 fun a1 => br (a1 ≤ v1) (xR S v0 8 4 fun a3 => xI S v0 8 12 fun a4 => xrc S a3 1 (wX1_join (fun S5 => xI S5 v0 8 14 fun a6 => xpI S5 v0 8 15 a6 fun S7 => post S7) a3 a4 S)) (xR S v0 8 5 fun a8 => xaR S a8 13 v1 fun a9 => xrc S v0 8 (wX8_gatherFinds (fun S10 => wX8_joinFinds_21 post n v0 (v1 + 1) S10) v0 a9 v1 S))
def wX8_joinFinds (post : Pool → Prop) (v0 : Option Nat) (S : Pool) : Prop := xI S v0 8 15 fun a1 => xI S v0 8 14 fun a2 => br (a1 = a2) (post S) (xR S v0 8 4 fun a4 => xrc S a4 1 (wX1_clear (fun S5 => ∃ n1, wX8_joinFinds_21 post n1 v0 0 S5) a4 S))
def rmX8_joinFinds : Room := { frames := 5, cells := 0, slots := 0, locals := 121 }
section
variable {p : Program} {l : Launch} {e : Env} {R : Room} {s : State} {m : MethodId} {args : Array Value} {below : List Frame} {meth : Method} {c : Code} {D : va_G} {cy : Nat → ClassId} {A : Nat → Prop}
set_option maxRecDepth 100000 in
set_option maxHeartbeats 4000000 in
theorem tX8_joinFinds_21 {post : Pool → Prop} (M : MC p m c cX8_joinFinds 2 s args RX8) (hr : meth.sig.returnType = none) (hlk : meth.locks = false) (hRf : 5 ≤ R.frames) (hRl : 121 ≤ R.locals) (hRc : 0 ≤ R.cells) (hRs : 0 ≤ R.slots) : ∀ (n : Nat) (v0 : Option Nat) (v1 : Int32) (S : Pool), wX8_joinFinds_21 post n v0 v1 S → ∀ (H : Heap) (locs : List Loc) (ls : Array Slot), PB D cy A s S H locs → lv_has ls 2 [(0, va_rf v0), (1, .int v1)] → W p l e R s m args below meth c H locs 0 0 (MQ below (va_Qv post (PQ D cy A) A) args s 0 0 A) (F0 m 21 ls []) := by
  intro n
  induction n with
  | zero => intro v0 v1 S h; exact False.elim h
  | succ n ih =>
    intro v0 v1 S h H locs ls B hl
    unfold wX8_joinFinds_21 at h
    refine lv_iload_n M.1 M.2.1 dX8_joinFinds_21 rfl (lv_at hl 1 rfl) ?_
    refine g_aload_n M dX8_joinFinds_22 rfl (lv_at hl 0 rfl) ?_
    refine gfX8_199 M B dX8_joinFinds_23 h (fun a1 h => ?_)
    refine lv_icmp_ge (tgt := 46) M.1 M.2.1 dX8_joinFinds_26 (by decide) (fun c2 => ?_) (fun c2 => ?_)
    · have h := h.1 c2
      refine g_aload_n M dX8_joinFinds_46 rfl (lv_at hl 0 rfl) ?_
      refine gfX8_44 M B dX8_joinFinds_47 h (fun a3 h => ?_)
      refine g_aload_n M dX8_joinFinds_50 rfl (lv_at hl 0 rfl) ?_
      refine gfX8_74 M B dX8_joinFinds_51 h (fun a4 h => ?_)
      obtain ⟨o1, e1, hL1, hK1, h⟩ := h
      refine g_callv (k1 := 0) (k2 := 0) B (g_runV (n := 1) (As := [.int a4]) (rm := rmX1_join) M B e1 (kX1_join (v0 := a3) (v1 := a4) l D cy h _) wmX8_280 wiX1_join wsX1_join wnX1 wcdX1_join ⟨rfl, by decide, by decide, by decide +kernel⟩ ⟨Nat.le_trans (by decide) hRf, Nat.le_trans (by decide) hRl⟩ ⟨Nat.le_trans (by decide) hRc, Nat.le_trans (by decide) hRs⟩ hL1 hK1 (by decide) rfl rfl rfl hl.1 rfl ct_0 (by decide) dX8_joinFinds_54) (by decide) (by decide) (fun S5 H locs h B => ?_)
      refine g_aload_n M dX8_joinFinds_57 rfl (lv_at hl 0 rfl) ?_
      refine g_aload_n M dX8_joinFinds_58 rfl (lv_at hl 0 rfl) ?_
      refine gfX8_113 M B dX8_joinFinds_59 h (fun a6 h => ?_)
      refine gpX8_81 M B dX8_joinFinds_62 h (fun S7 H locs h B => ?_)
      exact g_vret M B hr hlk h (by decide) (by decide) dX8_joinFinds_65
    · have h := h.2 c2
      refine g_aload_n M dX8_joinFinds_29 rfl (lv_at hl 0 rfl) ?_
      refine g_aload_n M dX8_joinFinds_30 rfl (lv_at hl 0 rfl) ?_
      refine gfX8_50 M B dX8_joinFinds_31 h (fun a8 h => ?_)
      refine lv_iload_n M.1 M.2.1 dX8_joinFinds_34 rfl (lv_at hl 1 rfl) ?_
      refine g_aald (kd := 13) (t0 := 3) M B ⟨by decide, by decide⟩ rfl dX8_joinFinds_35 h (fun a9 h => ?_)
      refine lv_iload_n M.1 M.2.1 dX8_joinFinds_36 rfl (lv_at hl 1 rfl) ?_
      obtain ⟨o1, e1, hL1, hK1, h⟩ := h
      refine g_callv (k1 := 0) (k2 := 0) B (g_runV (n := 2) (As := [va_rf a9, .int v1]) (rm := rmX8_gatherFinds) M B e1 (kX8_gatherFinds (v0 := v0) (v1 := a9) (v2 := v1) l D cy h _) wmX8_276 wiX8_gatherFinds wsX8_gatherFinds wnX8 wcdX8_gatherFinds ⟨rfl, by decide, by decide, by decide +kernel⟩ ⟨Nat.le_trans (by decide) hRf, Nat.le_trans (by decide) hRl⟩ ⟨Nat.le_trans (by decide) hRc, Nat.le_trans (by decide) hRs⟩ hL1 hK1 (by decide) rfl rfl rfl hl.1 rfl ct_0 (by decide) dX8_joinFinds_37) (by decide) (by decide) (fun S10 H locs h B => ?_)
      refine lv_iinc (v := v1 + 1) (lv' := [(1, .int (v1 + 1)), (0, va_rf v0)]) M.1 M.2.1 dX8_joinFinds_40 hl (k := 1) rfl (by rfl) (by decide) (fl_e (fl_r rfl (fl_d rfl fl_0))) (fun ls hl => ?_)
      refine lv_goto (tgt := 21) M.1 M.2.1 dX8_joinFinds_43 (by decide) ?_
      exact ih _ _ _ h _ _ _ B (lv_sub hl [1, 0] rfl)
set_option maxRecDepth 100000 in
set_option maxHeartbeats 4000000 in
theorem tX8_joinFinds {post : Pool → Prop} (M : MC p m c cX8_joinFinds 2 s args RX8) (hr : meth.sig.returnType = none) (hlk : meth.locks = false) (hRf : 5 ≤ R.frames) (hRl : 121 ≤ R.locals) (hRc : 0 ≤ R.cells) (hRs : 0 ≤ R.slots) : ∀ (v0 : Option Nat) (S : Pool), wX8_joinFinds post v0 S → ∀ (H : Heap) (locs : List Loc) (ls : Array Slot), PB D cy A s S H locs → lv_has ls 2 [(0, va_rf v0)] → W p l e R s m args below meth c H locs 0 0 (MQ below (va_Qv post (PQ D cy A) A) args s 0 0 A) (F0 m 0 ls []) := by
  intro v0 S h H locs ls B hl
  unfold wX8_joinFinds at h
  refine g_aload_n M dX8_joinFinds_0 rfl (lv_at hl 0 rfl) ?_
  refine gfX8_81 M B dX8_joinFinds_1 h (fun a1 h => ?_)
  refine g_aload_n M dX8_joinFinds_4 rfl (lv_at hl 0 rfl) ?_
  refine gfX8_113 M B dX8_joinFinds_5 h (fun a2 h => ?_)
  refine lv_icmp_ne (tgt := 12) M.1 M.2.1 dX8_joinFinds_8 (by decide) (fun c3 => ?_) (fun c3 => ?_)
  · have h := h.2 c3
    refine g_aload_n M dX8_joinFinds_12 rfl (lv_at hl 0 rfl) ?_
    refine gfX8_44 M B dX8_joinFinds_13 h (fun a4 h => ?_)
    obtain ⟨o1, e1, hL1, hK1, h⟩ := h
    refine g_callv (k1 := 0) (k2 := 0) B (g_runV (n := 0) (As := []) (rm := rmX1_clear) M B e1 (kX1_clear (v0 := a4) l D cy h _) wmX8_273 wiX1_clear wsX1_clear wnX1 wcdX1_clear ⟨rfl, by decide, by decide, by decide +kernel⟩ ⟨Nat.le_trans (by decide) hRf, Nat.le_trans (by decide) hRl⟩ ⟨Nat.le_trans (by decide) hRc, Nat.le_trans (by decide) hRs⟩ hL1 hK1 (by decide) rfl rfl rfl hl.1 rfl ct_0 (by decide) dX8_joinFinds_16) (by decide) (by decide) (fun S5 H locs h B => ?_)
    refine lv_iconst (v := 0) M.1 M.2.1 dX8_joinFinds_19 (by decide) ?_
    refine lv_istore_n (lv' := [(1, .int 0), (0, va_rf v0)]) M.1 M.2.1 dX8_joinFinds_20 rfl hl (by decide) (fl_e (fl_r rfl fl_0)) (fun ls hl => ?_)
    obtain ⟨n1, h⟩ := h
    exact tX8_joinFinds_21 M hr hlk hRf hRl hRc hRs n1 _ _ _ h _ _ _ B (lv_sub hl [1, 0] rfl)
  · have h := h.1 c3
    exact g_vret M B hr hlk h (by decide) (by decide) dX8_joinFinds_11
end
set_option maxRecDepth 100000 in
set_option maxHeartbeats 4000000 in
theorem kX8_joinFinds (l : Launch) (D : va_G) (cy : Nat → ClassId) {post : Pool → Prop} {v0 : Option Nat} {S : Pool} (h : wX8_joinFinds post v0 S) : MetV l yX8_joinFinds cX8_joinFinds 2 rmX8_joinFinds [va_rf v0] D cy S post := by
  intro sz
  refine Met.ofW (cc := cX8_joinFinds) (maxL := 2) (ret := none) (by decide) rfl ?_
  intro p e s m args below meth c s₁ B0 hml hv
  obtain ⟨rfl, hpp⟩ := hv
  have hts := atoms_spec (ws := .code yX8_joinFinds cX8_joinFinds 2 none :: Gw) B0.pre
  obtain rfl : s.heap.size = sz := hpp.1
  have hl := lv_entry [va_rf v0] (n := 2) (by rw [sl_r, sl_0]; decide)
  rw [lg_entry_eq]
  rw [la_r, la_0] at hl
  exact tX8_joinFinds (l := l) (R := rmX8_joinFinds) ⟨B0.exec, B0.bytes, hml, findClass_of_methodNamed B0.named, fun w hw => hts w (List.mem_cons_of_mem _ hw)⟩ B0.returns B0.notSynchronized (Nat.le_refl _) (Nat.le_refl _) (Nat.le_refl _) (Nat.le_refl _) _ _ h _ _ _ hpp.pb (lv_sub hl [0] rfl)
-- X8_cases: LogHunt.cases()I
def wX8_cases (post : Int32 → Pool → Prop) (v0 : Option Nat) (S : Pool) : Prop := xrc S v0 8 (wX8_joinFinds (fun S1 => xR S1 v0 8 4 fun a2 => xI S1 a2 1 7 fun a3 => post a3 S1) v0 S)
def rmX8_cases : Room := { frames := 6, cells := 0, slots := 0, locals := 142 }
section
variable {p : Program} {l : Launch} {e : Env} {R : Room} {s : State} {m : MethodId} {args : Array Value} {below : List Frame} {meth : Method} {c : Code} {D : va_G} {cy : Nat → ClassId} {A : Nat → Prop}
set_option maxRecDepth 100000 in
set_option maxHeartbeats 4000000 in
theorem tX8_cases {post : Int32 → Pool → Prop} (M : MC p m c cX8_cases 1 s args RX8) (hr : meth.sig.returnType = (some FieldType.int)) (hlk : meth.locks = false) (hRf : 6 ≤ R.frames) (hRl : 142 ≤ R.locals) (hRc : 0 ≤ R.cells) (hRs : 0 ≤ R.slots) : ∀ (v0 : Option Nat) (S : Pool), wX8_cases post v0 S → ∀ (H : Heap) (locs : List Loc) (ls : Array Slot), PB D cy A s S H locs → lv_has ls 1 [(0, va_rf v0)] → W p l e R s m args below meth c H locs 0 0 (MQ below (va_Qi post (PQ D cy A) A) args s 0 0 A) (F0 m 0 ls []) := by
  intro v0 S h H locs ls B hl
  unfold wX8_cases at h
  refine g_aload_n M dX8_cases_0 rfl (lv_at hl 0 rfl) ?_
  obtain ⟨o1, e1, hL1, hK1, h⟩ := h
  refine g_callv (k1 := 0) (k2 := 0) B (g_runV (n := 0) (As := []) (rm := rmX8_joinFinds) M B e1 (kX8_joinFinds (v0 := v0) l D cy h _) wmX8_238 wiX8_joinFinds wsX8_joinFinds wnX8 wcdX8_joinFinds ⟨rfl, by decide, by decide, by decide +kernel⟩ ⟨Nat.le_trans (by decide) hRf, Nat.le_trans (by decide) hRl⟩ ⟨Nat.le_trans (by decide) hRc, Nat.le_trans (by decide) hRs⟩ hL1 hK1 (by decide) rfl rfl rfl hl.1 rfl ct_0 (by decide) dX8_cases_1) (by decide) (by decide) (fun S1 H locs h B => ?_)
  refine g_aload_n M dX8_cases_4 rfl (lv_at hl 0 rfl) ?_
  refine gfX8_44 M B dX8_cases_5 h (fun a2 h => ?_)
  refine gfX8_241 M B dX8_cases_8 h (fun a3 h => ?_)
  exact g_iret M B hr hlk h (by decide) (by decide) dX8_cases_11
end
set_option maxRecDepth 100000 in
set_option maxHeartbeats 4000000 in
theorem kX8_cases (l : Launch) (D : va_G) (cy : Nat → ClassId) {post : Int32 → Pool → Prop} {v0 : Option Nat} {S : Pool} (h : wX8_cases post v0 S) : MetI l yX8_cases cX8_cases 1 (some FieldType.int) rmX8_cases [va_rf v0] D cy S post := by
  intro sz
  refine Met.ofW (cc := cX8_cases) (maxL := 1) (ret := (some FieldType.int)) (by decide) rfl ?_
  intro p e s m args below meth c s₁ B0 hml hv
  obtain ⟨rfl, hpp⟩ := hv
  have hts := atoms_spec (ws := .code yX8_cases cX8_cases 1 (some FieldType.int) :: Gw) B0.pre
  obtain rfl : s.heap.size = sz := hpp.1
  have hl := lv_entry [va_rf v0] (n := 1) (by rw [sl_r, sl_0]; decide)
  rw [lg_entry_eq]
  rw [la_r, la_0] at hl
  exact tX8_cases (l := l) (R := rmX8_cases) ⟨B0.exec, B0.bytes, hml, findClass_of_methodNamed B0.named, fun w hw => hts w (List.mem_cons_of_mem _ hw)⟩ B0.returns B0.notSynchronized (Nat.le_refl _) (Nat.le_refl _) (Nat.le_refl _) (Nat.le_refl _) _ _ h _ _ _ hpp.pb (lv_sub hl [0] rfl)
-- X8_joined: LogHunt.joined(II)I
def wX8_joined (pox : String → Pool → Prop) (post : Int32 → Pool → Prop) (v0 : Option Nat) (v1 : Int32) (v2 : Int32) (S : Pool) : Prop := xrc S v0 8 (wX8_questionAt pox (fun a2 S1 => xrc S1 v0 8 (wX8_actAt pox (fun a4 S3 => xI S3 v0 8 11 fun a5 => xrc S3 v0 8 (wX8_sweepOf pox (fun a7 S6 => xrc S6 a7 6 (wX6_isFind (fun a9 S8 => br (a9 = 0) (post 0 S8) (xrc S8 v0 8 (wX8_isExempt (fun a12 S11 => br (a12 = 0) (xrc S11 v0 8 (wX8_joinFinds (fun S14 => xR S14 v0 8 4 fun a15 => xrc S14 a15 1 (wX1_findsBeside (fun a17 S16 => post a17 S16) a15 a4 S14)) v0 S11)) (post 0 S11)) v0 v1 a4 S8))) a7 a4 S6)) v0 v1 a5 S3)) v0 v2 S1)) v0 v1 S)
def rmX8_joined : Room := { frames := 8, cells := 3, slots := 18, locals := 142 }
section
variable {p : Program} {l : Launch} {e : Env} {R : Room} {s : State} {m : MethodId} {args : Array Value} {below : List Frame} {meth : Method} {c : Code} {D : va_G} {cy : Nat → ClassId} {A : Nat → Prop} {adK adV : Nat → Nat}
set_option maxRecDepth 100000 in
set_option maxHeartbeats 4000000 in
theorem tX8_joined {pox : String → Pool → Prop} {post : Int32 → Pool → Prop} (M : MC p m c cX8_joined 4 s args RX8) (hr : meth.sig.returnType = (some FieldType.int)) (hlk : meth.locks = false) (hRf : 8 ≤ R.frames) (hRl : 142 ≤ R.locals) (hRc : 3 ≤ R.cells) (hRs : 18 ≤ R.slots) (X : EX adK adV A s) (hl0 : l.stackTraces = false) (hout : ∀ x ∈ c.exceptionTable.toList, False) : ∀ (v0 : Option Nat) (v1 : Int32) (v2 : Int32) (S : Pool), wX8_joined pox post v0 v1 v2 S → ∀ (H : Heap) (locs : List Loc) (ls : Array Slot), PB D cy A s S H locs → lv_has ls 4 [(0, va_rf v0), (1, .int v1), (2, .int v2)] → W p l e R s m args below meth c H locs 0 0 (vx_MQ below (va_Qi post (PQ D cy A) A) (XT D cy A pox) args s 3 18 A) (F0 m 0 ls []) := by
  intro v0 v1 v2 S h H locs ls B hl
  unfold wX8_joined at h
  refine g_aload_n M dX8_joined_0 rfl (lv_at hl 0 rfl) ?_
  refine lv_iload_n M.1 M.2.1 dX8_joined_1 rfl (lv_at hl 1 rfl) ?_
  obtain ⟨o1, e1, hL1, hK1, h⟩ := h
  refine g_tcallr (k1 := 1) (k2 := 6) B hout hlk (g_runVT (n := 1) (As := [.int v1]) (rm := rmX8_questionAt) M B X e1 (kX8_questionAt (v0 := v0) (v1 := v1) l D cy adK adV hl0 h _) wmX8_220 wiX8_questionAt wsX8_questionAt wnX8 wcdX8_questionAt ⟨rfl, by decide, by decide, by decide +kernel⟩ ⟨Nat.le_trans (by decide) hRf, Nat.le_trans (by decide) hRl⟩ ⟨Nat.le_trans (by decide) hRc, Nat.le_trans (by decide) hRs⟩ hL1 hK1 (by decide) rfl rfl rfl hl.1 rfl ct_0 (by decide) dX8_joined_2) (by decide) (by decide) (by decide) (by decide) (fun a2 S1 H locs h B => ?_)
  refine lv_pop M.1 M.2.1 dX8_joined_5 (rf_cat _) ?_
  refine g_aload_n M dX8_joined_6 rfl (lv_at hl 0 rfl) ?_
  refine lv_iload_n M.1 M.2.1 dX8_joined_7 rfl (lv_at hl 2 rfl) ?_
  obtain ⟨o1, e1, hL1, hK1, h⟩ := h
  refine g_tcallr (k1 := 2) (k2 := 12) B hout hlk (g_runVT (n := 1) (As := [.int v2]) (rm := rmX8_actAt) M B X e1 (kX8_actAt (v0 := v0) (v1 := v2) l D cy adK adV hl0 h _) wmX8_145 wiX8_actAt wsX8_actAt wnX8 wcdX8_actAt ⟨rfl, by decide, by decide, by decide +kernel⟩ ⟨Nat.le_trans (by decide) hRf, Nat.le_trans (by decide) hRl⟩ ⟨Nat.le_trans (by decide) hRc, Nat.le_trans (by decide) hRs⟩ hL1 hK1 (by decide) rfl rfl rfl hl.1 rfl ct_0 (by decide) dX8_joined_8) (by decide) (by decide) (by decide) (by decide) (fun a4 S3 H locs h B => ?_)
  refine g_astore_n (lv' := [(3, va_rf a4), (0, va_rf v0), (1, .int v1), (2, .int v2)]) M dX8_joined_11 rfl hl (by decide) (fl_e (fl_k rfl rfl (fl_k rfl rfl (fl_i rfl fl_0)))) (fun ls hl => ?_)
  refine g_aload_n M dX8_joined_12 rfl (lv_at hl 1 rfl) ?_
  refine lv_iload_n M.1 M.2.1 dX8_joined_13 rfl (lv_at hl 2 rfl) ?_
  refine g_aload_n M dX8_joined_14 rfl (lv_at hl 1 rfl) ?_
  refine gfX8_103 M B dX8_joined_15 h (fun a5 h => ?_)
  obtain ⟨o1, e1, hL1, hK1, h⟩ := h
  refine g_tcallr (k1 := 3) (k2 := 18) B hout hlk (g_runVT (n := 2) (As := [.int v1, .int a5]) (rm := rmX8_sweepOf) M B X e1 (kX8_sweepOf (v0 := v0) (v1 := v1) (v2 := a5) l D cy adK adV hl0 h _) wmX8_204 wiX8_sweepOf wsX8_sweepOf wnX8 wcdX8_sweepOf ⟨rfl, by decide, by decide, by decide +kernel⟩ ⟨Nat.le_trans (by decide) hRf, Nat.le_trans (by decide) hRl⟩ ⟨Nat.le_trans (by decide) hRc, Nat.le_trans (by decide) hRs⟩ hL1 hK1 (by decide) rfl rfl rfl hl.1 rfl ct_0 (by decide) dX8_joined_18) (by decide) (by decide) (by decide) (by decide) (fun a7 S6 H locs h B => ?_)
  refine g_aload_n M dX8_joined_21 rfl (lv_at hl 0 rfl) ?_
  obtain ⟨o1, e1, hL1, hK1, h⟩ := h
  refine g_calli (k1 := 3) (k2 := 18) B (g_runV (n := 1) (As := [va_rf a4]) (rm := rmX6_isFind) M B e1 (kX6_isFind (v0 := a7) (v1 := a4) l D cy h _) wmX8_244 wiX6_isFind wsX6_isFind wnX6 wcdX6_isFind ⟨rfl, by decide, by decide, by decide +kernel⟩ ⟨Nat.le_trans (by decide) hRf, Nat.le_trans (by decide) hRl⟩ ⟨Nat.le_trans (by decide) hRc, Nat.le_trans (by decide) hRs⟩ hL1 hK1 (by decide) rfl rfl rfl hl.1 rfl ct_0 (by decide) dX8_joined_22) (by decide) (by decide) (fun a9 S8 H locs h B => ?_)
  refine lv_if_eq (tgt := 37) M.1 M.2.1 dX8_joined_25 (by decide) (fun c10 => ?_) (fun c10 => ?_)
  · have h := h.1 c10
    refine lv_iconst (v := 0) M.1 M.2.1 dX8_joined_37 (by decide) ?_
    exact vx_ret (g_iret M B hr hlk h (by decide) (by decide) dX8_joined_38)
  · have h := h.2 c10
    refine g_aload_n M dX8_joined_28 rfl (lv_at hl 1 rfl) ?_
    refine lv_iload_n M.1 M.2.1 dX8_joined_29 rfl (lv_at hl 2 rfl) ?_
    refine g_aload_n M dX8_joined_30 rfl (lv_at hl 0 rfl) ?_
    obtain ⟨o1, e1, hL1, hK1, h⟩ := h
    refine g_calli (k1 := 3) (k2 := 18) B (g_runV (n := 2) (As := [.int v1, va_rf a4]) (rm := rmX8_isExempt) M B e1 (kX8_isExempt (v0 := v0) (v1 := v1) (v2 := a4) l D cy h _) wmX8_232 wiX8_isExempt wsX8_isExempt wnX8 wcdX8_isExempt ⟨rfl, by decide, by decide, by decide +kernel⟩ ⟨Nat.le_trans (by decide) hRf, Nat.le_trans (by decide) hRl⟩ ⟨Nat.le_trans (by decide) hRc, Nat.le_trans (by decide) hRs⟩ hL1 hK1 (by decide) rfl rfl rfl hl.1 rfl ct_0 (by decide) dX8_joined_31) (by decide) (by decide) (fun a12 S11 H locs h B => ?_)
    refine lv_if_eq (tgt := 39) M.1 M.2.1 dX8_joined_34 (by decide) (fun c13 => ?_) (fun c13 => ?_)
    · have h := h.1 c13
      refine g_aload_n M dX8_joined_39 rfl (lv_at hl 1 rfl) ?_
      obtain ⟨o1, e1, hL1, hK1, h⟩ := h
      refine g_callv (k1 := 3) (k2 := 18) B (g_runV (n := 0) (As := []) (rm := rmX8_joinFinds) M B e1 (kX8_joinFinds (v0 := v0) l D cy h _) wmX8_238 wiX8_joinFinds wsX8_joinFinds wnX8 wcdX8_joinFinds ⟨rfl, by decide, by decide, by decide +kernel⟩ ⟨Nat.le_trans (by decide) hRf, Nat.le_trans (by decide) hRl⟩ ⟨Nat.le_trans (by decide) hRc, Nat.le_trans (by decide) hRs⟩ hL1 hK1 (by decide) rfl rfl rfl hl.1 rfl ct_0 (by decide) dX8_joined_40) (by decide) (by decide) (fun S14 H locs h B => ?_)
      refine g_aload_n M dX8_joined_43 rfl (lv_at hl 1 rfl) ?_
      refine gfX8_44 M B dX8_joined_44 h (fun a15 h => ?_)
      refine g_aload_n M dX8_joined_47 rfl (lv_at hl 0 rfl) ?_
      obtain ⟨o1, e1, hL1, hK1, h⟩ := h
      refine g_calli (k1 := 3) (k2 := 18) B (g_runV (n := 1) (As := [va_rf a4]) (rm := rmX1_findsBeside) M B e1 (kX1_findsBeside (v0 := a15) (v1 := a4) l D cy h _) wmX8_248 wiX1_findsBeside wsX1_findsBeside wnX1 wcdX1_findsBeside ⟨rfl, by decide, by decide, by decide +kernel⟩ ⟨Nat.le_trans (by decide) hRf, Nat.le_trans (by decide) hRl⟩ ⟨Nat.le_trans (by decide) hRc, Nat.le_trans (by decide) hRs⟩ hL1 hK1 (by decide) rfl rfl rfl hl.1 rfl ct_0 (by decide) dX8_joined_48) (by decide) (by decide) (fun a17 S16 H locs h B => ?_)
      exact vx_ret (g_iret M B hr hlk h (by decide) (by decide) dX8_joined_51)
    · have h := h.2 c13
      refine lv_iconst (v := 0) M.1 M.2.1 dX8_joined_37 (by decide) ?_
      exact vx_ret (g_iret M B hr hlk h (by decide) (by decide) dX8_joined_38)
end
set_option maxRecDepth 100000 in
set_option maxHeartbeats 4000000 in
theorem kX8_joined (l : Launch) (D : va_G) (cy : Nat → ClassId) (adK adV : Nat → Nat) (hl0 : l.stackTraces = false) {pox : String → Pool → Prop} {post : Int32 → Pool → Prop} {v0 : Option Nat} {v1 : Int32} {v2 : Int32} {S : Pool} (h : wX8_joined pox post v0 v1 v2 S) : MetIT l adK adV yX8_joined cX8_joined 4 (some FieldType.int) rmX8_joined [va_rf v0, .int v1, .int v2] D cy S pox post := by
  intro sz
  refine vx_ofW (cc := cX8_joined) (maxL := 4) (ret := (some FieldType.int)) (by decide) rfl ?_
  intro p e s m args below meth c s₁ B0 hml hout hv
  obtain ⟨rfl, hpp⟩ := hv
  have hts := atoms_spec (ws := .code yX8_joined cX8_joined 4 (some FieldType.int) :: Gw) B0.pre
  obtain rfl : s.heap.size = sz := hpp.1.1
  have hl := lv_entry [va_rf v0, .int v1, .int v2] (n := 4) (by rw [sl_r, sl_i, sl_i, sl_0]; decide)
  rw [lg_entry_eq]
  rw [la_r, la_i, la_i, la_0] at hl
  exact tX8_joined (l := l) (R := rmX8_joined) ⟨B0.exec, B0.bytes, hml, findClass_of_methodNamed B0.named, fun w hw => hts w (List.mem_cons_of_mem _ hw)⟩ B0.returns B0.notSynchronized (Nat.le_refl _) (Nat.le_refl _) (Nat.le_refl _) (Nat.le_refl _) hpp.ex hl0 hout _ _ _ _ h _ _ _ hpp.1.pb (lv_sub hl [0, 1, 2] rfl)
-- X8_cost: LogHunt.cost(II)I
def wX8_cost (pox : String → Pool → Prop) (post : Int32 → Pool → Prop) (v0 : Option Nat) (v1 : Int32) (v2 : Int32) (S : Pool) : Prop := xrc S v0 8 (wX8_sweepOf pox (fun a2 S1 => xrc S1 a2 6 (wX6_fewestFits (fun a4 S3 => post a4 S3) a2 S1)) v0 v1 v2 S)
def rmX8_cost : Room := { frames := 8, cells := 1, slots := 6, locals := 134 }
section
variable {p : Program} {l : Launch} {e : Env} {R : Room} {s : State} {m : MethodId} {args : Array Value} {below : List Frame} {meth : Method} {c : Code} {D : va_G} {cy : Nat → ClassId} {A : Nat → Prop} {adK adV : Nat → Nat}
set_option maxRecDepth 100000 in
set_option maxHeartbeats 4000000 in
theorem tX8_cost {pox : String → Pool → Prop} {post : Int32 → Pool → Prop} (M : MC p m c cX8_cost 3 s args RX8) (hr : meth.sig.returnType = (some FieldType.int)) (hlk : meth.locks = false) (hRf : 8 ≤ R.frames) (hRl : 134 ≤ R.locals) (hRc : 1 ≤ R.cells) (hRs : 6 ≤ R.slots) (X : EX adK adV A s) (hl0 : l.stackTraces = false) (hout : ∀ x ∈ c.exceptionTable.toList, False) : ∀ (v0 : Option Nat) (v1 : Int32) (v2 : Int32) (S : Pool), wX8_cost pox post v0 v1 v2 S → ∀ (H : Heap) (locs : List Loc) (ls : Array Slot), PB D cy A s S H locs → lv_has ls 3 [(0, va_rf v0), (1, .int v1), (2, .int v2)] → W p l e R s m args below meth c H locs 0 0 (vx_MQ below (va_Qi post (PQ D cy A) A) (XT D cy A pox) args s 1 6 A) (F0 m 0 ls []) := by
  intro v0 v1 v2 S h H locs ls B hl
  unfold wX8_cost at h
  refine g_aload_n M dX8_cost_0 rfl (lv_at hl 0 rfl) ?_
  refine lv_iload_n M.1 M.2.1 dX8_cost_1 rfl (lv_at hl 1 rfl) ?_
  refine lv_iload_n M.1 M.2.1 dX8_cost_2 rfl (lv_at hl 2 rfl) ?_
  obtain ⟨o1, e1, hL1, hK1, h⟩ := h
  refine g_tcallr (k1 := 1) (k2 := 6) B hout hlk (g_runVT (n := 2) (As := [.int v1, .int v2]) (rm := rmX8_sweepOf) M B X e1 (kX8_sweepOf (v0 := v0) (v1 := v1) (v2 := v2) l D cy adK adV hl0 h _) wmX8_204 wiX8_sweepOf wsX8_sweepOf wnX8 wcdX8_sweepOf ⟨rfl, by decide, by decide, by decide +kernel⟩ ⟨Nat.le_trans (by decide) hRf, Nat.le_trans (by decide) hRl⟩ ⟨Nat.le_trans (by decide) hRc, Nat.le_trans (by decide) hRs⟩ hL1 hK1 (by decide) rfl rfl rfl hl.1 rfl ct_0 (by decide) dX8_cost_3) (by decide) (by decide) (by decide) (by decide) (fun a2 S1 H locs h B => ?_)
  obtain ⟨o1, e1, hL1, hK1, h⟩ := h
  refine g_calli (k1 := 1) (k2 := 6) B (g_runV (n := 0) (As := []) (rm := rmX6_fewestFits) M B e1 (kX6_fewestFits (v0 := a2) l D cy h _) wmX8_252 wiX6_fewestFits wsX6_fewestFits wnX6 wcdX6_fewestFits ⟨rfl, by decide, by decide, by decide +kernel⟩ ⟨Nat.le_trans (by decide) hRf, Nat.le_trans (by decide) hRl⟩ ⟨Nat.le_trans (by decide) hRc, Nat.le_trans (by decide) hRs⟩ hL1 hK1 (by decide) rfl rfl rfl hl.1 rfl ct_0 (by decide) dX8_cost_6) (by decide) (by decide) (fun a4 S3 H locs h B => ?_)
  exact vx_ret (g_iret M B hr hlk h (by decide) (by decide) dX8_cost_9)
end
set_option maxRecDepth 100000 in
set_option maxHeartbeats 4000000 in
theorem kX8_cost (l : Launch) (D : va_G) (cy : Nat → ClassId) (adK adV : Nat → Nat) (hl0 : l.stackTraces = false) {pox : String → Pool → Prop} {post : Int32 → Pool → Prop} {v0 : Option Nat} {v1 : Int32} {v2 : Int32} {S : Pool} (h : wX8_cost pox post v0 v1 v2 S) : MetIT l adK adV yX8_cost cX8_cost 3 (some FieldType.int) rmX8_cost [va_rf v0, .int v1, .int v2] D cy S pox post := by
  intro sz
  refine vx_ofW (cc := cX8_cost) (maxL := 3) (ret := (some FieldType.int)) (by decide) rfl ?_
  intro p e s m args below meth c s₁ B0 hml hout hv
  obtain ⟨rfl, hpp⟩ := hv
  have hts := atoms_spec (ws := .code yX8_cost cX8_cost 3 (some FieldType.int) :: Gw) B0.pre
  obtain rfl : s.heap.size = sz := hpp.1.1
  have hl := lv_entry [va_rf v0, .int v1, .int v2] (n := 3) (by rw [sl_r, sl_i, sl_i, sl_0]; decide)
  rw [lg_entry_eq]
  rw [la_r, la_i, la_i, la_0] at hl
  exact tX8_cost (l := l) (R := rmX8_cost) ⟨B0.exec, B0.bytes, hml, findClass_of_methodNamed B0.named, fun w hw => hts w (List.mem_cons_of_mem _ hw)⟩ B0.returns B0.notSynchronized (Nat.le_refl _) (Nat.le_refl _) (Nat.le_refl _) (Nat.le_refl _) hpp.ex hl0 hout _ _ _ _ h _ _ _ hpp.1.pb (lv_sub hl [0, 1, 2] rfl)
-- X8_widest: LogHunt.widest(II)I
def wX8_widest (pox : String → Pool → Prop) (post : Int32 → Pool → Prop) (v0 : Option Nat) (v1 : Int32) (v2 : Int32) (S : Pool) : Prop := xrc S v0 8 (wX8_sweepOf pox (fun a2 S1 => xrc S1 a2 6 (wX6_widestField (fun a4 S3 => post a4 S3) a2 S1)) v0 v1 v2 S)
def rmX8_widest : Room := { frames := 8, cells := 1, slots := 6, locals := 134 }
section
variable {p : Program} {l : Launch} {e : Env} {R : Room} {s : State} {m : MethodId} {args : Array Value} {below : List Frame} {meth : Method} {c : Code} {D : va_G} {cy : Nat → ClassId} {A : Nat → Prop} {adK adV : Nat → Nat}
set_option maxRecDepth 100000 in
set_option maxHeartbeats 4000000 in
theorem tX8_widest {pox : String → Pool → Prop} {post : Int32 → Pool → Prop} (M : MC p m c cX8_widest 3 s args RX8) (hr : meth.sig.returnType = (some FieldType.int)) (hlk : meth.locks = false) (hRf : 8 ≤ R.frames) (hRl : 134 ≤ R.locals) (hRc : 1 ≤ R.cells) (hRs : 6 ≤ R.slots) (X : EX adK adV A s) (hl0 : l.stackTraces = false) (hout : ∀ x ∈ c.exceptionTable.toList, False) : ∀ (v0 : Option Nat) (v1 : Int32) (v2 : Int32) (S : Pool), wX8_widest pox post v0 v1 v2 S → ∀ (H : Heap) (locs : List Loc) (ls : Array Slot), PB D cy A s S H locs → lv_has ls 3 [(0, va_rf v0), (1, .int v1), (2, .int v2)] → W p l e R s m args below meth c H locs 0 0 (vx_MQ below (va_Qi post (PQ D cy A) A) (XT D cy A pox) args s 1 6 A) (F0 m 0 ls []) := by
  intro v0 v1 v2 S h H locs ls B hl
  unfold wX8_widest at h
  refine g_aload_n M dX8_widest_0 rfl (lv_at hl 0 rfl) ?_
  refine lv_iload_n M.1 M.2.1 dX8_widest_1 rfl (lv_at hl 1 rfl) ?_
  refine lv_iload_n M.1 M.2.1 dX8_widest_2 rfl (lv_at hl 2 rfl) ?_
  obtain ⟨o1, e1, hL1, hK1, h⟩ := h
  refine g_tcallr (k1 := 1) (k2 := 6) B hout hlk (g_runVT (n := 2) (As := [.int v1, .int v2]) (rm := rmX8_sweepOf) M B X e1 (kX8_sweepOf (v0 := v0) (v1 := v1) (v2 := v2) l D cy adK adV hl0 h _) wmX8_204 wiX8_sweepOf wsX8_sweepOf wnX8 wcdX8_sweepOf ⟨rfl, by decide, by decide, by decide +kernel⟩ ⟨Nat.le_trans (by decide) hRf, Nat.le_trans (by decide) hRl⟩ ⟨Nat.le_trans (by decide) hRc, Nat.le_trans (by decide) hRs⟩ hL1 hK1 (by decide) rfl rfl rfl hl.1 rfl ct_0 (by decide) dX8_widest_3) (by decide) (by decide) (by decide) (by decide) (fun a2 S1 H locs h B => ?_)
  obtain ⟨o1, e1, hL1, hK1, h⟩ := h
  refine g_calli (k1 := 1) (k2 := 6) B (g_runV (n := 0) (As := []) (rm := rmX6_widestField) M B e1 (kX6_widestField (v0 := a2) l D cy h _) wmX8_256 wiX6_widestField wsX6_widestField wnX6 wcdX6_widestField ⟨rfl, by decide, by decide, by decide +kernel⟩ ⟨Nat.le_trans (by decide) hRf, Nat.le_trans (by decide) hRl⟩ ⟨Nat.le_trans (by decide) hRc, Nat.le_trans (by decide) hRs⟩ hL1 hK1 (by decide) rfl rfl rfl hl.1 rfl ct_0 (by decide) dX8_widest_6) (by decide) (by decide) (fun a4 S3 H locs h B => ?_)
  exact vx_ret (g_iret M B hr hlk h (by decide) (by decide) dX8_widest_9)
end
set_option maxRecDepth 100000 in
set_option maxHeartbeats 4000000 in
theorem kX8_widest (l : Launch) (D : va_G) (cy : Nat → ClassId) (adK adV : Nat → Nat) (hl0 : l.stackTraces = false) {pox : String → Pool → Prop} {post : Int32 → Pool → Prop} {v0 : Option Nat} {v1 : Int32} {v2 : Int32} {S : Pool} (h : wX8_widest pox post v0 v1 v2 S) : MetIT l adK adV yX8_widest cX8_widest 3 (some FieldType.int) rmX8_widest [va_rf v0, .int v1, .int v2] D cy S pox post := by
  intro sz
  refine vx_ofW (cc := cX8_widest) (maxL := 3) (ret := (some FieldType.int)) (by decide) rfl ?_
  intro p e s m args below meth c s₁ B0 hml hout hv
  obtain ⟨rfl, hpp⟩ := hv
  have hts := atoms_spec (ws := .code yX8_widest cX8_widest 3 (some FieldType.int) :: Gw) B0.pre
  obtain rfl : s.heap.size = sz := hpp.1.1
  have hl := lv_entry [va_rf v0, .int v1, .int v2] (n := 3) (by rw [sl_r, sl_i, sl_i, sl_0]; decide)
  rw [lg_entry_eq]
  rw [la_r, la_i, la_i, la_0] at hl
  exact tX8_widest (l := l) (R := rmX8_widest) ⟨B0.exec, B0.bytes, hml, findClass_of_methodNamed B0.named, fun w hw => hts w (List.mem_cons_of_mem _ hw)⟩ B0.returns B0.notSynchronized (Nat.le_refl _) (Nat.le_refl _) (Nat.le_refl _) (Nat.le_refl _) hpp.ex hl0 hout _ _ _ _ h _ _ _ hpp.1.pb (lv_sub hl [0, 1, 2] rfl)
-- X8_count: LogHunt.count(I)I
def wX8_count (post : Int32 → Pool → Prop) (v0 : Option Nat) (v1 : Int32) (S : Pool) : Prop := br (v1.toInt < 0 ∨ 7 < v1.toInt) (post ((-1)) S) (br (v1.toInt = 0) (xI S v0 8 11 fun a2 => post a2 S) (br (v1.toInt = 1) (xR S v0 8 2 fun a4 => xI S a4 2 2 fun a5 => post a5 S) (br (v1.toInt = 2) (xR S v0 8 2 fun a7 => xI S a7 2 3 fun a8 => post a8 S) (br (v1.toInt = 3) (xI S v0 8 9 fun a10 => post a10 S) (br (v1.toInt = 4) (xI S v0 8 10 fun a12 => post a12 S) (br (v1.toInt = 5) (xI S v0 8 12 fun a14 => post a14 S) (br (v1.toInt = 6) (xR S v0 8 2 fun a16 => xI S a16 2 4 fun a17 => post a17 S) (xrc S v0 8 (wX8_joinFinds (fun S19 => xR S19 v0 8 4 fun a20 => xI S19 a20 1 6 fun a21 => post a21 S19) v0 S)))))))))
def rmX8_count : Room := { frames := 6, cells := 0, slots := 0, locals := 142 }
section
variable {p : Program} {l : Launch} {e : Env} {R : Room} {s : State} {m : MethodId} {args : Array Value} {below : List Frame} {meth : Method} {c : Code} {D : va_G} {cy : Nat → ClassId} {A : Nat → Prop}
set_option maxRecDepth 100000 in
set_option maxHeartbeats 4000000 in
theorem tX8_count {post : Int32 → Pool → Prop} (M : MC p m c cX8_count 2 s args RX8) (hr : meth.sig.returnType = (some FieldType.int)) (hlk : meth.locks = false) (hRf : 6 ≤ R.frames) (hRl : 142 ≤ R.locals) (hRc : 0 ≤ R.cells) (hRs : 0 ≤ R.slots) : ∀ (v0 : Option Nat) (v1 : Int32) (S : Pool), wX8_count post v0 v1 S → ∀ (H : Heap) (locs : List Loc) (ls : Array Slot), PB D cy A s S H locs → lv_has ls 2 [(0, va_rf v0), (1, .int v1)] → W p l e R s m args below meth c H locs 0 0 (MQ below (va_Qi post (PQ D cy A) A) args s 0 0 A) (F0 m 0 ls []) := by
  intro v0 v1 S h H locs ls B hl
  unfold wX8_count at h
  refine lv_iload_n M.1 M.2.1 dX8_count_0 rfl (lv_at hl 1 rfl) ?_
  by_cases c1 : v1.toInt < 0 ∨ 7 < v1.toInt
  · have h := h.1 c1
    refine lv_tableOut (tgt := 104) M.1 M.2.1 dX8_count_1 c1 (by decide) ?_
    refine lv_iconst (v := (-1)) M.1 M.2.1 dX8_count_104 (by decide) ?_
    exact g_iret M B hr hlk h (by decide) (by decide) dX8_count_105
  · have h := h.2 c1
    by_cases c3 : v1.toInt = 0
    · have h := h.1 c3
      refine lv_tableIn (tgt := 48) (off := 47) M.1 M.2.1 dX8_count_1 (fun q => c1 (Or.inl q)) (fun q => c1 (Or.inr q)) (by rw [c3]; rfl) (by decide) ?_
      refine g_aload_n M dX8_count_48 rfl (lv_at hl 0 rfl) ?_
      refine gfX8_103 M B dX8_count_49 h (fun a2 h => ?_)
      exact g_iret M B hr hlk h (by decide) (by decide) dX8_count_52
    have h := h.2 c3
    by_cases c6 : v1.toInt = 1
    · have h := h.1 c6
      refine lv_tableIn (tgt := 53) (off := 52) M.1 M.2.1 dX8_count_1 (fun q => c1 (Or.inl q)) (fun q => c1 (Or.inr q)) (by rw [c6]; rfl) (by decide) ?_
      refine g_aload_n M dX8_count_53 rfl (lv_at hl 0 rfl) ?_
      refine gfX8_28 M B dX8_count_54 h (fun a4 h => ?_)
      refine gfX8_128 M B dX8_count_57 h (fun a5 h => ?_)
      exact g_iret M B hr hlk h (by decide) (by decide) dX8_count_60
    have h := h.2 c6
    by_cases c9 : v1.toInt = 2
    · have h := h.1 c9
      refine lv_tableIn (tgt := 61) (off := 60) M.1 M.2.1 dX8_count_1 (fun q => c1 (Or.inl q)) (fun q => c1 (Or.inr q)) (by rw [c9]; rfl) (by decide) ?_
      refine g_aload_n M dX8_count_61 rfl (lv_at hl 0 rfl) ?_
      refine gfX8_28 M B dX8_count_62 h (fun a7 h => ?_)
      refine gfX8_259 M B dX8_count_65 h (fun a8 h => ?_)
      exact g_iret M B hr hlk h (by decide) (by decide) dX8_count_68
    have h := h.2 c9
    by_cases c11 : v1.toInt = 3
    · have h := h.1 c11
      refine lv_tableIn (tgt := 69) (off := 68) M.1 M.2.1 dX8_count_1 (fun q => c1 (Or.inl q)) (fun q => c1 (Or.inr q)) (by rw [c11]; rfl) (by decide) ?_
      refine g_aload_n M dX8_count_69 rfl (lv_at hl 0 rfl) ?_
      refine gfX8_199 M B dX8_count_70 h (fun a10 h => ?_)
      exact g_iret M B hr hlk h (by decide) (by decide) dX8_count_73
    have h := h.2 c11
    by_cases c13 : v1.toInt = 4
    · have h := h.1 c13
      refine lv_tableIn (tgt := 74) (off := 73) M.1 M.2.1 dX8_count_1 (fun q => c1 (Or.inl q)) (fun q => c1 (Or.inr q)) (by rw [c13]; rfl) (by decide) ?_
      refine g_aload_n M dX8_count_74 rfl (lv_at hl 0 rfl) ?_
      refine gfX8_226 M B dX8_count_75 h (fun a12 h => ?_)
      exact g_iret M B hr hlk h (by decide) (by decide) dX8_count_78
    have h := h.2 c13
    by_cases c15 : v1.toInt = 5
    · have h := h.1 c15
      refine lv_tableIn (tgt := 79) (off := 78) M.1 M.2.1 dX8_count_1 (fun q => c1 (Or.inl q)) (fun q => c1 (Or.inr q)) (by rw [c15]; rfl) (by decide) ?_
      refine g_aload_n M dX8_count_79 rfl (lv_at hl 0 rfl) ?_
      refine gfX8_74 M B dX8_count_80 h (fun a14 h => ?_)
      exact g_iret M B hr hlk h (by decide) (by decide) dX8_count_83
    have h := h.2 c15
    by_cases c18 : v1.toInt = 6
    · have h := h.1 c18
      refine lv_tableIn (tgt := 84) (off := 83) M.1 M.2.1 dX8_count_1 (fun q => c1 (Or.inl q)) (fun q => c1 (Or.inr q)) (by rw [c18]; rfl) (by decide) ?_
      refine g_aload_n M dX8_count_84 rfl (lv_at hl 0 rfl) ?_
      refine gfX8_28 M B dX8_count_85 h (fun a16 h => ?_)
      refine gfX8_260 M B dX8_count_88 h (fun a17 h => ?_)
      exact g_iret M B hr hlk h (by decide) (by decide) dX8_count_91
    have h := h.2 c18
    have c22 : v1.toInt = 7 := by omega
    refine lv_tableIn (tgt := 92) (off := 91) M.1 M.2.1 dX8_count_1 (fun q => c1 (Or.inl q)) (fun q => c1 (Or.inr q)) (by rw [c22]; rfl) (by decide) ?_
    refine g_aload_n M dX8_count_92 rfl (lv_at hl 0 rfl) ?_
    obtain ⟨o1, e1, hL1, hK1, h⟩ := h
    refine g_callv (k1 := 0) (k2 := 0) B (g_runV (n := 0) (As := []) (rm := rmX8_joinFinds) M B e1 (kX8_joinFinds (v0 := v0) l D cy h _) wmX8_238 wiX8_joinFinds wsX8_joinFinds wnX8 wcdX8_joinFinds ⟨rfl, by decide, by decide, by decide +kernel⟩ ⟨Nat.le_trans (by decide) hRf, Nat.le_trans (by decide) hRl⟩ ⟨Nat.le_trans (by decide) hRc, Nat.le_trans (by decide) hRs⟩ hL1 hK1 (by decide) rfl rfl rfl hl.1 rfl ct_0 (by decide) dX8_count_93) (by decide) (by decide) (fun S19 H locs h B => ?_)
    refine g_aload_n M dX8_count_96 rfl (lv_at hl 0 rfl) ?_
    refine gfX8_44 M B dX8_count_97 h (fun a20 h => ?_)
    refine gfX8_263 M B dX8_count_100 h (fun a21 h => ?_)
    exact g_iret M B hr hlk h (by decide) (by decide) dX8_count_103
end
set_option maxRecDepth 100000 in
set_option maxHeartbeats 4000000 in
theorem kX8_count (l : Launch) (D : va_G) (cy : Nat → ClassId) {post : Int32 → Pool → Prop} {v0 : Option Nat} {v1 : Int32} {S : Pool} (h : wX8_count post v0 v1 S) : MetI l yX8_count cX8_count 2 (some FieldType.int) rmX8_count [va_rf v0, .int v1] D cy S post := by
  intro sz
  refine Met.ofW (cc := cX8_count) (maxL := 2) (ret := (some FieldType.int)) (by decide) rfl ?_
  intro p e s m args below meth c s₁ B0 hml hv
  obtain ⟨rfl, hpp⟩ := hv
  have hts := atoms_spec (ws := .code yX8_count cX8_count 2 (some FieldType.int) :: Gw) B0.pre
  obtain rfl : s.heap.size = sz := hpp.1
  have hl := lv_entry [va_rf v0, .int v1] (n := 2) (by rw [sl_r, sl_i, sl_0]; decide)
  rw [lg_entry_eq]
  rw [la_r, la_i, la_0] at hl
  exact tX8_count (l := l) (R := rmX8_count) ⟨B0.exec, B0.bytes, hml, findClass_of_methodNamed B0.named, fun w hw => hts w (List.mem_cons_of_mem _ hw)⟩ B0.returns B0.notSynchronized (Nat.le_refl _) (Nat.le_refl _) (Nat.le_refl _) (Nat.le_refl _) _ _ _ h _ _ _ hpp.pb (lv_sub hl [0, 1] rfl)
