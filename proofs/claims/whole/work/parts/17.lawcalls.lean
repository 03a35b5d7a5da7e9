-- L_ticks
def wL_ticks (post : Int32 → Pool → Prop) (v0 : Option Nat) (v1 : Int32) (v2 : Option Nat) (S : Pool) : Prop := xrc S v0 8 (wX8_ticks (fun E S2 => (E = "java/lang/IllegalArgumentException" ∧ post 1 S2)) (fun a4 S1 => xsJ S1 v2 0 (a4.toInt64) fun S5 => post 0 S5) v0 v1 S)
def rmL_ticks : Room := { frames := 7, cells := 1, slots := 6, locals := 111 }
section
variable {p : Program} {l : Launch} {e : Env} {R : Room} {s : State} {m : MethodId} {args : Array Value} {below : List Frame} {meth : Method} {c : Code} {D : va_G} {cy : Nat → ClassId} {A : Nat → Prop} {adK adV : Nat → Nat}
set_option maxRecDepth 100000 in
set_option maxHeartbeats 4000000 in
theorem tL_ticks {post : Int32 → Pool → Prop} (M : MC p m c cL_ticks 4 s args RL) (hr : meth.sig.returnType = (some FieldType.int)) (hlk : meth.locks = false) (hRf : 7 ≤ R.frames) (hRl : 111 ≤ R.locals) (hRc : 1 ≤ R.cells) (hRs : 6 ≤ R.slots) (X : EX adK adV A s) (N : NC s) (hl0 : l.stackTraces = false) (ht : c.exceptionTable.toList = tableOf [(0, 9, 12, 13)]) : ∀ (v0 : Option Nat) (v1 : Int32) (v2 : Option Nat) (S : Pool), wL_ticks post v0 v1 v2 S → ∀ (H : Heap) (locs : List Loc) (ls : Array Slot), PB D cy A s S H locs → lv_has ls 4 [(0, va_rf v0), (1, .int v1), (2, va_rf v2)] → W p l e R s m args below meth c H locs 0 0 (vx_MQ below (va_Qi post (PQ D cy A) A) (XT D cy A (fun _ _ => False)) args s 1 6 A) (F0 m 0 ls []) := by
  intro v0 v1 v2 S h H locs ls B hl
  unfold wL_ticks at h
  refine g_aload_n M dL_ticks_0 rfl (lv_at hl 2 rfl) ?_
  refine lv_iconst (v := 0) M.1 M.2.1 dL_ticks_1 (by decide) ?_
  refine g_aload_n M dL_ticks_2 rfl (lv_at hl 0 rfl) ?_
  refine lv_iload_n M.1 M.2.1 dL_ticks_3 rfl (lv_at hl 1 rfl) ?_
  obtain ⟨o1, e1, hL1, hK1, h⟩ := h
  refine g_lcalli (k1 := 1) (k2 := 6) B (g_runVT (n := 1) (As := [.int v1]) (rm := rmX8_ticks) M B X e1 (kX8_ticks (v0 := v0) (v1 := v1) l D cy adK adV hl0 h _) wmL_7 wiX8_ticks wsX8_ticks wnX8 wcdX8_ticks ⟨rfl, by decide, by decide, by decide +kernel⟩ ⟨Nat.le_trans (by decide) hRf, Nat.le_trans (by decide) hRl⟩ ⟨Nat.le_trans (by decide) hRc, Nat.le_trans (by decide) hRs⟩ hL1 hK1 (by decide) rfl rfl rfl hl.1 rfl (ct_i (ct_r ct_0)) (by decide) dL_ticks_4) (by decide) (by decide) (fun E ce q3 S2 H locs h B hce hcv hcl => ?_) (fun a4 S1 H locs h B => ?_)
  · obtain ⟨rfl, h⟩ := h
    refine vx_catch (own := RL) (name := "java/lang/IllegalArgumentException") M.2.2.2.1 [] ⟨0, 9, 12, 13⟩ [] ht (fun z hz => by cases hz) (by decide) (by decide) (M.2.2.2.2 _ wcL_13) (Nw_useB rfl (X.2 _ (by decide +kernel))) hce hcv hcl ?_
    refine g_astore_n (lv' := [(3, va_rf (some q3)), (0, va_rf v0), (1, .int v1), (2, va_rf v2)]) M dL_ticks_12 rfl hl (by decide) (fl_e (fl_k rfl rfl (fl_k rfl rfl (fl_r rfl fl_0)))) (fun ls hl => ?_)
    refine lv_iconst (v := 1) M.1 M.2.1 dL_ticks_13 (by decide) ?_
    exact vx_ret (g_iret M B hr hlk h (by decide) (by decide) dL_ticks_14)
  · refine lv_i2l (v := a4.toInt64) M.1 M.2.1 dL_ticks_7 rfl ?_
    refine g_last M B dL_ticks_8 h (fun S5 H locs h B => ?_)
    refine lv_goto (tgt := 15) M.1 M.2.1 dL_ticks_9 (by decide) ?_
    refine lv_iconst (v := 0) M.1 M.2.1 dL_ticks_15 (by decide) ?_
    exact vx_ret (g_iret M B hr hlk h (by decide) (by decide) dL_ticks_16)
end
set_option maxRecDepth 100000 in
set_option maxHeartbeats 4000000 in
theorem kL_ticks (l : Launch) (D : va_G) (cy : Nat → ClassId) (adK adV : Nat → Nat) (hl0 : l.stackTraces = false) {post : Int32 → Pool → Prop} {v0 : Option Nat} {v1 : Int32} {v2 : Option Nat} {S : Pool} (h : wL_ticks post v0 v1 v2 S) : MetIL l adK adV yL_ticks cL_ticks 4 [(0, 9, 12, 13)] rmL_ticks [va_rf v0, .int v1, va_rf v2] D cy S post := by
  intro sz
  refine vx_ofWH (cc := cL_ticks) (maxL := 4) (ret := some .int) (hh := [(0, 9, 12, 13)]) (by decide) rfl ?_
  intro p e s m args below meth c s₁ B0 hml hv
  obtain ⟨rfl, hpp⟩ := hv
  have hts := atoms_spec (ws := .codeWith yL_ticks cL_ticks 4 (some .int) [(0, 9, 12, 13)] :: Gw) B0.pre
  obtain rfl : s.heap.size = sz := hpp.1.1.1
  have hl := lv_entry [va_rf v0, .int v1, va_rf v2] (n := 4) (by rw [sl_r, sl_i, sl_r, sl_0]; decide)
  rw [lg_entry_eq]
  rw [la_r, la_i, la_r, la_0] at hl
  exact tL_ticks (l := l) (R := rmL_ticks) ⟨B0.exec, B0.bytes, hml, findClass_of_methodNamed B0.named, fun w hw => hts w (List.mem_cons_of_mem _ hw)⟩ B0.returns B0.notSynchronized (Nat.le_refl _) (Nat.le_refl _) (Nat.le_refl _) (Nat.le_refl _) hpp.1.ex hpp.2 hl0 (vx_table (x := yL_ticks) B0 (hts _ List.mem_cons_self)) _ _ _ _ h _ _ _ hpp.1.1.pb (lv_sub hl [0, 1, 2] rfl)
-- L_act
def wL_act (post : Int32 → Pool → Prop) (v0 : Option Nat) (v1 : Int32) (v2 : Int32) (v3 : Int32) (v4 : Int32) (v5 : Int32) (v6 : Option Nat) (S : Pool) : Prop := xrc S v0 8 (wX8_act (fun E S2 => (E = "java/lang/IllegalArgumentException" ∧ post 1 S2) ∨ (E = "java/lang/UnsupportedOperationException" ∧ post 2 S2)) (fun a4 S1 => xsJ S1 v6 0 (a4.toInt64) fun S5 => post 0 S5) v0 v1 v2 v3 v4 v5 S)
def rmL_act : Room := { frames := 7, cells := 1, slots := 9, locals := 116 }
section
variable {p : Program} {l : Launch} {e : Env} {R : Room} {s : State} {m : MethodId} {args : Array Value} {below : List Frame} {meth : Method} {c : Code} {D : va_G} {cy : Nat → ClassId} {A : Nat → Prop} {adK adV : Nat → Nat}
set_option maxRecDepth 100000 in
set_option maxHeartbeats 4000000 in
theorem tL_act {post : Int32 → Pool → Prop} (M : MC p m c cL_act 8 s args RL) (hr : meth.sig.returnType = (some FieldType.int)) (hlk : meth.locks = false) (hRf : 7 ≤ R.frames) (hRl : 116 ≤ R.locals) (hRc : 1 ≤ R.cells) (hRs : 9 ≤ R.slots) (X : EX adK adV A s) (N : NC s) (hl0 : l.stackTraces = false) (ht : c.exceptionTable.toList = tableOf [(0, 16, 19, 13), (0, 16, 23, 19)]) : ∀ (v0 : Option Nat) (v1 : Int32) (v2 : Int32) (v3 : Int32) (v4 : Int32) (v5 : Int32) (v6 : Option Nat) (S : Pool), wL_act post v0 v1 v2 v3 v4 v5 v6 S → ∀ (H : Heap) (locs : List Loc) (ls : Array Slot), PB D cy A s S H locs → lv_has ls 8 [(0, va_rf v0), (1, .int v1), (2, .int v2), (3, .int v3), (4, .int v4), (5, .int v5), (6, va_rf v6)] → W p l e R s m args below meth c H locs 0 0 (vx_MQ below (va_Qi post (PQ D cy A) A) (XT D cy A (fun _ _ => False)) args s 1 9 A) (F0 m 0 ls []) := by
  intro v0 v1 v2 v3 v4 v5 v6 S h H locs ls B hl
  unfold wL_act at h
  refine g_aload M dL_act_0 (lv_at hl 6 rfl) ?_
  refine lv_iconst (v := 0) M.1 M.2.1 dL_act_2 (by decide) ?_
  refine g_aload_n M dL_act_3 rfl (lv_at hl 0 rfl) ?_
  refine lv_iload_n M.1 M.2.1 dL_act_4 rfl (lv_at hl 1 rfl) ?_
  refine lv_iload_n M.1 M.2.1 dL_act_5 rfl (lv_at hl 2 rfl) ?_
  refine lv_iload_n M.1 M.2.1 dL_act_6 rfl (lv_at hl 3 rfl) ?_
  refine lv_iload M.1 M.2.1 dL_act_7 (lv_at hl 4 rfl) ?_
  refine lv_iload M.1 M.2.1 dL_act_9 (lv_at hl 5 rfl) ?_
  obtain ⟨o1, e1, hL1, hK1, h⟩ := h
  refine g_lcalli (k1 := 1) (k2 := 9) B (g_runVT (n := 5) (As := [.int v1, .int v2, .int v3, .int v4, .int v5]) (rm := rmX8_act) M B X e1 (kX8_act (v0 := v0) (v1 := v1) (v2 := v2) (v3 := v3) (v4 := v4) (v5 := v5) l D cy adK adV hl0 h _) wmL_15 wiX8_act wsX8_act wnX8 wcdX8_act ⟨rfl, by decide, by decide, by decide +kernel⟩ ⟨Nat.le_trans (by decide) hRf, Nat.le_trans (by decide) hRl⟩ ⟨Nat.le_trans (by decide) hRc, Nat.le_trans (by decide) hRs⟩ hL1 hK1 (by decide) rfl rfl rfl hl.1 rfl (ct_i (ct_r ct_0)) (by decide) dL_act_11) (by decide) (by decide) (fun E ce q3 S2 H locs h B hce hcv hcl => ?_) (fun a4 S1 H locs h B => ?_)
  · rcases h with ⟨rfl, h⟩ | ⟨rfl, h⟩
    · refine vx_catch (own := RL) (name := "java/lang/IllegalArgumentException") M.2.2.2.1 [] ⟨0, 16, 19, 13⟩ [⟨0, 16, 23, 19⟩] ht (fun z hz => by cases hz) (by decide) (by decide) (M.2.2.2.2 _ wcL_13) (Nw_useB rfl (X.2 _ (by decide +kernel))) hce hcv hcl ?_
      refine g_astore (lv' := [(7, va_rf (some q3)), (0, va_rf v0), (1, .int v1), (2, .int v2), (3, .int v3), (4, .int v4), (5, .int v5), (6, va_rf v6)]) M dL_act_19 hl (by decide) (fl_e (fl_k rfl rfl (fl_k rfl rfl (fl_k rfl rfl (fl_k rfl rfl (fl_k rfl rfl (fl_k rfl rfl (fl_r rfl fl_0)))))))) (fun ls hl => ?_)
      refine lv_iconst (v := 1) M.1 M.2.1 dL_act_21 (by decide) ?_
      exact vx_ret (g_iret M B hr hlk h (by decide) (by decide) dL_act_22)
    · refine vx_catch (own := RL) (name := "java/lang/UnsupportedOperationException") M.2.2.2.1 [⟨0, 16, 19, 13⟩] ⟨0, 16, 23, 19⟩ [] ht (fun z hz => by
          simp only [List.mem_cons, List.not_mem_nil, or_false] at hz
          rcases hz with rfl
          · exact Or.inr ⟨by decide, _, M.2.2.2.2 _ wcL_13, N.1⟩) (by decide) (by decide) (M.2.2.2.2 _ wcL_19) (Nw_useB rfl (X.2 _ (by decide +kernel))) hce hcv hcl ?_
      refine g_astore (lv' := [(7, va_rf (some q3)), (0, va_rf v0), (1, .int v1), (2, .int v2), (3, .int v3), (4, .int v4), (5, .int v5), (6, va_rf v6)]) M dL_act_23 hl (by decide) (fl_e (fl_k rfl rfl (fl_k rfl rfl (fl_k rfl rfl (fl_k rfl rfl (fl_k rfl rfl (fl_k rfl rfl (fl_r rfl fl_0)))))))) (fun ls hl => ?_)
      refine lv_iconst (v := 2) M.1 M.2.1 dL_act_25 (by decide) ?_
      exact vx_ret (g_iret M B hr hlk h (by decide) (by decide) dL_act_26)
  · refine lv_i2l (v := a4.toInt64) M.1 M.2.1 dL_act_14 rfl ?_
    refine g_last M B dL_act_15 h (fun S5 H locs h B => ?_)
    refine lv_goto (tgt := 27) M.1 M.2.1 dL_act_16 (by decide) ?_
    refine lv_iconst (v := 0) M.1 M.2.1 dL_act_27 (by decide) ?_
    exact vx_ret (g_iret M B hr hlk h (by decide) (by decide) dL_act_28)
end
set_option maxRecDepth 100000 in
set_option maxHeartbeats 4000000 in
theorem kL_act (l : Launch) (D : va_G) (cy : Nat → ClassId) (adK adV : Nat → Nat) (hl0 : l.stackTraces = false) {post : Int32 → Pool → Prop} {v0 : Option Nat} {v1 : Int32} {v2 : Int32} {v3 : Int32} {v4 : Int32} {v5 : Int32} {v6 : Option Nat} {S : Pool} (h : wL_act post v0 v1 v2 v3 v4 v5 v6 S) : MetIL l adK adV yL_act cL_act 8 [(0, 16, 19, 13), (0, 16, 23, 19)] rmL_act [va_rf v0, .int v1, .int v2, .int v3, .int v4, .int v5, va_rf v6] D cy S post := by
  intro sz
  refine vx_ofWH (cc := cL_act) (maxL := 8) (ret := some .int) (hh := [(0, 16, 19, 13), (0, 16, 23, 19)]) (by decide) rfl ?_
  intro p e s m args below meth c s₁ B0 hml hv
  obtain ⟨rfl, hpp⟩ := hv
  have hts := atoms_spec (ws := .codeWith yL_act cL_act 8 (some .int) [(0, 16, 19, 13), (0, 16, 23, 19)] :: Gw) B0.pre
  obtain rfl : s.heap.size = sz := hpp.1.1.1
  have hl := lv_entry [va_rf v0, .int v1, .int v2, .int v3, .int v4, .int v5, va_rf v6] (n := 8) (by rw [sl_r, sl_i, sl_i, sl_i, sl_i, sl_i, sl_r, sl_0]; decide)
  rw [lg_entry_eq]
  rw [la_r, la_i, la_i, la_i, la_i, la_i, la_r, la_0] at hl
  exact tL_act (l := l) (R := rmL_act) ⟨B0.exec, B0.bytes, hml, findClass_of_methodNamed B0.named, fun w hw => hts w (List.mem_cons_of_mem _ hw)⟩ B0.returns B0.notSynchronized (Nat.le_refl _) (Nat.le_refl _) (Nat.le_refl _) (Nat.le_refl _) hpp.1.ex hpp.2 hl0 (vx_table (x := yL_act) B0 (hts _ List.mem_cons_self)) _ _ _ _ _ _ _ _ h _ _ _ hpp.1.1.pb (lv_sub hl [0, 1, 2, 3, 4, 5, 6] rfl)
-- L_look
def wL_look (post : Int32 → Pool → Prop) (v0 : Option Nat) (v1 : Int32) (v2 : Int32) (v3 : Option Nat) (S : Pool) : Prop := xrc S v0 8 (wX8_look (fun E S2 => (E = "java/lang/IndexOutOfBoundsException" ∧ post 1 S2) ∨ (E = "java/util/NoSuchElementException" ∧ post 2 S2)) (fun a4 S1 => xsJ S1 v3 0 (a4.toInt64) fun S5 => post 0 S5) v0 v1 v2 S)
def rmL_look : Room := { frames := 8, cells := 2, slots := 12, locals := 135 }
section
variable {p : Program} {l : Launch} {e : Env} {R : Room} {s : State} {m : MethodId} {args : Array Value} {below : List Frame} {meth : Method} {c : Code} {D : va_G} {cy : Nat → ClassId} {A : Nat → Prop} {adK adV : Nat → Nat}
set_option maxRecDepth 100000 in
set_option maxHeartbeats 4000000 in
theorem tL_look {post : Int32 → Pool → Prop} (M : MC p m c cL_look 5 s args RL) (hr : meth.sig.returnType = (some FieldType.int)) (hlk : meth.locks = false) (hRf : 8 ≤ R.frames) (hRl : 135 ≤ R.locals) (hRc : 2 ≤ R.cells) (hRs : 12 ≤ R.slots) (X : EX adK adV A s) (N : NC s) (hl0 : l.stackTraces = false) (ht : c.exceptionTable.toList = tableOf [(0, 10, 13, 25), (0, 10, 17, 27)]) : ∀ (v0 : Option Nat) (v1 : Int32) (v2 : Int32) (v3 : Option Nat) (S : Pool), wL_look post v0 v1 v2 v3 S → ∀ (H : Heap) (locs : List Loc) (ls : Array Slot), PB D cy A s S H locs → lv_has ls 5 [(0, va_rf v0), (1, .int v1), (2, .int v2), (3, va_rf v3)] → W p l e R s m args below meth c H locs 0 0 (vx_MQ below (va_Qi post (PQ D cy A) A) (XT D cy A (fun _ _ => False)) args s 2 12 A) (F0 m 0 ls []) := by
  intro v0 v1 v2 v3 S h H locs ls B hl
  unfold wL_look at h
  refine g_aload_n M dL_look_0 rfl (lv_at hl 3 rfl) ?_
  refine lv_iconst (v := 0) M.1 M.2.1 dL_look_1 (by decide) ?_
  refine g_aload_n M dL_look_2 rfl (lv_at hl 0 rfl) ?_
  refine lv_iload_n M.1 M.2.1 dL_look_3 rfl (lv_at hl 1 rfl) ?_
  refine lv_iload_n M.1 M.2.1 dL_look_4 rfl (lv_at hl 2 rfl) ?_
  obtain ⟨o1, e1, hL1, hK1, h⟩ := h
  refine g_lcalli (k1 := 2) (k2 := 12) B (g_runVT (n := 2) (As := [.int v1, .int v2]) (rm := rmX8_look) M B X e1 (kX8_look (v0 := v0) (v1 := v1) (v2 := v2) l D cy adK adV hl0 h _) wmL_21 wiX8_look wsX8_look wnX8 wcdX8_look ⟨rfl, by decide, by decide, by decide +kernel⟩ ⟨Nat.le_trans (by decide) hRf, Nat.le_trans (by decide) hRl⟩ ⟨Nat.le_trans (by decide) hRc, Nat.le_trans (by decide) hRs⟩ hL1 hK1 (by decide) rfl rfl rfl hl.1 rfl (ct_i (ct_r ct_0)) (by decide) dL_look_5) (by decide) (by decide) (fun E ce q3 S2 H locs h B hce hcv hcl => ?_) (fun a4 S1 H locs h B => ?_)
  · rcases h with ⟨rfl, h⟩ | ⟨rfl, h⟩
    · refine vx_catch (own := RL) (name := "java/lang/IndexOutOfBoundsException") M.2.2.2.1 [] ⟨0, 10, 13, 25⟩ [⟨0, 10, 17, 27⟩] ht (fun z hz => by cases hz) (by decide) (by decide) (M.2.2.2.2 _ wcL_25) (Nw_useB rfl (X.2 _ (by decide +kernel))) hce hcv hcl ?_
      refine g_astore (lv' := [(4, va_rf (some q3)), (0, va_rf v0), (1, .int v1), (2, .int v2), (3, va_rf v3)]) M dL_look_13 hl (by decide) (fl_e (fl_k rfl rfl (fl_k rfl rfl (fl_k rfl rfl (fl_r rfl fl_0))))) (fun ls hl => ?_)
      refine lv_iconst (v := 1) M.1 M.2.1 dL_look_15 (by decide) ?_
      exact vx_ret (g_iret M B hr hlk h (by decide) (by decide) dL_look_16)
    · refine vx_catch (own := RL) (name := "java/util/NoSuchElementException") M.2.2.2.1 [⟨0, 10, 13, 25⟩] ⟨0, 10, 17, 27⟩ [] ht (fun z hz => by
          simp only [List.mem_cons, List.not_mem_nil, or_false] at hz
          rcases hz with rfl
          · exact Or.inr ⟨by decide, _, M.2.2.2.2 _ wcL_25, N.2.1⟩) (by decide) (by decide) (M.2.2.2.2 _ wcL_27) (Nw_useB rfl (X.2 _ (by decide +kernel))) hce hcv hcl ?_
      refine g_astore (lv' := [(4, va_rf (some q3)), (0, va_rf v0), (1, .int v1), (2, .int v2), (3, va_rf v3)]) M dL_look_17 hl (by decide) (fl_e (fl_k rfl rfl (fl_k rfl rfl (fl_k rfl rfl (fl_r rfl fl_0))))) (fun ls hl => ?_)
      refine lv_iconst (v := 2) M.1 M.2.1 dL_look_19 (by decide) ?_
      exact vx_ret (g_iret M B hr hlk h (by decide) (by decide) dL_look_20)
  · refine lv_i2l (v := a4.toInt64) M.1 M.2.1 dL_look_8 rfl ?_
    refine g_last M B dL_look_9 h (fun S5 H locs h B => ?_)
    refine lv_goto (tgt := 21) M.1 M.2.1 dL_look_10 (by decide) ?_
    refine lv_iconst (v := 0) M.1 M.2.1 dL_look_21 (by decide) ?_
    exact vx_ret (g_iret M B hr hlk h (by decide) (by decide) dL_look_22)
end
set_option maxRecDepth 100000 in
set_option maxHeartbeats 4000000 in
theorem kL_look (l : Launch) (D : va_G) (cy : Nat → ClassId) (adK adV : Nat → Nat) (hl0 : l.stackTraces = false) {post : Int32 → Pool → Prop} {v0 : Option Nat} {v1 : Int32} {v2 : Int32} {v3 : Option Nat} {S : Pool} (h : wL_look post v0 v1 v2 v3 S) : MetIL l adK adV yL_look cL_look 5 [(0, 10, 13, 25), (0, 10, 17, 27)] rmL_look [va_rf v0, .int v1, .int v2, va_rf v3] D cy S post := by
  intro sz
  refine vx_ofWH (cc := cL_look) (maxL := 5) (ret := some .int) (hh := [(0, 10, 13, 25), (0, 10, 17, 27)]) (by decide) rfl ?_
  intro p e s m args below meth c s₁ B0 hml hv
  obtain ⟨rfl, hpp⟩ := hv
  have hts := atoms_spec (ws := .codeWith yL_look cL_look 5 (some .int) [(0, 10, 13, 25), (0, 10, 17, 27)] :: Gw) B0.pre
  obtain rfl : s.heap.size = sz := hpp.1.1.1
  have hl := lv_entry [va_rf v0, .int v1, .int v2, va_rf v3] (n := 5) (by rw [sl_r, sl_i, sl_i, sl_r, sl_0]; decide)
  rw [lg_entry_eq]
  rw [la_r, la_i, la_i, la_r, la_0] at hl
  exact tL_look (l := l) (R := rmL_look) ⟨B0.exec, B0.bytes, hml, findClass_of_methodNamed B0.named, fun w hw => hts w (List.mem_cons_of_mem _ hw)⟩ B0.returns B0.notSynchronized (Nat.le_refl _) (Nat.le_refl _) (Nat.le_refl _) (Nat.le_refl _) hpp.1.ex hpp.2 hl0 (vx_table (x := yL_look) B0 (hts _ List.mem_cons_self)) _ _ _ _ _ h _ _ _ hpp.1.1.pb (lv_sub hl [0, 1, 2, 3] rfl)
-- L_may
def wL_may (post : Int32 → Pool → Prop) (v0 : Option Nat) (v1 : Int32) (v2 : Int32) (S : Pool) : Prop := xrc S v0 8 (wX8_may (fun E S2 => (E = "java/lang/IndexOutOfBoundsException" ∧ post 1 S2) ∨ (E = "java/lang/IllegalArgumentException" ∧ post 2 S2)) (fun S1 => post 0 S1) v0 v1 v2 S)
def rmL_may : Room := { frames := 7, cells := 1, slots := 6, locals := 112 }
section
variable {p : Program} {l : Launch} {e : Env} {R : Room} {s : State} {m : MethodId} {args : Array Value} {below : List Frame} {meth : Method} {c : Code} {D : va_G} {cy : Nat → ClassId} {A : Nat → Prop} {adK adV : Nat → Nat}
set_option maxRecDepth 100000 in
set_option maxHeartbeats 4000000 in
theorem tL_may {post : Int32 → Pool → Prop} (M : MC p m c cL_may 4 s args RL) (hr : meth.sig.returnType = (some FieldType.int)) (hlk : meth.locks = false) (hRf : 7 ≤ R.frames) (hRl : 112 ≤ R.locals) (hRc : 1 ≤ R.cells) (hRs : 6 ≤ R.slots) (X : EX adK adV A s) (N : NC s) (hl0 : l.stackTraces = false) (ht : c.exceptionTable.toList = tableOf [(0, 6, 9, 25), (0, 6, 12, 13)]) : ∀ (v0 : Option Nat) (v1 : Int32) (v2 : Int32) (S : Pool), wL_may post v0 v1 v2 S → ∀ (H : Heap) (locs : List Loc) (ls : Array Slot), PB D cy A s S H locs → lv_has ls 4 [(0, va_rf v0), (1, .int v1), (2, .int v2)] → W p l e R s m args below meth c H locs 0 0 (vx_MQ below (va_Qi post (PQ D cy A) A) (XT D cy A (fun _ _ => False)) args s 1 6 A) (F0 m 0 ls []) := by
  intro v0 v1 v2 S h H locs ls B hl
  unfold wL_may at h
  refine g_aload_n M dL_may_0 rfl (lv_at hl 0 rfl) ?_
  refine lv_iload_n M.1 M.2.1 dL_may_1 rfl (lv_at hl 1 rfl) ?_
  refine lv_iload_n M.1 M.2.1 dL_may_2 rfl (lv_at hl 2 rfl) ?_
  obtain ⟨o1, e1, hL1, hK1, h⟩ := h
  refine g_lcallv (k1 := 1) (k2 := 6) B (g_runVT (n := 2) (As := [.int v1, .int v2]) (rm := rmX8_may) M B X e1 (kX8_may (v0 := v0) (v1 := v1) (v2 := v2) l D cy adK adV hl0 h _) wmL_29 wiX8_may wsX8_may wnX8 wcdX8_may ⟨rfl, by decide, by decide, by decide +kernel⟩ ⟨Nat.le_trans (by decide) hRf, Nat.le_trans (by decide) hRl⟩ ⟨Nat.le_trans (by decide) hRc, Nat.le_trans (by decide) hRs⟩ hL1 hK1 (by decide) rfl rfl rfl hl.1 rfl ct_0 (by decide) dL_may_3) (by decide) (by decide) (fun E ce q3 S2 H locs h B hce hcv hcl => ?_) (fun S1 H locs h B => ?_)
  · rcases h with ⟨rfl, h⟩ | ⟨rfl, h⟩
    · refine vx_catch (own := RL) (name := "java/lang/IndexOutOfBoundsException") M.2.2.2.1 [] ⟨0, 6, 9, 25⟩ [⟨0, 6, 12, 13⟩] ht (fun z hz => by cases hz) (by decide) (by decide) (M.2.2.2.2 _ wcL_25) (Nw_useB rfl (X.2 _ (by decide +kernel))) hce hcv hcl ?_
      refine g_astore_n (lv' := [(3, va_rf (some q3)), (0, va_rf v0), (1, .int v1), (2, .int v2)]) M dL_may_9 rfl hl (by decide) (fl_e (fl_k rfl rfl (fl_k rfl rfl (fl_i rfl fl_0)))) (fun ls hl => ?_)
      refine lv_iconst (v := 1) M.1 M.2.1 dL_may_10 (by decide) ?_
      exact vx_ret (g_iret M B hr hlk h (by decide) (by decide) dL_may_11)
    · refine vx_catch (own := RL) (name := "java/lang/IllegalArgumentException") M.2.2.2.1 [⟨0, 6, 9, 25⟩] ⟨0, 6, 12, 13⟩ [] ht (fun z hz => by
          simp only [List.mem_cons, List.not_mem_nil, or_false] at hz
          rcases hz with rfl
          · exact Or.inr ⟨by decide, _, M.2.2.2.2 _ wcL_25, N.2.2.1⟩) (by decide) (by decide) (M.2.2.2.2 _ wcL_13) (Nw_useB rfl (X.2 _ (by decide +kernel))) hce hcv hcl ?_
      refine g_astore_n (lv' := [(3, va_rf (some q3)), (0, va_rf v0), (1, .int v1), (2, .int v2)]) M dL_may_12 rfl hl (by decide) (fl_e (fl_k rfl rfl (fl_k rfl rfl (fl_i rfl fl_0)))) (fun ls hl => ?_)
      refine lv_iconst (v := 2) M.1 M.2.1 dL_may_13 (by decide) ?_
      exact vx_ret (g_iret M B hr hlk h (by decide) (by decide) dL_may_14)
  · refine lv_goto (tgt := 15) M.1 M.2.1 dL_may_6 (by decide) ?_
    refine lv_iconst (v := 0) M.1 M.2.1 dL_may_15 (by decide) ?_
    exact vx_ret (g_iret M B hr hlk h (by decide) (by decide) dL_may_16)
end
set_option maxRecDepth 100000 in
set_option maxHeartbeats 4000000 in
theorem kL_may (l : Launch) (D : va_G) (cy : Nat → ClassId) (adK adV : Nat → Nat) (hl0 : l.stackTraces = false) {post : Int32 → Pool → Prop} {v0 : Option Nat} {v1 : Int32} {v2 : Int32} {S : Pool} (h : wL_may post v0 v1 v2 S) : MetIL l adK adV yL_may cL_may 4 [(0, 6, 9, 25), (0, 6, 12, 13)] rmL_may [va_rf v0, .int v1, .int v2] D cy S post := by
  intro sz
  refine vx_ofWH (cc := cL_may) (maxL := 4) (ret := some .int) (hh := [(0, 6, 9, 25), (0, 6, 12, 13)]) (by decide) rfl ?_
  intro p e s m args below meth c s₁ B0 hml hv
  obtain ⟨rfl, hpp⟩ := hv
  have hts := atoms_spec (ws := .codeWith yL_may cL_may 4 (some .int) [(0, 6, 9, 25), (0, 6, 12, 13)] :: Gw) B0.pre
  obtain rfl : s.heap.size = sz := hpp.1.1.1
  have hl := lv_entry [va_rf v0, .int v1, .int v2] (n := 4) (by rw [sl_r, sl_i, sl_i, sl_0]; decide)
  rw [lg_entry_eq]
  rw [la_r, la_i, la_i, la_0] at hl
  exact tL_may (l := l) (R := rmL_may) ⟨B0.exec, B0.bytes, hml, findClass_of_methodNamed B0.named, fun w hw => hts w (List.mem_cons_of_mem _ hw)⟩ B0.returns B0.notSynchronized (Nat.le_refl _) (Nat.le_refl _) (Nat.le_refl _) (Nat.le_refl _) hpp.1.ex hpp.2 hl0 (vx_table (x := yL_may) B0 (hts _ List.mem_cons_self)) _ _ _ _ h _ _ _ hpp.1.1.pb (lv_sub hl [0, 1, 2] rfl)
-- L_ask
def wL_ask (post : Int32 → Pool → Prop) (v0 : Option Nat) (v1 : Int32) (v2 : Option Nat) (S : Pool) : Prop := xrc S v0 8 (wX8_ask (fun E S2 => (E = "java/lang/IndexOutOfBoundsException" ∧ post 1 S2) ∨ (E = "java/lang/IllegalArgumentException" ∧ post 2 S2) ∨ (E = "java/lang/IllegalStateException" ∧ post 3 S2) ∨ (E = "java/lang/UnsupportedOperationException" ∧ post 4 S2)) (fun a4 S1 => xsJ S1 v2 0 (a4.toInt64) fun S5 => post 0 S5) v0 v1 S)
def rmL_ask : Room := { frames := 10, cells := 8, slots := 62, locals := 223 }
section
variable {p : Program} {l : Launch} {e : Env} {R : Room} {s : State} {m : MethodId} {args : Array Value} {below : List Frame} {meth : Method} {c : Code} {D : va_G} {cy : Nat → ClassId} {A : Nat → Prop} {adK adV : Nat → Nat}
set_option maxRecDepth 100000 in
set_option maxHeartbeats 4000000 in
theorem tL_ask {post : Int32 → Pool → Prop} (M : MC p m c cL_ask 4 s args RL) (hr : meth.sig.returnType = (some FieldType.int)) (hlk : meth.locks = false) (hRf : 10 ≤ R.frames) (hRl : 223 ≤ R.locals) (hRc : 8 ≤ R.cells) (hRs : 62 ≤ R.slots) (X : EX adK adV A s) (N : NC s) (hl0 : l.stackTraces = false) (ht : c.exceptionTable.toList = tableOf [(0, 9, 12, 25), (0, 9, 15, 13), (0, 9, 18, 36), (0, 9, 21, 19)]) : ∀ (v0 : Option Nat) (v1 : Int32) (v2 : Option Nat) (S : Pool), wL_ask post v0 v1 v2 S → ∀ (H : Heap) (locs : List Loc) (ls : Array Slot), PB D cy A s S H locs → lv_has ls 4 [(0, va_rf v0), (1, .int v1), (2, va_rf v2)] → W p l e R s m args below meth c H locs 0 0 (vx_MQ below (va_Qi post (PQ D cy A) A) (XT D cy A (fun _ _ => False)) args s 8 62 A) (F0 m 0 ls []) := by
  intro v0 v1 v2 S h H locs ls B hl
  unfold wL_ask at h
  refine g_aload_n M dL_ask_0 rfl (lv_at hl 2 rfl) ?_
  refine lv_iconst (v := 0) M.1 M.2.1 dL_ask_1 (by decide) ?_
  refine g_aload_n M dL_ask_2 rfl (lv_at hl 0 rfl) ?_
  refine lv_iload_n M.1 M.2.1 dL_ask_3 rfl (lv_at hl 1 rfl) ?_
  obtain ⟨o1, e1, hL1, hK1, h⟩ := h
  refine g_lcalli (k1 := 8) (k2 := 62) B (g_runVT (n := 1) (As := [.int v1]) (rm := rmX8_ask) M B X e1 (kX8_ask (v0 := v0) (v1 := v1) l D cy adK adV hl0 h _) wmL_33 wiX8_ask wsX8_ask wnX8 wcdX8_ask ⟨rfl, by decide, by decide, by decide +kernel⟩ ⟨Nat.le_trans (by decide) hRf, Nat.le_trans (by decide) hRl⟩ ⟨Nat.le_trans (by decide) hRc, Nat.le_trans (by decide) hRs⟩ hL1 hK1 (by decide) rfl rfl rfl hl.1 rfl (ct_i (ct_r ct_0)) (by decide) dL_ask_4) (by decide) (by decide) (fun E ce q3 S2 H locs h B hce hcv hcl => ?_) (fun a4 S1 H locs h B => ?_)
  · rcases h with ⟨rfl, h⟩ | ⟨rfl, h⟩ | ⟨rfl, h⟩ | ⟨rfl, h⟩
    · refine vx_catch (own := RL) (name := "java/lang/IndexOutOfBoundsException") M.2.2.2.1 [] ⟨0, 9, 12, 25⟩ [⟨0, 9, 15, 13⟩, ⟨0, 9, 18, 36⟩, ⟨0, 9, 21, 19⟩] ht (fun z hz => by cases hz) (by decide) (by decide) (M.2.2.2.2 _ wcL_25) (Nw_useB rfl (X.2 _ (by decide +kernel))) hce hcv hcl ?_
      refine g_astore_n (lv' := [(3, va_rf (some q3)), (0, va_rf v0), (1, .int v1), (2, va_rf v2)]) M dL_ask_12 rfl hl (by decide) (fl_e (fl_k rfl rfl (fl_k rfl rfl (fl_r rfl fl_0)))) (fun ls hl => ?_)
      refine lv_iconst (v := 1) M.1 M.2.1 dL_ask_13 (by decide) ?_
      exact vx_ret (g_iret M B hr hlk h (by decide) (by decide) dL_ask_14)
    · refine vx_catch (own := RL) (name := "java/lang/IllegalArgumentException") M.2.2.2.1 [⟨0, 9, 12, 25⟩] ⟨0, 9, 15, 13⟩ [⟨0, 9, 18, 36⟩, ⟨0, 9, 21, 19⟩] ht (fun z hz => by
          simp only [List.mem_cons, List.not_mem_nil, or_false] at hz
          rcases hz with rfl
          · exact Or.inr ⟨by decide, _, M.2.2.2.2 _ wcL_25, N.2.2.1⟩) (by decide) (by decide) (M.2.2.2.2 _ wcL_13) (Nw_useB rfl (X.2 _ (by decide +kernel))) hce hcv hcl ?_
      refine g_astore_n (lv' := [(3, va_rf (some q3)), (0, va_rf v0), (1, .int v1), (2, va_rf v2)]) M dL_ask_15 rfl hl (by decide) (fl_e (fl_k rfl rfl (fl_k rfl rfl (fl_r rfl fl_0)))) (fun ls hl => ?_)
      refine lv_iconst (v := 2) M.1 M.2.1 dL_ask_16 (by decide) ?_
      exact vx_ret (g_iret M B hr hlk h (by decide) (by decide) dL_ask_17)
    · refine vx_catch (own := RL) (name := "java/lang/IllegalStateException") M.2.2.2.1 [⟨0, 9, 12, 25⟩, ⟨0, 9, 15, 13⟩] ⟨0, 9, 18, 36⟩ [⟨0, 9, 21, 19⟩] ht (fun z hz => by
          simp only [List.mem_cons, List.not_mem_nil, or_false] at hz
          rcases hz with rfl | rfl
          · exact Or.inr ⟨by decide, _, M.2.2.2.2 _ wcL_25, N.2.2.2.1⟩
          · exact Or.inr ⟨by decide, _, M.2.2.2.2 _ wcL_13, N.2.2.2.2.1⟩) (by decide) (by decide) (M.2.2.2.2 _ wcL_36) (Nw_useB rfl (X.2 _ (by decide +kernel))) hce hcv hcl ?_
      refine g_astore_n (lv' := [(3, va_rf (some q3)), (0, va_rf v0), (1, .int v1), (2, va_rf v2)]) M dL_ask_18 rfl hl (by decide) (fl_e (fl_k rfl rfl (fl_k rfl rfl (fl_r rfl fl_0)))) (fun ls hl => ?_)
      refine lv_iconst (v := 3) M.1 M.2.1 dL_ask_19 (by decide) ?_
      exact vx_ret (g_iret M B hr hlk h (by decide) (by decide) dL_ask_20)
    · refine vx_catch (own := RL) (name := "java/lang/UnsupportedOperationException") M.2.2.2.1 [⟨0, 9, 12, 25⟩, ⟨0, 9, 15, 13⟩, ⟨0, 9, 18, 36⟩] ⟨0, 9, 21, 19⟩ [] ht (fun z hz => by
          simp only [List.mem_cons, List.not_mem_nil, or_false] at hz
          rcases hz with rfl | rfl | rfl
          · exact Or.inr ⟨by decide, _, M.2.2.2.2 _ wcL_25, N.2.2.2.2.2.1⟩
          · exact Or.inr ⟨by decide, _, M.2.2.2.2 _ wcL_13, N.1⟩
          · exact Or.inr ⟨by decide, _, M.2.2.2.2 _ wcL_36, N.2.2.2.2.2.2⟩) (by decide) (by decide) (M.2.2.2.2 _ wcL_19) (Nw_useB rfl (X.2 _ (by decide +kernel))) hce hcv hcl ?_
      refine g_astore_n (lv' := [(3, va_rf (some q3)), (0, va_rf v0), (1, .int v1), (2, va_rf v2)]) M dL_ask_21 rfl hl (by decide) (fl_e (fl_k rfl rfl (fl_k rfl rfl (fl_r rfl fl_0)))) (fun ls hl => ?_)
      refine lv_iconst (v := 4) M.1 M.2.1 dL_ask_22 (by decide) ?_
      exact vx_ret (g_iret M B hr hlk h (by decide) (by decide) dL_ask_23)
  · refine lv_i2l (v := a4.toInt64) M.1 M.2.1 dL_ask_7 rfl ?_
    refine g_last M B dL_ask_8 h (fun S5 H locs h B => ?_)
    refine lv_goto (tgt := 24) M.1 M.2.1 dL_ask_9 (by decide) ?_
    refine lv_iconst (v := 0) M.1 M.2.1 dL_ask_24 (by decide) ?_
    exact vx_ret (g_iret M B hr hlk h (by decide) (by decide) dL_ask_25)
end
set_option maxRecDepth 100000 in
set_option maxHeartbeats 4000000 in
theorem kL_ask (l : Launch) (D : va_G) (cy : Nat → ClassId) (adK adV : Nat → Nat) (hl0 : l.stackTraces = false) {post : Int32 → Pool → Prop} {v0 : Option Nat} {v1 : Int32} {v2 : Option Nat} {S : Pool} (h : wL_ask post v0 v1 v2 S) : MetIL l adK adV yL_ask cL_ask 4 [(0, 9, 12, 25), (0, 9, 15, 13), (0, 9, 18, 36), (0, 9, 21, 19)] rmL_ask [va_rf v0, .int v1, va_rf v2] D cy S post := by
  intro sz
  refine vx_ofWH (cc := cL_ask) (maxL := 4) (ret := some .int) (hh := [(0, 9, 12, 25), (0, 9, 15, 13), (0, 9, 18, 36), (0, 9, 21, 19)]) (by decide) rfl ?_
  intro p e s m args below meth c s₁ B0 hml hv
  obtain ⟨rfl, hpp⟩ := hv
  have hts := atoms_spec (ws := .codeWith yL_ask cL_ask 4 (some .int) [(0, 9, 12, 25), (0, 9, 15, 13), (0, 9, 18, 36), (0, 9, 21, 19)] :: Gw) B0.pre
  obtain rfl : s.heap.size = sz := hpp.1.1.1
  have hl := lv_entry [va_rf v0, .int v1, va_rf v2] (n := 4) (by rw [sl_r, sl_i, sl_r, sl_0]; decide)
  rw [lg_entry_eq]
  rw [la_r, la_i, la_r, la_0] at hl
  exact tL_ask (l := l) (R := rmL_ask) ⟨B0.exec, B0.bytes, hml, findClass_of_methodNamed B0.named, fun w hw => hts w (List.mem_cons_of_mem _ hw)⟩ B0.returns B0.notSynchronized (Nat.le_refl _) (Nat.le_refl _) (Nat.le_refl _) (Nat.le_refl _) hpp.1.ex hpp.2 hl0 (vx_table (x := yL_ask) B0 (hts _ List.mem_cons_self)) _ _ _ _ h _ _ _ hpp.1.1.pb (lv_sub hl [0, 1, 2] rfl)
-- L_finds
def wL_finds (post : Int32 → Pool → Prop) (v0 : Option Nat) (v1 : Int32) (v2 : Int32) (v3 : Option Nat) (S : Pool) : Prop := xrc S v0 8 (wX8_finds (fun E S2 => (E = "java/lang/IndexOutOfBoundsException" ∧ post 1 S2)) (fun a4 S1 => xsJ S1 v3 0 (a4.toInt64) fun S5 => post 0 S5) v0 v1 v2 S)
def rmL_finds : Room := { frames := 9, cells := 1, slots := 6, locals := 156 }
section
variable {p : Program} {l : Launch} {e : Env} {R : Room} {s : State} {m : MethodId} {args : Array Value} {below : List Frame} {meth : Method} {c : Code} {D : va_G} {cy : Nat → ClassId} {A : Nat → Prop} {adK adV : Nat → Nat}
set_option maxRecDepth 100000 in
set_option maxHeartbeats 4000000 in
theorem tL_finds {post : Int32 → Pool → Prop} (M : MC p m c cL_finds 5 s args RL) (hr : meth.sig.returnType = (some FieldType.int)) (hlk : meth.locks = false) (hRf : 9 ≤ R.frames) (hRl : 156 ≤ R.locals) (hRc : 1 ≤ R.cells) (hRs : 6 ≤ R.slots) (X : EX adK adV A s) (N : NC s) (hl0 : l.stackTraces = false) (ht : c.exceptionTable.toList = tableOf [(0, 10, 13, 25)]) : ∀ (v0 : Option Nat) (v1 : Int32) (v2 : Int32) (v3 : Option Nat) (S : Pool), wL_finds post v0 v1 v2 v3 S → ∀ (H : Heap) (locs : List Loc) (ls : Array Slot), PB D cy A s S H locs → lv_has ls 5 [(0, va_rf v0), (1, .int v1), (2, .int v2), (3, va_rf v3)] → W p l e R s m args below meth c H locs 0 0 (vx_MQ below (va_Qi post (PQ D cy A) A) (XT D cy A (fun _ _ => False)) args s 1 6 A) (F0 m 0 ls []) := by
  intro v0 v1 v2 v3 S h H locs ls B hl
  unfold wL_finds at h
  refine g_aload_n M dL_finds_0 rfl (lv_at hl 3 rfl) ?_
  refine lv_iconst (v := 0) M.1 M.2.1 dL_finds_1 (by decide) ?_
  refine g_aload_n M dL_finds_2 rfl (lv_at hl 0 rfl) ?_
  refine lv_iload_n M.1 M.2.1 dL_finds_3 rfl (lv_at hl 1 rfl) ?_
  refine lv_iload_n M.1 M.2.1 dL_finds_4 rfl (lv_at hl 2 rfl) ?_
  obtain ⟨o1, e1, hL1, hK1, h⟩ := h
  refine g_lcalli (k1 := 1) (k2 := 6) B (g_runVT (n := 2) (As := [.int v1, .int v2]) (rm := rmX8_finds) M B X e1 (kX8_finds (v0 := v0) (v1 := v1) (v2 := v2) l D cy adK adV hl0 h _) wmL_38 wiX8_finds wsX8_finds wnX8 wcdX8_finds ⟨rfl, by decide, by decide, by decide +kernel⟩ ⟨Nat.le_trans (by decide) hRf, Nat.le_trans (by decide) hRl⟩ ⟨Nat.le_trans (by decide) hRc, Nat.le_trans (by decide) hRs⟩ hL1 hK1 (by decide) rfl rfl rfl hl.1 rfl (ct_i (ct_r ct_0)) (by decide) dL_finds_5) (by decide) (by decide) (fun E ce q3 S2 H locs h B hce hcv hcl => ?_) (fun a4 S1 H locs h B => ?_)
  · obtain ⟨rfl, h⟩ := h
    refine vx_catch (own := RL) (name := "java/lang/IndexOutOfBoundsException") M.2.2.2.1 [] ⟨0, 10, 13, 25⟩ [] ht (fun z hz => by cases hz) (by decide) (by decide) (M.2.2.2.2 _ wcL_25) (Nw_useB rfl (X.2 _ (by decide +kernel))) hce hcv hcl ?_
    refine g_astore (lv' := [(4, va_rf (some q3)), (0, va_rf v0), (1, .int v1), (2, .int v2), (3, va_rf v3)]) M dL_finds_13 hl (by decide) (fl_e (fl_k rfl rfl (fl_k rfl rfl (fl_k rfl rfl (fl_r rfl fl_0))))) (fun ls hl => ?_)
    refine lv_iconst (v := 1) M.1 M.2.1 dL_finds_15 (by decide) ?_
    exact vx_ret (g_iret M B hr hlk h (by decide) (by decide) dL_finds_16)
  · refine lv_i2l (v := a4.toInt64) M.1 M.2.1 dL_finds_8 rfl ?_
    refine g_last M B dL_finds_9 h (fun S5 H locs h B => ?_)
    refine lv_goto (tgt := 17) M.1 M.2.1 dL_finds_10 (by decide) ?_
    refine lv_iconst (v := 0) M.1 M.2.1 dL_finds_17 (by decide) ?_
    exact vx_ret (g_iret M B hr hlk h (by decide) (by decide) dL_finds_18)
end
set_option maxRecDepth 100000 in
set_option maxHeartbeats 4000000 in
theorem kL_finds (l : Launch) (D : va_G) (cy : Nat → ClassId) (adK adV : Nat → Nat) (hl0 : l.stackTraces = false) {post : Int32 → Pool → Prop} {v0 : Option Nat} {v1 : Int32} {v2 : Int32} {v3 : Option Nat} {S : Pool} (h : wL_finds post v0 v1 v2 v3 S) : MetIL l adK adV yL_finds cL_finds 5 [(0, 10, 13, 25)] rmL_finds [va_rf v0, .int v1, .int v2, va_rf v3] D cy S post := by
  intro sz
  refine vx_ofWH (cc := cL_finds) (maxL := 5) (ret := some .int) (hh := [(0, 10, 13, 25)]) (by decide) rfl ?_
  intro p e s m args below meth c s₁ B0 hml hv
  obtain ⟨rfl, hpp⟩ := hv
  have hts := atoms_spec (ws := .codeWith yL_finds cL_finds 5 (some .int) [(0, 10, 13, 25)] :: Gw) B0.pre
  obtain rfl : s.heap.size = sz := hpp.1.1.1
  have hl := lv_entry [va_rf v0, .int v1, .int v2, va_rf v3] (n := 5) (by rw [sl_r, sl_i, sl_i, sl_r, sl_0]; decide)
  rw [lg_entry_eq]
  rw [la_r, la_i, la_i, la_r, la_0] at hl
  exact tL_finds (l := l) (R := rmL_finds) ⟨B0.exec, B0.bytes, hml, findClass_of_methodNamed B0.named, fun w hw => hts w (List.mem_cons_of_mem _ hw)⟩ B0.returns B0.notSynchronized (Nat.le_refl _) (Nat.le_refl _) (Nat.le_refl _) (Nat.le_refl _) hpp.1.ex hpp.2 hl0 (vx_table (x := yL_finds) B0 (hts _ List.mem_cons_self)) _ _ _ _ _ h _ _ _ hpp.1.1.pb (lv_sub hl [0, 1, 2, 3] rfl)
-- L_found
def wL_found (post : Int32 → Pool → Prop) (v0 : Option Nat) (v1 : Int32) (v2 : Int32) (v3 : Int32) (v4 : Option Nat) (S : Pool) : Prop := xrc S v0 8 (wX8_found (fun E S2 => (E = "java/lang/IndexOutOfBoundsException" ∧ post 1 S2)) (fun a4 S1 => xsJ S1 v4 0 (a4.toInt64) fun S5 => post 0 S5) v0 v1 v2 v3 S)
def rmL_found : Room := { frames := 9, cells := 1, slots := 6, locals := 158 }
section
variable {p : Program} {l : Launch} {e : Env} {R : Room} {s : State} {m : MethodId} {args : Array Value} {below : List Frame} {meth : Method} {c : Code} {D : va_G} {cy : Nat → ClassId} {A : Nat → Prop} {adK adV : Nat → Nat}
set_option maxRecDepth 100000 in
set_option maxHeartbeats 4000000 in
theorem tL_found {post : Int32 → Pool → Prop} (M : MC p m c cL_found 6 s args RL) (hr : meth.sig.returnType = (some FieldType.int)) (hlk : meth.locks = false) (hRf : 9 ≤ R.frames) (hRl : 158 ≤ R.locals) (hRc : 1 ≤ R.cells) (hRs : 6 ≤ R.slots) (X : EX adK adV A s) (N : NC s) (hl0 : l.stackTraces = false) (ht : c.exceptionTable.toList = tableOf [(0, 12, 15, 25)]) : ∀ (v0 : Option Nat) (v1 : Int32) (v2 : Int32) (v3 : Int32) (v4 : Option Nat) (S : Pool), wL_found post v0 v1 v2 v3 v4 S → ∀ (H : Heap) (locs : List Loc) (ls : Array Slot), PB D cy A s S H locs → lv_has ls 6 [(0, va_rf v0), (1, .int v1), (2, .int v2), (3, .int v3), (4, va_rf v4)] → W p l e R s m args below meth c H locs 0 0 (vx_MQ below (va_Qi post (PQ D cy A) A) (XT D cy A (fun _ _ => False)) args s 1 6 A) (F0 m 0 ls []) := by
  intro v0 v1 v2 v3 v4 S h H locs ls B hl
  unfold wL_found at h
  refine g_aload M dL_found_0 (lv_at hl 4 rfl) ?_
  refine lv_iconst (v := 0) M.1 M.2.1 dL_found_2 (by decide) ?_
  refine g_aload_n M dL_found_3 rfl (lv_at hl 0 rfl) ?_
  refine lv_iload_n M.1 M.2.1 dL_found_4 rfl (lv_at hl 1 rfl) ?_
  refine lv_iload_n M.1 M.2.1 dL_found_5 rfl (lv_at hl 2 rfl) ?_
  refine lv_iload_n M.1 M.2.1 dL_found_6 rfl (lv_at hl 3 rfl) ?_
  obtain ⟨o1, e1, hL1, hK1, h⟩ := h
  refine g_lcalli (k1 := 1) (k2 := 6) B (g_runVT (n := 3) (As := [.int v1, .int v2, .int v3]) (rm := rmX8_found) M B X e1 (kX8_found (v0 := v0) (v1 := v1) (v2 := v2) (v3 := v3) l D cy adK adV hl0 h _) wmL_41 wiX8_found wsX8_found wnX8 wcdX8_found ⟨rfl, by decide, by decide, by decide +kernel⟩ ⟨Nat.le_trans (by decide) hRf, Nat.le_trans (by decide) hRl⟩ ⟨Nat.le_trans (by decide) hRc, Nat.le_trans (by decide) hRs⟩ hL1 hK1 (by decide) rfl rfl rfl hl.1 rfl (ct_i (ct_r ct_0)) (by decide) dL_found_7) (by decide) (by decide) (fun E ce q3 S2 H locs h B hce hcv hcl => ?_) (fun a4 S1 H locs h B => ?_)
  · obtain ⟨rfl, h⟩ := h
    refine vx_catch (own := RL) (name := "java/lang/IndexOutOfBoundsException") M.2.2.2.1 [] ⟨0, 12, 15, 25⟩ [] ht (fun z hz => by cases hz) (by decide) (by decide) (M.2.2.2.2 _ wcL_25) (Nw_useB rfl (X.2 _ (by decide +kernel))) hce hcv hcl ?_
    refine g_astore (lv' := [(5, va_rf (some q3)), (0, va_rf v0), (1, .int v1), (2, .int v2), (3, .int v3), (4, va_rf v4)]) M dL_found_15 hl (by decide) (fl_e (fl_k rfl rfl (fl_k rfl rfl (fl_k rfl rfl (fl_k rfl rfl (fl_r rfl fl_0)))))) (fun ls hl => ?_)
    refine lv_iconst (v := 1) M.1 M.2.1 dL_found_17 (by decide) ?_
    exact vx_ret (g_iret M B hr hlk h (by decide) (by decide) dL_found_18)
  · refine lv_i2l (v := a4.toInt64) M.1 M.2.1 dL_found_10 rfl ?_
    refine g_last M B dL_found_11 h (fun S5 H locs h B => ?_)
    refine lv_goto (tgt := 19) M.1 M.2.1 dL_found_12 (by decide) ?_
    refine lv_iconst (v := 0) M.1 M.2.1 dL_found_19 (by decide) ?_
    exact vx_ret (g_iret M B hr hlk h (by decide) (by decide) dL_found_20)
end
set_option maxRecDepth 100000 in
set_option maxHeartbeats 4000000 in
theorem kL_found (l : Launch) (D : va_G) (cy : Nat → ClassId) (adK adV : Nat → Nat) (hl0 : l.stackTraces = false) {post : Int32 → Pool → Prop} {v0 : Option Nat} {v1 : Int32} {v2 : Int32} {v3 : Int32} {v4 : Option Nat} {S : Pool} (h : wL_found post v0 v1 v2 v3 v4 S) : MetIL l adK adV yL_found cL_found 6 [(0, 12, 15, 25)] rmL_found [va_rf v0, .int v1, .int v2, .int v3, va_rf v4] D cy S post := by
  intro sz
  refine vx_ofWH (cc := cL_found) (maxL := 6) (ret := some .int) (hh := [(0, 12, 15, 25)]) (by decide) rfl ?_
  intro p e s m args below meth c s₁ B0 hml hv
  obtain ⟨rfl, hpp⟩ := hv
  have hts := atoms_spec (ws := .codeWith yL_found cL_found 6 (some .int) [(0, 12, 15, 25)] :: Gw) B0.pre
  obtain rfl : s.heap.size = sz := hpp.1.1.1
  have hl := lv_entry [va_rf v0, .int v1, .int v2, .int v3, va_rf v4] (n := 6) (by rw [sl_r, sl_i, sl_i, sl_i, sl_r, sl_0]; decide)
  rw [lg_entry_eq]
  rw [la_r, la_i, la_i, la_i, la_r, la_0] at hl
  exact tL_found (l := l) (R := rmL_found) ⟨B0.exec, B0.bytes, hml, findClass_of_methodNamed B0.named, fun w hw => hts w (List.mem_cons_of_mem _ hw)⟩ B0.returns B0.notSynchronized (Nat.le_refl _) (Nat.le_refl _) (Nat.le_refl _) (Nat.le_refl _) hpp.1.ex hpp.2 hl0 (vx_table (x := yL_found) B0 (hts _ List.mem_cons_self)) _ _ _ _ _ _ h _ _ _ hpp.1.1.pb (lv_sub hl [0, 1, 2, 3, 4] rfl)
-- L_proof
def wL_proof (post : Int32 → Pool → Prop) (v0 : Option Nat) (v1 : Int32) (v2 : Int32) (v3 : Int32) (v4 : Int32) (v5 : Option Nat) (S : Pool) : Prop := xrc S v0 8 (wX8_proof (fun E S2 => (E = "java/lang/IndexOutOfBoundsException" ∧ post 1 S2)) (fun a4 S1 => xsJ S1 v5 0 (a4.toInt64) fun S5 => post 0 S5) v0 v1 v2 v3 v4 S)
def rmL_proof : Room := { frames := 9, cells := 1, slots := 6, locals := 158 }
section
variable {p : Program} {l : Launch} {e : Env} {R : Room} {s : State} {m : MethodId} {args : Array Value} {below : List Frame} {meth : Method} {c : Code} {D : va_G} {cy : Nat → ClassId} {A : Nat → Prop} {adK adV : Nat → Nat}
set_option maxRecDepth 100000 in
set_option maxHeartbeats 4000000 in
theorem tL_proof {post : Int32 → Pool → Prop} (M : MC p m c cL_proof 7 s args RL) (hr : meth.sig.returnType = (some FieldType.int)) (hlk : meth.locks = false) (hRf : 9 ≤ R.frames) (hRl : 158 ≤ R.locals) (hRc : 1 ≤ R.cells) (hRs : 6 ≤ R.slots) (X : EX adK adV A s) (N : NC s) (hl0 : l.stackTraces = false) (ht : c.exceptionTable.toList = tableOf [(0, 14, 17, 25)]) : ∀ (v0 : Option Nat) (v1 : Int32) (v2 : Int32) (v3 : Int32) (v4 : Int32) (v5 : Option Nat) (S : Pool), wL_proof post v0 v1 v2 v3 v4 v5 S → ∀ (H : Heap) (locs : List Loc) (ls : Array Slot), PB D cy A s S H locs → lv_has ls 7 [(0, va_rf v0), (1, .int v1), (2, .int v2), (3, .int v3), (4, .int v4), (5, va_rf v5)] → W p l e R s m args below meth c H locs 0 0 (vx_MQ below (va_Qi post (PQ D cy A) A) (XT D cy A (fun _ _ => False)) args s 1 6 A) (F0 m 0 ls []) := by
  intro v0 v1 v2 v3 v4 v5 S h H locs ls B hl
  unfold wL_proof at h
  refine g_aload M dL_proof_0 (lv_at hl 5 rfl) ?_
  refine lv_iconst (v := 0) M.1 M.2.1 dL_proof_2 (by decide) ?_
  refine g_aload_n M dL_proof_3 rfl (lv_at hl 0 rfl) ?_
  refine lv_iload_n M.1 M.2.1 dL_proof_4 rfl (lv_at hl 1 rfl) ?_
  refine lv_iload_n M.1 M.2.1 dL_proof_5 rfl (lv_at hl 2 rfl) ?_
  refine lv_iload_n M.1 M.2.1 dL_proof_6 rfl (lv_at hl 3 rfl) ?_
  refine lv_iload M.1 M.2.1 dL_proof_7 (lv_at hl 4 rfl) ?_
  obtain ⟨o1, e1, hL1, hK1, h⟩ := h
  refine g_lcalli (k1 := 1) (k2 := 6) B (g_runVT (n := 4) (As := [.int v1, .int v2, .int v3, .int v4]) (rm := rmX8_proof) M B X e1 (kX8_proof (v0 := v0) (v1 := v1) (v2 := v2) (v3 := v3) (v4 := v4) l D cy adK adV hl0 h _) wmL_45 wiX8_proof wsX8_proof wnX8 wcdX8_proof ⟨rfl, by decide, by decide, by decide +kernel⟩ ⟨Nat.le_trans (by decide) hRf, Nat.le_trans (by decide) hRl⟩ ⟨Nat.le_trans (by decide) hRc, Nat.le_trans (by decide) hRs⟩ hL1 hK1 (by decide) rfl rfl rfl hl.1 rfl (ct_i (ct_r ct_0)) (by decide) dL_proof_9) (by decide) (by decide) (fun E ce q3 S2 H locs h B hce hcv hcl => ?_) (fun a4 S1 H locs h B => ?_)
  · obtain ⟨rfl, h⟩ := h
    refine vx_catch (own := RL) (name := "java/lang/IndexOutOfBoundsException") M.2.2.2.1 [] ⟨0, 14, 17, 25⟩ [] ht (fun z hz => by cases hz) (by decide) (by decide) (M.2.2.2.2 _ wcL_25) (Nw_useB rfl (X.2 _ (by decide +kernel))) hce hcv hcl ?_
    refine g_astore (lv' := [(6, va_rf (some q3)), (0, va_rf v0), (1, .int v1), (2, .int v2), (3, .int v3), (4, .int v4), (5, va_rf v5)]) M dL_proof_17 hl (by decide) (fl_e (fl_k rfl rfl (fl_k rfl rfl (fl_k rfl rfl (fl_k rfl rfl (fl_k rfl rfl (fl_r rfl fl_0))))))) (fun ls hl => ?_)
    refine lv_iconst (v := 1) M.1 M.2.1 dL_proof_19 (by decide) ?_
    exact vx_ret (g_iret M B hr hlk h (by decide) (by decide) dL_proof_20)
  · refine lv_i2l (v := a4.toInt64) M.1 M.2.1 dL_proof_12 rfl ?_
    refine g_last M B dL_proof_13 h (fun S5 H locs h B => ?_)
    refine lv_goto (tgt := 21) M.1 M.2.1 dL_proof_14 (by decide) ?_
    refine lv_iconst (v := 0) M.1 M.2.1 dL_proof_21 (by decide) ?_
    exact vx_ret (g_iret M B hr hlk h (by decide) (by decide) dL_proof_22)
end
set_option maxRecDepth 100000 in
set_option maxHeartbeats 4000000 in
theorem kL_proof (l : Launch) (D : va_G) (cy : Nat → ClassId) (adK adV : Nat → Nat) (hl0 : l.stackTraces = false) {post : Int32 → Pool → Prop} {v0 : Option Nat} {v1 : Int32} {v2 : Int32} {v3 : Int32} {v4 : Int32} {v5 : Option Nat} {S : Pool} (h : wL_proof post v0 v1 v2 v3 v4 v5 S) : MetIL l adK adV yL_proof cL_proof 7 [(0, 14, 17, 25)] rmL_proof [va_rf v0, .int v1, .int v2, .int v3, .int v4, va_rf v5] D cy S post := by
  intro sz
  refine vx_ofWH (cc := cL_proof) (maxL := 7) (ret := some .int) (hh := [(0, 14, 17, 25)]) (by decide) rfl ?_
  intro p e s m args below meth c s₁ B0 hml hv
  obtain ⟨rfl, hpp⟩ := hv
  have hts := atoms_spec (ws := .codeWith yL_proof cL_proof 7 (some .int) [(0, 14, 17, 25)] :: Gw) B0.pre
  obtain rfl : s.heap.size = sz := hpp.1.1.1
  have hl := lv_entry [va_rf v0, .int v1, .int v2, .int v3, .int v4, va_rf v5] (n := 7) (by rw [sl_r, sl_i, sl_i, sl_i, sl_i, sl_r, sl_0]; decide)
  rw [lg_entry_eq]
  rw [la_r, la_i, la_i, la_i, la_i, la_r, la_0] at hl
  exact tL_proof (l := l) (R := rmL_proof) ⟨B0.exec, B0.bytes, hml, findClass_of_methodNamed B0.named, fun w hw => hts w (List.mem_cons_of_mem _ hw)⟩ B0.returns B0.notSynchronized (Nat.le_refl _) (Nat.le_refl _) (Nat.le_refl _) (Nat.le_refl _) hpp.1.ex hpp.2 hl0 (vx_table (x := yL_proof) B0 (hts _ List.mem_cons_self)) _ _ _ _ _ _ _ h _ _ _ hpp.1.1.pb (lv_sub hl [0, 1, 2, 3, 4, 5] rfl)
-- L_exempt
def wL_exempt (post : Int32 → Pool → Prop) (v0 : Option Nat) (v1 : Int32) (v2 : Int32) (v3 : Int32) (v4 : Option Nat) (S : Pool) : Prop := xrc S v0 8 (wX8_exempt (fun E S2 => (E = "java/lang/IndexOutOfBoundsException" ∧ post 1 S2) ∨ (E = "java/lang/IllegalArgumentException" ∧ post 2 S2)) (fun a4 S1 => xsJ S1 v4 0 (a4.toInt64) fun S5 => post 0 S5) v0 v1 v2 v3 S)
def rmL_exempt : Room := { frames := 8, cells := 2, slots := 12, locals := 135 }
section
variable {p : Program} {l : Launch} {e : Env} {R : Room} {s : State} {m : MethodId} {args : Array Value} {below : List Frame} {meth : Method} {c : Code} {D : va_G} {cy : Nat → ClassId} {A : Nat → Prop} {adK adV : Nat → Nat}
set_option maxRecDepth 100000 in
set_option maxHeartbeats 4000000 in
theorem tL_exempt {post : Int32 → Pool → Prop} (M : MC p m c cL_exempt 6 s args RL) (hr : meth.sig.returnType = (some FieldType.int)) (hlk : meth.locks = false) (hRf : 8 ≤ R.frames) (hRl : 135 ≤ R.locals) (hRc : 2 ≤ R.cells) (hRs : 12 ≤ R.slots) (X : EX adK adV A s) (N : NC s) (hl0 : l.stackTraces = false) (ht : c.exceptionTable.toList = tableOf [(0, 12, 15, 25), (0, 12, 19, 13)]) : ∀ (v0 : Option Nat) (v1 : Int32) (v2 : Int32) (v3 : Int32) (v4 : Option Nat) (S : Pool), wL_exempt post v0 v1 v2 v3 v4 S → ∀ (H : Heap) (locs : List Loc) (ls : Array Slot), PB D cy A s S H locs → lv_has ls 6 [(0, va_rf v0), (1, .int v1), (2, .int v2), (3, .int v3), (4, va_rf v4)] → W p l e R s m args below meth c H locs 0 0 (vx_MQ below (va_Qi post (PQ D cy A) A) (XT D cy A (fun _ _ => False)) args s 2 12 A) (F0 m 0 ls []) := by
  intro v0 v1 v2 v3 v4 S h H locs ls B hl
  unfold wL_exempt at h
  refine g_aload M dL_exempt_0 (lv_at hl 4 rfl) ?_
  refine lv_iconst (v := 0) M.1 M.2.1 dL_exempt_2 (by decide) ?_
  refine g_aload_n M dL_exempt_3 rfl (lv_at hl 0 rfl) ?_
  refine lv_iload_n M.1 M.2.1 dL_exempt_4 rfl (lv_at hl 1 rfl) ?_
  refine lv_iload_n M.1 M.2.1 dL_exempt_5 rfl (lv_at hl 2 rfl) ?_
  refine lv_iload_n M.1 M.2.1 dL_exempt_6 rfl (lv_at hl 3 rfl) ?_
  obtain ⟨o1, e1, hL1, hK1, h⟩ := h
  refine g_lcalli (k1 := 2) (k2 := 12) B (g_runVT (n := 3) (As := [.int v1, .int v2, .int v3]) (rm := rmX8_exempt) M B X e1 (kX8_exempt (v0 := v0) (v1 := v1) (v2 := v2) (v3 := v3) l D cy adK adV hl0 h _) wmL_49 wiX8_exempt wsX8_exempt wnX8 wcdX8_exempt ⟨rfl, by decide, by decide, by decide +kernel⟩ ⟨Nat.le_trans (by decide) hRf, Nat.le_trans (by decide) hRl⟩ ⟨Nat.le_trans (by decide) hRc, Nat.le_trans (by decide) hRs⟩ hL1 hK1 (by decide) rfl rfl rfl hl.1 rfl (ct_i (ct_r ct_0)) (by decide) dL_exempt_7) (by decide) (by decide) (fun E ce q3 S2 H locs h B hce hcv hcl => ?_) (fun a4 S1 H locs h B => ?_)
  · rcases h with ⟨rfl, h⟩ | ⟨rfl, h⟩
    · refine vx_catch (own := RL) (name := "java/lang/IndexOutOfBoundsException") M.2.2.2.1 [] ⟨0, 12, 15, 25⟩ [⟨0, 12, 19, 13⟩] ht (fun z hz => by cases hz) (by decide) (by decide) (M.2.2.2.2 _ wcL_25) (Nw_useB rfl (X.2 _ (by decide +kernel))) hce hcv hcl ?_
      refine g_astore (lv' := [(5, va_rf (some q3)), (0, va_rf v0), (1, .int v1), (2, .int v2), (3, .int v3), (4, va_rf v4)]) M dL_exempt_15 hl (by decide) (fl_e (fl_k rfl rfl (fl_k rfl rfl (fl_k rfl rfl (fl_k rfl rfl (fl_r rfl fl_0)))))) (fun ls hl => ?_)
      refine lv_iconst (v := 1) M.1 M.2.1 dL_exempt_17 (by decide) ?_
      exact vx_ret (g_iret M B hr hlk h (by decide) (by decide) dL_exempt_18)
    · refine vx_catch (own := RL) (name := "java/lang/IllegalArgumentException") M.2.2.2.1 [⟨0, 12, 15, 25⟩] ⟨0, 12, 19, 13⟩ [] ht (fun z hz => by
          simp only [List.mem_cons, List.not_mem_nil, or_false] at hz
          rcases hz with rfl
          · exact Or.inr ⟨by decide, _, M.2.2.2.2 _ wcL_25, N.2.2.1⟩) (by decide) (by decide) (M.2.2.2.2 _ wcL_13) (Nw_useB rfl (X.2 _ (by decide +kernel))) hce hcv hcl ?_
      refine g_astore (lv' := [(5, va_rf (some q3)), (0, va_rf v0), (1, .int v1), (2, .int v2), (3, .int v3), (4, va_rf v4)]) M dL_exempt_19 hl (by decide) (fl_e (fl_k rfl rfl (fl_k rfl rfl (fl_k rfl rfl (fl_k rfl rfl (fl_r rfl fl_0)))))) (fun ls hl => ?_)
      refine lv_iconst (v := 2) M.1 M.2.1 dL_exempt_21 (by decide) ?_
      exact vx_ret (g_iret M B hr hlk h (by decide) (by decide) dL_exempt_22)
  · refine lv_i2l (v := a4.toInt64) M.1 M.2.1 dL_exempt_10 rfl ?_
    refine g_last M B dL_exempt_11 h (fun S5 H locs h B => ?_)
    refine lv_goto (tgt := 23) M.1 M.2.1 dL_exempt_12 (by decide) ?_
    refine lv_iconst (v := 0) M.1 M.2.1 dL_exempt_23 (by decide) ?_
    exact vx_ret (g_iret M B hr hlk h (by decide) (by decide) dL_exempt_24)
end
set_option maxRecDepth 100000 in
set_option maxHeartbeats 4000000 in
theorem kL_exempt (l : Launch) (D : va_G) (cy : Nat → ClassId) (adK adV : Nat → Nat) (hl0 : l.stackTraces = false) {post : Int32 → Pool → Prop} {v0 : Option Nat} {v1 : Int32} {v2 : Int32} {v3 : Int32} {v4 : Option Nat} {S : Pool} (h : wL_exempt post v0 v1 v2 v3 v4 S) : MetIL l adK adV yL_exempt cL_exempt 6 [(0, 12, 15, 25), (0, 12, 19, 13)] rmL_exempt [va_rf v0, .int v1, .int v2, .int v3, va_rf v4] D cy S post := by
  intro sz
  refine vx_ofWH (cc := cL_exempt) (maxL := 6) (ret := some .int) (hh := [(0, 12, 15, 25), (0, 12, 19, 13)]) (by decide) rfl ?_
  intro p e s m args below meth c s₁ B0 hml hv
  obtain ⟨rfl, hpp⟩ := hv
  have hts := atoms_spec (ws := .codeWith yL_exempt cL_exempt 6 (some .int) [(0, 12, 15, 25), (0, 12, 19, 13)] :: Gw) B0.pre
  obtain rfl : s.heap.size = sz := hpp.1.1.1
  have hl := lv_entry [va_rf v0, .int v1, .int v2, .int v3, va_rf v4] (n := 6) (by rw [sl_r, sl_i, sl_i, sl_i, sl_r, sl_0]; decide)
  rw [lg_entry_eq]
  rw [la_r, la_i, la_i, la_i, la_r, la_0] at hl
  exact tL_exempt (l := l) (R := rmL_exempt) ⟨B0.exec, B0.bytes, hml, findClass_of_methodNamed B0.named, fun w hw => hts w (List.mem_cons_of_mem _ hw)⟩ B0.returns B0.notSynchronized (Nat.le_refl _) (Nat.le_refl _) (Nat.le_refl _) (Nat.le_refl _) hpp.1.ex hpp.2 hl0 (vx_table (x := yL_exempt) B0 (hts _ List.mem_cons_self)) _ _ _ _ _ _ h _ _ _ hpp.1.1.pb (lv_sub hl [0, 1, 2, 3, 4] rfl)
-- L_spared
def wL_spared (post : Int32 → Pool → Prop) (v0 : Option Nat) (v1 : Int32) (v2 : Int32) (v3 : Option Nat) (S : Pool) : Prop := xrc S v0 8 (wX8_spared (fun E S2 => (E = "java/lang/IndexOutOfBoundsException" ∧ post 1 S2)) (fun a4 S1 => xsJ S1 v3 0 (a4.toInt64) fun S5 => post 0 S5) v0 v1 v2 S)
def rmL_spared : Room := { frames := 9, cells := 1, slots := 6, locals := 159 }
section
variable {p : Program} {l : Launch} {e : Env} {R : Room} {s : State} {m : MethodId} {args : Array Value} {below : List Frame} {meth : Method} {c : Code} {D : va_G} {cy : Nat → ClassId} {A : Nat → Prop} {adK adV : Nat → Nat}
set_option maxRecDepth 100000 in
set_option maxHeartbeats 4000000 in
theorem tL_spared {post : Int32 → Pool → Prop} (M : MC p m c cL_spared 5 s args RL) (hr : meth.sig.returnType = (some FieldType.int)) (hlk : meth.locks = false) (hRf : 9 ≤ R.frames) (hRl : 159 ≤ R.locals) (hRc : 1 ≤ R.cells) (hRs : 6 ≤ R.slots) (X : EX adK adV A s) (N : NC s) (hl0 : l.stackTraces = false) (ht : c.exceptionTable.toList = tableOf [(0, 10, 13, 25)]) : ∀ (v0 : Option Nat) (v1 : Int32) (v2 : Int32) (v3 : Option Nat) (S : Pool), wL_spared post v0 v1 v2 v3 S → ∀ (H : Heap) (locs : List Loc) (ls : Array Slot), PB D cy A s S H locs → lv_has ls 5 [(0, va_rf v0), (1, .int v1), (2, .int v2), (3, va_rf v3)] → W p l e R s m args below meth c H locs 0 0 (vx_MQ below (va_Qi post (PQ D cy A) A) (XT D cy A (fun _ _ => False)) args s 1 6 A) (F0 m 0 ls []) := by
  intro v0 v1 v2 v3 S h H locs ls B hl
  unfold wL_spared at h
  refine g_aload_n M dL_spared_0 rfl (lv_at hl 3 rfl) ?_
  refine lv_iconst (v := 0) M.1 M.2.1 dL_spared_1 (by decide) ?_
  refine g_aload_n M dL_spared_2 rfl (lv_at hl 0 rfl) ?_
  refine lv_iload_n M.1 M.2.1 dL_spared_3 rfl (lv_at hl 1 rfl) ?_
  refine lv_iload_n M.1 M.2.1 dL_spared_4 rfl (lv_at hl 2 rfl) ?_
  obtain ⟨o1, e1, hL1, hK1, h⟩ := h
  refine g_lcalli (k1 := 1) (k2 := 6) B (g_runVT (n := 2) (As := [.int v1, .int v2]) (rm := rmX8_spared) M B X e1 (kX8_spared (v0 := v0) (v1 := v1) (v2 := v2) l D cy adK adV hl0 h _) wmL_52 wiX8_spared wsX8_spared wnX8 wcdX8_spared ⟨rfl, by decide, by decide, by decide +kernel⟩ ⟨Nat.le_trans (by decide) hRf, Nat.le_trans (by decide) hRl⟩ ⟨Nat.le_trans (by decide) hRc, Nat.le_trans (by decide) hRs⟩ hL1 hK1 (by decide) rfl rfl rfl hl.1 rfl (ct_i (ct_r ct_0)) (by decide) dL_spared_5) (by decide) (by decide) (fun E ce q3 S2 H locs h B hce hcv hcl => ?_) (fun a4 S1 H locs h B => ?_)
  · obtain ⟨rfl, h⟩ := h
    refine vx_catch (own := RL) (name := "java/lang/IndexOutOfBoundsException") M.2.2.2.1 [] ⟨0, 10, 13, 25⟩ [] ht (fun z hz => by cases hz) (by decide) (by decide) (M.2.2.2.2 _ wcL_25) (Nw_useB rfl (X.2 _ (by decide +kernel))) hce hcv hcl ?_
    refine g_astore (lv' := [(4, va_rf (some q3)), (0, va_rf v0), (1, .int v1), (2, .int v2), (3, va_rf v3)]) M dL_spared_13 hl (by decide) (fl_e (fl_k rfl rfl (fl_k rfl rfl (fl_k rfl rfl (fl_r rfl fl_0))))) (fun ls hl => ?_)
    refine lv_iconst (v := 1) M.1 M.2.1 dL_spared_15 (by decide) ?_
    exact vx_ret (g_iret M B hr hlk h (by decide) (by decide) dL_spared_16)
  · refine lv_i2l (v := a4.toInt64) M.1 M.2.1 dL_spared_8 rfl ?_
    refine g_last M B dL_spared_9 h (fun S5 H locs h B => ?_)
    refine lv_goto (tgt := 17) M.1 M.2.1 dL_spared_10 (by decide) ?_
    refine lv_iconst (v := 0) M.1 M.2.1 dL_spared_17 (by decide) ?_
    exact vx_ret (g_iret M B hr hlk h (by decide) (by decide) dL_spared_18)
end
set_option maxRecDepth 100000 in
set_option maxHeartbeats 4000000 in
theorem kL_spared (l : Launch) (D : va_G) (cy : Nat → ClassId) (adK adV : Nat → Nat) (hl0 : l.stackTraces = false) {post : Int32 → Pool → Prop} {v0 : Option Nat} {v1 : Int32} {v2 : Int32} {v3 : Option Nat} {S : Pool} (h : wL_spared post v0 v1 v2 v3 S) : MetIL l adK adV yL_spared cL_spared 5 [(0, 10, 13, 25)] rmL_spared [va_rf v0, .int v1, .int v2, va_rf v3] D cy S post := by
  intro sz
  refine vx_ofWH (cc := cL_spared) (maxL := 5) (ret := some .int) (hh := [(0, 10, 13, 25)]) (by decide) rfl ?_
  intro p e s m args below meth c s₁ B0 hml hv
  obtain ⟨rfl, hpp⟩ := hv
  have hts := atoms_spec (ws := .codeWith yL_spared cL_spared 5 (some .int) [(0, 10, 13, 25)] :: Gw) B0.pre
  obtain rfl : s.heap.size = sz := hpp.1.1.1
  have hl := lv_entry [va_rf v0, .int v1, .int v2, va_rf v3] (n := 5) (by rw [sl_r, sl_i, sl_i, sl_r, sl_0]; decide)
  rw [lg_entry_eq]
  rw [la_r, la_i, la_i, la_r, la_0] at hl
  exact tL_spared (l := l) (R := rmL_spared) ⟨B0.exec, B0.bytes, hml, findClass_of_methodNamed B0.named, fun w hw => hts w (List.mem_cons_of_mem _ hw)⟩ B0.returns B0.notSynchronized (Nat.le_refl _) (Nat.le_refl _) (Nat.le_refl _) (Nat.le_refl _) hpp.1.ex hpp.2 hl0 (vx_table (x := yL_spared) B0 (hts _ List.mem_cons_self)) _ _ _ _ _ h _ _ _ hpp.1.1.pb (lv_sub hl [0, 1, 2, 3] rfl)
-- L_gap
def wL_gap (post : Int32 → Pool → Prop) (v0 : Option Nat) (v1 : Int32) (S : Pool) : Prop := xrc S v0 8 (wX8_gap (fun E S2 => (E = "java/lang/IllegalArgumentException" ∧ post 1 S2)) (fun S1 => post 0 S1) v0 v1 S)
def rmL_gap : Room := { frames := 7, cells := 1, slots := 6, locals := 111 }
section
variable {p : Program} {l : Launch} {e : Env} {R : Room} {s : State} {m : MethodId} {args : Array Value} {below : List Frame} {meth : Method} {c : Code} {D : va_G} {cy : Nat → ClassId} {A : Nat → Prop} {adK adV : Nat → Nat}
set_option maxRecDepth 100000 in
set_option maxHeartbeats 4000000 in
theorem tL_gap {post : Int32 → Pool → Prop} (M : MC p m c cL_gap 3 s args RL) (hr : meth.sig.returnType = (some FieldType.int)) (hlk : meth.locks = false) (hRf : 7 ≤ R.frames) (hRl : 111 ≤ R.locals) (hRc : 1 ≤ R.cells) (hRs : 6 ≤ R.slots) (X : EX adK adV A s) (N : NC s) (hl0 : l.stackTraces = false) (ht : c.exceptionTable.toList = tableOf [(0, 5, 8, 13)]) : ∀ (v0 : Option Nat) (v1 : Int32) (S : Pool), wL_gap post v0 v1 S → ∀ (H : Heap) (locs : List Loc) (ls : Array Slot), PB D cy A s S H locs → lv_has ls 3 [(0, va_rf v0), (1, .int v1)] → W p l e R s m args below meth c H locs 0 0 (vx_MQ below (va_Qi post (PQ D cy A) A) (XT D cy A (fun _ _ => False)) args s 1 6 A) (F0 m 0 ls []) := by
  intro v0 v1 S h H locs ls B hl
  unfold wL_gap at h
  refine g_aload_n M dL_gap_0 rfl (lv_at hl 0 rfl) ?_
  refine lv_iload_n M.1 M.2.1 dL_gap_1 rfl (lv_at hl 1 rfl) ?_
  obtain ⟨o1, e1, hL1, hK1, h⟩ := h
  refine g_lcallv (k1 := 1) (k2 := 6) B (g_runVT (n := 1) (As := [.int v1]) (rm := rmX8_gap) M B X e1 (kX8_gap (v0 := v0) (v1 := v1) l D cy adK adV hl0 h _) wmL_55 wiX8_gap wsX8_gap wnX8 wcdX8_gap ⟨rfl, by decide, by decide, by decide +kernel⟩ ⟨Nat.le_trans (by decide) hRf, Nat.le_trans (by decide) hRl⟩ ⟨Nat.le_trans (by decide) hRc, Nat.le_trans (by decide) hRs⟩ hL1 hK1 (by decide) rfl rfl rfl hl.1 rfl ct_0 (by decide) dL_gap_2) (by decide) (by decide) (fun E ce q3 S2 H locs h B hce hcv hcl => ?_) (fun S1 H locs h B => ?_)
  · obtain ⟨rfl, h⟩ := h
    refine vx_catch (own := RL) (name := "java/lang/IllegalArgumentException") M.2.2.2.1 [] ⟨0, 5, 8, 13⟩ [] ht (fun z hz => by cases hz) (by decide) (by decide) (M.2.2.2.2 _ wcL_13) (Nw_useB rfl (X.2 _ (by decide +kernel))) hce hcv hcl ?_
    refine g_astore_n (lv' := [(2, va_rf (some q3)), (0, va_rf v0), (1, .int v1)]) M dL_gap_8 rfl hl (by decide) (fl_e (fl_k rfl rfl (fl_i rfl fl_0))) (fun ls hl => ?_)
    refine lv_iconst (v := 1) M.1 M.2.1 dL_gap_9 (by decide) ?_
    exact vx_ret (g_iret M B hr hlk h (by decide) (by decide) dL_gap_10)
  · refine lv_goto (tgt := 11) M.1 M.2.1 dL_gap_5 (by decide) ?_
    refine lv_iconst (v := 0) M.1 M.2.1 dL_gap_11 (by decide) ?_
    exact vx_ret (g_iret M B hr hlk h (by decide) (by decide) dL_gap_12)
end
set_option maxRecDepth 100000 in
set_option maxHeartbeats 4000000 in
theorem kL_gap (l : Launch) (D : va_G) (cy : Nat → ClassId) (adK adV : Nat → Nat) (hl0 : l.stackTraces = false) {post : Int32 → Pool → Prop} {v0 : Option Nat} {v1 : Int32} {S : Pool} (h : wL_gap post v0 v1 S) : MetIL l adK adV yL_gap cL_gap 3 [(0, 5, 8, 13)] rmL_gap [va_rf v0, .int v1] D cy S post := by
  intro sz
  refine vx_ofWH (cc := cL_gap) (maxL := 3) (ret := some .int) (hh := [(0, 5, 8, 13)]) (by decide) rfl ?_
  intro p e s m args below meth c s₁ B0 hml hv
  obtain ⟨rfl, hpp⟩ := hv
  have hts := atoms_spec (ws := .codeWith yL_gap cL_gap 3 (some .int) [(0, 5, 8, 13)] :: Gw) B0.pre
  obtain rfl : s.heap.size = sz := hpp.1.1.1
  have hl := lv_entry [va_rf v0, .int v1] (n := 3) (by rw [sl_r, sl_i, sl_0]; decide)
  rw [lg_entry_eq]
  rw [la_r, la_i, la_0] at hl
  exact tL_gap (l := l) (R := rmL_gap) ⟨B0.exec, B0.bytes, hml, findClass_of_methodNamed B0.named, fun w hw => hts w (List.mem_cons_of_mem _ hw)⟩ B0.returns B0.notSynchronized (Nat.le_refl _) (Nat.le_refl _) (Nat.le_refl _) (Nat.le_refl _) hpp.1.ex hpp.2 hl0 (vx_table (x := yL_gap) B0 (hts _ List.mem_cons_self)) _ _ _ h _ _ _ hpp.1.1.pb (lv_sub hl [0, 1] rfl)
-- L_joined
def wL_joined (post : Int32 → Pool → Prop) (v0 : Option Nat) (v1 : Int32) (v2 : Int32) (v3 : Option Nat) (S : Pool) : Prop := xrc S v0 8 (wX8_joined (fun E S2 => (E = "java/lang/IndexOutOfBoundsException" ∧ post 1 S2)) (fun a4 S1 => xsJ S1 v3 0 (a4.toInt64) fun S5 => post 0 S5) v0 v1 v2 S)
def rmL_joined : Room := { frames := 9, cells := 3, slots := 18, locals := 165 }
section
variable {p : Program} {l : Launch} {e : Env} {R : Room} {s : State} {m : MethodId} {args : Array Value} {below : List Frame} {meth : Method} {c : Code} {D : va_G} {cy : Nat → ClassId} {A : Nat → Prop} {adK adV : Nat → Nat}
set_option maxRecDepth 100000 in
set_option maxHeartbeats 4000000 in
theorem tL_joined {post : Int32 → Pool → Prop} (M : MC p m c cL_joined 5 s args RL) (hr : meth.sig.returnType = (some FieldType.int)) (hlk : meth.locks = false) (hRf : 9 ≤ R.frames) (hRl : 165 ≤ R.locals) (hRc : 3 ≤ R.cells) (hRs : 18 ≤ R.slots) (X : EX adK adV A s) (N : NC s) (hl0 : l.stackTraces = false) (ht : c.exceptionTable.toList = tableOf [(0, 10, 13, 25)]) : ∀ (v0 : Option Nat) (v1 : Int32) (v2 : Int32) (v3 : Option Nat) (S : Pool), wL_joined post v0 v1 v2 v3 S → ∀ (H : Heap) (locs : List Loc) (ls : Array Slot), PB D cy A s S H locs → lv_has ls 5 [(0, va_rf v0), (1, .int v1), (2, .int v2), (3, va_rf v3)] → W p l e R s m args below meth c H locs 0 0 (vx_MQ below (va_Qi post (PQ D cy A) A) (XT D cy A (fun _ _ => False)) args s 3 18 A) (F0 m 0 ls []) := by
  intro v0 v1 v2 v3 S h H locs ls B hl
  unfold wL_joined at h
  refine g_aload_n M dL_joined_0 rfl (lv_at hl 3 rfl) ?_
  refine lv_iconst (v := 0) M.1 M.2.1 dL_joined_1 (by decide) ?_
  refine g_aload_n M dL_joined_2 rfl (lv_at hl 0 rfl) ?_
  refine lv_iload_n M.1 M.2.1 dL_joined_3 rfl (lv_at hl 1 rfl) ?_
  refine lv_iload_n M.1 M.2.1 dL_joined_4 rfl (lv_at hl 2 rfl) ?_
  obtain ⟨o1, e1, hL1, hK1, h⟩ := h
  refine g_lcalli (k1 := 3) (k2 := 18) B (g_runVT (n := 2) (As := [.int v1, .int v2]) (rm := rmX8_joined) M B X e1 (kX8_joined (v0 := v0) (v1 := v1) (v2 := v2) l D cy adK adV hl0 h _) wmL_59 wiX8_joined wsX8_joined wnX8 wcdX8_joined ⟨rfl, by decide, by decide, by decide +kernel⟩ ⟨Nat.le_trans (by decide) hRf, Nat.le_trans (by decide) hRl⟩ ⟨Nat.le_trans (by decide) hRc, Nat.le_trans (by decide) hRs⟩ hL1 hK1 (by decide) rfl rfl rfl hl.1 rfl (ct_i (ct_r ct_0)) (by decide) dL_joined_5) (by decide) (by decide) (fun E ce q3 S2 H locs h B hce hcv hcl => ?_) (fun a4 S1 H locs h B => ?_)
  · obtain ⟨rfl, h⟩ := h
    refine vx_catch (own := RL) (name := "java/lang/IndexOutOfBoundsException") M.2.2.2.1 [] ⟨0, 10, 13, 25⟩ [] ht (fun z hz => by cases hz) (by decide) (by decide) (M.2.2.2.2 _ wcL_25) (Nw_useB rfl (X.2 _ (by decide +kernel))) hce hcv hcl ?_
    refine g_astore (lv' := [(4, va_rf (some q3)), (0, va_rf v0), (1, .int v1), (2, .int v2), (3, va_rf v3)]) M dL_joined_13 hl (by decide) (fl_e (fl_k rfl rfl (fl_k rfl rfl (fl_k rfl rfl (fl_r rfl fl_0))))) (fun ls hl => ?_)
    refine lv_iconst (v := 1) M.1 M.2.1 dL_joined_15 (by decide) ?_
    exact vx_ret (g_iret M B hr hlk h (by decide) (by decide) dL_joined_16)
  · refine lv_i2l (v := a4.toInt64) M.1 M.2.1 dL_joined_8 rfl ?_
    refine g_last M B dL_joined_9 h (fun S5 H locs h B => ?_)
    refine lv_goto (tgt := 17) M.1 M.2.1 dL_joined_10 (by decide) ?_
    refine lv_iconst (v := 0) M.1 M.2.1 dL_joined_17 (by decide) ?_
    exact vx_ret (g_iret M B hr hlk h (by decide) (by decide) dL_joined_18)
end
set_option maxRecDepth 100000 in
set_option maxHeartbeats 4000000 in
theorem kL_joined (l : Launch) (D : va_G) (cy : Nat → ClassId) (adK adV : Nat → Nat) (hl0 : l.stackTraces = false) {post : Int32 → Pool → Prop} {v0 : Option Nat} {v1 : Int32} {v2 : Int32} {v3 : Option Nat} {S : Pool} (h : wL_joined post v0 v1 v2 v3 S) : MetIL l adK adV yL_joined cL_joined 5 [(0, 10, 13, 25)] rmL_joined [va_rf v0, .int v1, .int v2, va_rf v3] D cy S post := by
  intro sz
  refine vx_ofWH (cc := cL_joined) (maxL := 5) (ret := some .int) (hh := [(0, 10, 13, 25)]) (by decide) rfl ?_
  intro p e s m args below meth c s₁ B0 hml hv
  obtain ⟨rfl, hpp⟩ := hv
  have hts := atoms_spec (ws := .codeWith yL_joined cL_joined 5 (some .int) [(0, 10, 13, 25)] :: Gw) B0.pre
  obtain rfl : s.heap.size = sz := hpp.1.1.1
  have hl := lv_entry [va_rf v0, .int v1, .int v2, va_rf v3] (n := 5) (by rw [sl_r, sl_i, sl_i, sl_r, sl_0]; decide)
  rw [lg_entry_eq]
  rw [la_r, la_i, la_i, la_r, la_0] at hl
  exact tL_joined (l := l) (R := rmL_joined) ⟨B0.exec, B0.bytes, hml, findClass_of_methodNamed B0.named, fun w hw => hts w (List.mem_cons_of_mem _ hw)⟩ B0.returns B0.notSynchronized (Nat.le_refl _) (Nat.le_refl _) (Nat.le_refl _) (Nat.le_refl _) hpp.1.ex hpp.2 hl0 (vx_table (x := yL_joined) B0 (hts _ List.mem_cons_self)) _ _ _ _ _ h _ _ _ hpp.1.1.pb (lv_sub hl [0, 1, 2, 3] rfl)
-- L_cost
def wL_cost (post : Int32 → Pool → Prop) (v0 : Option Nat) (v1 : Int32) (v2 : Int32) (v3 : Option Nat) (S : Pool) : Prop := xrc S v0 8 (wX8_cost (fun E S2 => (E = "java/lang/IndexOutOfBoundsException" ∧ post 1 S2)) (fun a4 S1 => xsJ S1 v3 0 (a4.toInt64) fun S5 => post 0 S5) v0 v1 v2 S)
def rmL_cost : Room := { frames := 9, cells := 1, slots := 6, locals := 156 }
section
variable {p : Program} {l : Launch} {e : Env} {R : Room} {s : State} {m : MethodId} {args : Array Value} {below : List Frame} {meth : Method} {c : Code} {D : va_G} {cy : Nat → ClassId} {A : Nat → Prop} {adK adV : Nat → Nat}
set_option maxRecDepth 100000 in
set_option maxHeartbeats 4000000 in
theorem tL_cost {post : Int32 → Pool → Prop} (M : MC p m c cL_cost 5 s args RL) (hr : meth.sig.returnType = (some FieldType.int)) (hlk : meth.locks = false) (hRf : 9 ≤ R.frames) (hRl : 156 ≤ R.locals) (hRc : 1 ≤ R.cells) (hRs : 6 ≤ R.slots) (X : EX adK adV A s) (N : NC s) (hl0 : l.stackTraces = false) (ht : c.exceptionTable.toList = tableOf [(0, 10, 13, 25)]) : ∀ (v0 : Option Nat) (v1 : Int32) (v2 : Int32) (v3 : Option Nat) (S : Pool), wL_cost post v0 v1 v2 v3 S → ∀ (H : Heap) (locs : List Loc) (ls : Array Slot), PB D cy A s S H locs → lv_has ls 5 [(0, va_rf v0), (1, .int v1), (2, .int v2), (3, va_rf v3)] → W p l e R s m args below meth c H locs 0 0 (vx_MQ below (va_Qi post (PQ D cy A) A) (XT D cy A (fun _ _ => False)) args s 1 6 A) (F0 m 0 ls []) := by
  intro v0 v1 v2 v3 S h H locs ls B hl
  unfold wL_cost at h
  refine g_aload_n M dL_cost_0 rfl (lv_at hl 3 rfl) ?_
  refine lv_iconst (v := 0) M.1 M.2.1 dL_cost_1 (by decide) ?_
  refine g_aload_n M dL_cost_2 rfl (lv_at hl 0 rfl) ?_
  refine lv_iload_n M.1 M.2.1 dL_cost_3 rfl (lv_at hl 1 rfl) ?_
  refine lv_iload_n M.1 M.2.1 dL_cost_4 rfl (lv_at hl 2 rfl) ?_
  obtain ⟨o1, e1, hL1, hK1, h⟩ := h
  refine g_lcalli (k1 := 1) (k2 := 6) B (g_runVT (n := 2) (As := [.int v1, .int v2]) (rm := rmX8_cost) M B X e1 (kX8_cost (v0 := v0) (v1 := v1) (v2 := v2) l D cy adK adV hl0 h _) wmL_62 wiX8_cost wsX8_cost wnX8 wcdX8_cost ⟨rfl, by decide, by decide, by decide +kernel⟩ ⟨Nat.le_trans (by decide) hRf, Nat.le_trans (by decide) hRl⟩ ⟨Nat.le_trans (by decide) hRc, Nat.le_trans (by decide) hRs⟩ hL1 hK1 (by decide) rfl rfl rfl hl.1 rfl (ct_i (ct_r ct_0)) (by decide) dL_cost_5) (by decide) (by decide) (fun E ce q3 S2 H locs h B hce hcv hcl => ?_) (fun a4 S1 H locs h B => ?_)
  · obtain ⟨rfl, h⟩ := h
    refine vx_catch (own := RL) (name := "java/lang/IndexOutOfBoundsException") M.2.2.2.1 [] ⟨0, 10, 13, 25⟩ [] ht (fun z hz => by cases hz) (by decide) (by decide) (M.2.2.2.2 _ wcL_25) (Nw_useB rfl (X.2 _ (by decide +kernel))) hce hcv hcl ?_
    refine g_astore (lv' := [(4, va_rf (some q3)), (0, va_rf v0), (1, .int v1), (2, .int v2), (3, va_rf v3)]) M dL_cost_13 hl (by decide) (fl_e (fl_k rfl rfl (fl_k rfl rfl (fl_k rfl rfl (fl_r rfl fl_0))))) (fun ls hl => ?_)
    refine lv_iconst (v := 1) M.1 M.2.1 dL_cost_15 (by decide) ?_
    exact vx_ret (g_iret M B hr hlk h (by decide) (by decide) dL_cost_16)
  · refine lv_i2l (v := a4.toInt64) M.1 M.2.1 dL_cost_8 rfl ?_
    refine g_last M B dL_cost_9 h (fun S5 H locs h B => ?_)
    refine lv_goto (tgt := 17) M.1 M.2.1 dL_cost_10 (by decide) ?_
    refine lv_iconst (v := 0) M.1 M.2.1 dL_cost_17 (by decide) ?_
    exact vx_ret (g_iret M B hr hlk h (by decide) (by decide) dL_cost_18)
end
set_option maxRecDepth 100000 in
set_option maxHeartbeats 4000000 in
theorem kL_cost (l : Launch) (D : va_G) (cy : Nat → ClassId) (adK adV : Nat → Nat) (hl0 : l.stackTraces = false) {post : Int32 → Pool → Prop} {v0 : Option Nat} {v1 : Int32} {v2 : Int32} {v3 : Option Nat} {S : Pool} (h : wL_cost post v0 v1 v2 v3 S) : MetIL l adK adV yL_cost cL_cost 5 [(0, 10, 13, 25)] rmL_cost [va_rf v0, .int v1, .int v2, va_rf v3] D cy S post := by
  intro sz
  refine vx_ofWH (cc := cL_cost) (maxL := 5) (ret := some .int) (hh := [(0, 10, 13, 25)]) (by decide) rfl ?_
  intro p e s m args below meth c s₁ B0 hml hv
  obtain ⟨rfl, hpp⟩ := hv
  have hts := atoms_spec (ws := .codeWith yL_cost cL_cost 5 (some .int) [(0, 10, 13, 25)] :: Gw) B0.pre
  obtain rfl : s.heap.size = sz := hpp.1.1.1
  have hl := lv_entry [va_rf v0, .int v1, .int v2, va_rf v3] (n := 5) (by rw [sl_r, sl_i, sl_i, sl_r, sl_0]; decide)
  rw [lg_entry_eq]
  rw [la_r, la_i, la_i, la_r, la_0] at hl
  exact tL_cost (l := l) (R := rmL_cost) ⟨B0.exec, B0.bytes, hml, findClass_of_methodNamed B0.named, fun w hw => hts w (List.mem_cons_of_mem _ hw)⟩ B0.returns B0.notSynchronized (Nat.le_refl _) (Nat.le_refl _) (Nat.le_refl _) (Nat.le_refl _) hpp.1.ex hpp.2 hl0 (vx_table (x := yL_cost) B0 (hts _ List.mem_cons_self)) _ _ _ _ _ h _ _ _ hpp.1.1.pb (lv_sub hl [0, 1, 2, 3] rfl)
-- L_widest
def wL_widest (post : Int32 → Pool → Prop) (v0 : Option Nat) (v1 : Int32) (v2 : Int32) (v3 : Option Nat) (S : Pool) : Prop := xrc S v0 8 (wX8_widest (fun E S2 => (E = "java/lang/IndexOutOfBoundsException" ∧ post 1 S2)) (fun a4 S1 => xsJ S1 v3 0 (a4.toInt64) fun S5 => post 0 S5) v0 v1 v2 S)
def rmL_widest : Room := { frames := 9, cells := 1, slots := 6, locals := 156 }
section
variable {p : Program} {l : Launch} {e : Env} {R : Room} {s : State} {m : MethodId} {args : Array Value} {below : List Frame} {meth : Method} {c : Code} {D : va_G} {cy : Nat → ClassId} {A : Nat → Prop} {adK adV : Nat → Nat}
set_option maxRecDepth 100000 in
set_option maxHeartbeats 4000000 in
theorem tL_widest {post : Int32 → Pool → Prop} (M : MC p m c cL_widest 5 s args RL) (hr : meth.sig.returnType = (some FieldType.int)) (hlk : meth.locks = false) (hRf : 9 ≤ R.frames) (hRl : 156 ≤ R.locals) (hRc : 1 ≤ R.cells) (hRs : 6 ≤ R.slots) (X : EX adK adV A s) (N : NC s) (hl0 : l.stackTraces = false) (ht : c.exceptionTable.toList = tableOf [(0, 10, 13, 25)]) : ∀ (v0 : Option Nat) (v1 : Int32) (v2 : Int32) (v3 : Option Nat) (S : Pool), wL_widest post v0 v1 v2 v3 S → ∀ (H : Heap) (locs : List Loc) (ls : Array Slot), PB D cy A s S H locs → lv_has ls 5 [(0, va_rf v0), (1, .int v1), (2, .int v2), (3, va_rf v3)] → W p l e R s m args below meth c H locs 0 0 (vx_MQ below (va_Qi post (PQ D cy A) A) (XT D cy A (fun _ _ => False)) args s 1 6 A) (F0 m 0 ls []) := by
  intro v0 v1 v2 v3 S h H locs ls B hl
  unfold wL_widest at h
  refine g_aload_n M dL_widest_0 rfl (lv_at hl 3 rfl) ?_
  refine lv_iconst (v := 0) M.1 M.2.1 dL_widest_1 (by decide) ?_
  refine g_aload_n M dL_widest_2 rfl (lv_at hl 0 rfl) ?_
  refine lv_iload_n M.1 M.2.1 dL_widest_3 rfl (lv_at hl 1 rfl) ?_
  refine lv_iload_n M.1 M.2.1 dL_widest_4 rfl (lv_at hl 2 rfl) ?_
  obtain ⟨o1, e1, hL1, hK1, h⟩ := h
  refine g_lcalli (k1 := 1) (k2 := 6) B (g_runVT (n := 2) (As := [.int v1, .int v2]) (rm := rmX8_widest) M B X e1 (kX8_widest (v0 := v0) (v1 := v1) (v2 := v2) l D cy adK adV hl0 h _) wmL_65 wiX8_widest wsX8_widest wnX8 wcdX8_widest ⟨rfl, by decide, by decide, by decide +kernel⟩ ⟨Nat.le_trans (by decide) hRf, Nat.le_trans (by decide) hRl⟩ ⟨Nat.le_trans (by decide) hRc, Nat.le_trans (by decide) hRs⟩ hL1 hK1 (by decide) rfl rfl rfl hl.1 rfl (ct_i (ct_r ct_0)) (by decide) dL_widest_5) (by decide) (by decide) (fun E ce q3 S2 H locs h B hce hcv hcl => ?_) (fun a4 S1 H locs h B => ?_)
  · obtain ⟨rfl, h⟩ := h
    refine vx_catch (own := RL) (name := "java/lang/IndexOutOfBoundsException") M.2.2.2.1 [] ⟨0, 10, 13, 25⟩ [] ht (fun z hz => by cases hz) (by decide) (by decide) (M.2.2.2.2 _ wcL_25) (Nw_useB rfl (X.2 _ (by decide +kernel))) hce hcv hcl ?_
    refine g_astore (lv' := [(4, va_rf (some q3)), (0, va_rf v0), (1, .int v1), (2, .int v2), (3, va_rf v3)]) M dL_widest_13 hl (by decide) (fl_e (fl_k rfl rfl (fl_k rfl rfl (fl_k rfl rfl (fl_r rfl fl_0))))) (fun ls hl => ?_)
    refine lv_iconst (v := 1) M.1 M.2.1 dL_widest_15 (by decide) ?_
    exact vx_ret (g_iret M B hr hlk h (by decide) (by decide) dL_widest_16)
  · refine lv_i2l (v := a4.toInt64) M.1 M.2.1 dL_widest_8 rfl ?_
    refine g_last M B dL_widest_9 h (fun S5 H locs h B => ?_)
    refine lv_goto (tgt := 17) M.1 M.2.1 dL_widest_10 (by decide) ?_
    refine lv_iconst (v := 0) M.1 M.2.1 dL_widest_17 (by decide) ?_
    exact vx_ret (g_iret M B hr hlk h (by decide) (by decide) dL_widest_18)
end
set_option maxRecDepth 100000 in
set_option maxHeartbeats 4000000 in
theorem kL_widest (l : Launch) (D : va_G) (cy : Nat → ClassId) (adK adV : Nat → Nat) (hl0 : l.stackTraces = false) {post : Int32 → Pool → Prop} {v0 : Option Nat} {v1 : Int32} {v2 : Int32} {v3 : Option Nat} {S : Pool} (h : wL_widest post v0 v1 v2 v3 S) : MetIL l adK adV yL_widest cL_widest 5 [(0, 10, 13, 25)] rmL_widest [va_rf v0, .int v1, .int v2, va_rf v3] D cy S post := by
  intro sz
  refine vx_ofWH (cc := cL_widest) (maxL := 5) (ret := some .int) (hh := [(0, 10, 13, 25)]) (by decide) rfl ?_
  intro p e s m args below meth c s₁ B0 hml hv
  obtain ⟨rfl, hpp⟩ := hv
  have hts := atoms_spec (ws := .codeWith yL_widest cL_widest 5 (some .int) [(0, 10, 13, 25)] :: Gw) B0.pre
  obtain rfl : s.heap.size = sz := hpp.1.1.1
  have hl := lv_entry [va_rf v0, .int v1, .int v2, va_rf v3] (n := 5) (by rw [sl_r, sl_i, sl_i, sl_r, sl_0]; decide)
  rw [lg_entry_eq]
  rw [la_r, la_i, la_i, la_r, la_0] at hl
  exact tL_widest (l := l) (R := rmL_widest) ⟨B0.exec, B0.bytes, hml, findClass_of_methodNamed B0.named, fun w hw => hts w (List.mem_cons_of_mem _ hw)⟩ B0.returns B0.notSynchronized (Nat.le_refl _) (Nat.le_refl _) (Nat.le_refl _) (Nat.le_refl _) hpp.1.ex hpp.2 hl0 (vx_table (x := yL_widest) B0 (hts _ List.mem_cons_self)) _ _ _ _ _ h _ _ _ hpp.1.1.pb (lv_sub hl [0, 1, 2, 3] rfl)
