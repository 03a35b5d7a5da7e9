-- X8_look: LogHunt.look(II)I
def wX8_look (pox : String → Pool → Prop) (post : Int32 → Pool → Prop) (v0 : Option Nat) (v1 : Int32) (v2 : Int32) (S : Pool) : Prop := xrc S v0 8 (wX8_actAt pox (fun a2 S1 => br (v2.toInt < 0 ∨ 6 < v2.toInt) (pox "java/util/NoSuchElementException" S1) (br (v2.toInt = 0) (xI S1 a2 0 1 fun a4 => post a4 S1) (br (v2.toInt = 1) (xI S1 a2 0 2 fun a6 => post a6 S1) (br (v2.toInt = 2) (xI S1 a2 0 3 fun a8 => post a8 S1) (br (v2.toInt = 3) (xI S1 a2 0 4 fun a10 => post a10 S1) (br (v2.toInt = 4) (xI S1 a2 0 5 fun a12 => post a12 S1) (br (v2.toInt = 5) (xI S1 a2 0 6 fun a14 => post a14 S1) (xI S1 a2 0 7 fun a16 => post a16 S1)))))))) v0 v1 S)
def rmX8_look : Room := { frames := 7, cells := 2, slots := 12, locals := 112 }
section
variable {p : Program} {l : Launch} {e : Env} {R : Room} {s : State} {m : MethodId} {args : Array Value} {below : List Frame} {meth : Method} {c : Code} {D : va_G} {cy : Nat → ClassId} {A : Nat → Prop} {adK adV : Nat → Nat}
set_option maxRecDepth 100000 in
set_option maxHeartbeats 4000000 in
theorem tX8_look {pox : String → Pool → Prop} {post : Int32 → Pool → Prop} (M : MC p m c cX8_look 4 s args RX8) (hr : meth.sig.returnType = (some FieldType.int)) (hlk : meth.locks = false) (hRf : 7 ≤ R.frames) (hRl : 112 ≤ R.locals) (hRc : 2 ≤ R.cells) (hRs : 12 ≤ R.slots) (X : EX adK adV A s) (hl0 : l.stackTraces = false) (hout : ∀ x ∈ c.exceptionTable.toList, False) : ∀ (v0 : Option Nat) (v1 : Int32) (v2 : Int32) (S : Pool), wX8_look pox post v0 v1 v2 S → ∀ (H : Heap) (locs : List Loc) (ls : Array Slot), PB D cy A s S H locs → lv_has ls 4 [(0, va_rf v0), (1, .int v1), (2, .int v2)] → W p l e R s m args below meth c H locs 0 0 (vx_MQ below (va_Qi post (PQ D cy A) A) (XT D cy A pox) args s 2 12 A) (F0 m 0 ls []) := by
  intro v0 v1 v2 S h H locs ls B hl
  unfold wX8_look at h
  refine g_aload_n M dX8_look_0 rfl (lv_at hl 0 rfl) ?_
  refine lv_iload_n M.1 M.2.1 dX8_look_1 rfl (lv_at hl 1 rfl) ?_
  obtain ⟨o1, e1, hL1, hK1, h⟩ := h
  refine g_tcallr (k1 := 1) (k2 := 6) B hout hlk (g_runVT (n := 1) (As := [.int v1]) (rm := rmX8_actAt) M B X e1 (kX8_actAt (v0 := v0) (v1 := v1) l D cy adK adV hl0 h _) wmX8_145 wiX8_actAt wsX8_actAt wnX8 wcdX8_actAt ⟨rfl, by decide, by decide, by decide +kernel⟩ ⟨Nat.le_trans (by decide) hRf, Nat.le_trans (by decide) hRl⟩ ⟨Nat.le_trans (by decide) hRc, Nat.le_trans (by decide) hRs⟩ hL1 hK1 (by decide) rfl rfl rfl hl.1 rfl ct_0 (by decide) dX8_look_2) (by decide) (by decide) (by decide) (by decide) (fun a2 S1 H locs h B => ?_)
  refine g_astore_n (lv' := [(3, va_rf a2), (0, va_rf v0), (1, .int v1), (2, .int v2)]) M dX8_look_5 rfl hl (by decide) (fl_e (fl_k rfl rfl (fl_k rfl rfl (fl_i rfl fl_0)))) (fun ls hl => ?_)
  refine lv_iload_n M.1 M.2.1 dX8_look_6 rfl (lv_at hl 3 rfl) ?_
  by_cases c3 : v2.toInt < 0 ∨ 6 < v2.toInt
  · have h := h.1 c3
    refine lv_tableOut (tgt := 83) M.1 M.2.1 dX8_look_7 c3 (by decide) ?_
    exact g_throwN (j := 5) (is := 172) (ic := 174) M B X hl0 hout hlk (by decide +kernel) (by decide) rfl wcX8_170 wn_NoSuchElementException (by decide +kernel) (by decide +kernel) (by decide +kernel) hl.1 (Nat.le_trans (by decide) hRf) (Nat.le_trans (by decide) hRl) (Nat.le_trans (by decide) hRc) (Nat.le_trans (by decide) hRs) ct_0 (by decide) (by decide) (by decide) dX8_look_83 dX8_look_86 dX8_look_87 dX8_look_89 dX8_look_92 h
  · have h := h.2 c3
    by_cases c5 : v2.toInt = 0
    · have h := h.1 c5
      refine lv_tableIn (tgt := 48) (off := 41) M.1 M.2.1 dX8_look_7 (fun q => c3 (Or.inl q)) (fun q => c3 (Or.inr q)) (by rw [c5]; rfl) (by decide) ?_
      refine g_aload_n M dX8_look_48 rfl (lv_at hl 0 rfl) ?_
      refine gfX8_149 M B dX8_look_49 h (fun a4 h => ?_)
      exact vx_ret (g_iret M B hr hlk h (by decide) (by decide) dX8_look_52)
    have h := h.2 c5
    by_cases c7 : v2.toInt = 1
    · have h := h.1 c7
      refine lv_tableIn (tgt := 53) (off := 46) M.1 M.2.1 dX8_look_7 (fun q => c3 (Or.inl q)) (fun q => c3 (Or.inr q)) (by rw [c7]; rfl) (by decide) ?_
      refine g_aload_n M dX8_look_53 rfl (lv_at hl 0 rfl) ?_
      refine gfX8_152 M B dX8_look_54 h (fun a6 h => ?_)
      exact vx_ret (g_iret M B hr hlk h (by decide) (by decide) dX8_look_57)
    have h := h.2 c7
    by_cases c9 : v2.toInt = 2
    · have h := h.1 c9
      refine lv_tableIn (tgt := 58) (off := 51) M.1 M.2.1 dX8_look_7 (fun q => c3 (Or.inl q)) (fun q => c3 (Or.inr q)) (by rw [c9]; rfl) (by decide) ?_
      refine g_aload_n M dX8_look_58 rfl (lv_at hl 0 rfl) ?_
      refine gfX8_155 M B dX8_look_59 h (fun a8 h => ?_)
      exact vx_ret (g_iret M B hr hlk h (by decide) (by decide) dX8_look_62)
    have h := h.2 c9
    by_cases c11 : v2.toInt = 3
    · have h := h.1 c11
      refine lv_tableIn (tgt := 63) (off := 56) M.1 M.2.1 dX8_look_7 (fun q => c3 (Or.inl q)) (fun q => c3 (Or.inr q)) (by rw [c11]; rfl) (by decide) ?_
      refine g_aload_n M dX8_look_63 rfl (lv_at hl 0 rfl) ?_
      refine gfX8_158 M B dX8_look_64 h (fun a10 h => ?_)
      exact vx_ret (g_iret M B hr hlk h (by decide) (by decide) dX8_look_67)
    have h := h.2 c11
    by_cases c13 : v2.toInt = 4
    · have h := h.1 c13
      refine lv_tableIn (tgt := 68) (off := 61) M.1 M.2.1 dX8_look_7 (fun q => c3 (Or.inl q)) (fun q => c3 (Or.inr q)) (by rw [c13]; rfl) (by decide) ?_
      refine g_aload_n M dX8_look_68 rfl (lv_at hl 0 rfl) ?_
      refine gfX8_161 M B dX8_look_69 h (fun a12 h => ?_)
      exact vx_ret (g_iret M B hr hlk h (by decide) (by decide) dX8_look_72)
    have h := h.2 c13
    by_cases c15 : v2.toInt = 5
    · have h := h.1 c15
      refine lv_tableIn (tgt := 73) (off := 66) M.1 M.2.1 dX8_look_7 (fun q => c3 (Or.inl q)) (fun q => c3 (Or.inr q)) (by rw [c15]; rfl) (by decide) ?_
      refine g_aload_n M dX8_look_73 rfl (lv_at hl 0 rfl) ?_
      refine gfX8_164 M B dX8_look_74 h (fun a14 h => ?_)
      exact vx_ret (g_iret M B hr hlk h (by decide) (by decide) dX8_look_77)
    have h := h.2 c15
    have c17 : v2.toInt = 6 := by omega
    refine lv_tableIn (tgt := 78) (off := 71) M.1 M.2.1 dX8_look_7 (fun q => c3 (Or.inl q)) (fun q => c3 (Or.inr q)) (by rw [c17]; rfl) (by decide) ?_
    refine g_aload_n M dX8_look_78 rfl (lv_at hl 0 rfl) ?_
    refine gfX8_167 M B dX8_look_79 h (fun a16 h => ?_)
    exact vx_ret (g_iret M B hr hlk h (by decide) (by decide) dX8_look_82)
end
set_option maxRecDepth 100000 in
set_option maxHeartbeats 4000000 in
theorem kX8_look (l : Launch) (D : va_G) (cy : Nat → ClassId) (adK adV : Nat → Nat) (hl0 : l.stackTraces = false) {pox : String → Pool → Prop} {post : Int32 → Pool → Prop} {v0 : Option Nat} {v1 : Int32} {v2 : Int32} {S : Pool} (h : wX8_look pox post v0 v1 v2 S) : MetIT l adK adV yX8_look cX8_look 4 (some FieldType.int) rmX8_look [va_rf v0, .int v1, .int v2] D cy S pox post := by
  intro sz
  refine vx_ofW (cc := cX8_look) (maxL := 4) (ret := (some FieldType.int)) (by decide) rfl ?_
  intro p e s m args below meth c s₁ B0 hml hout hv
  obtain ⟨rfl, hpp⟩ := hv
  have hts := atoms_spec (ws := .code yX8_look cX8_look 4 (some FieldType.int) :: Gw) B0.pre
  obtain rfl : s.heap.size = sz := hpp.1.1
  have hl := lv_entry [va_rf v0, .int v1, .int v2] (n := 4) (by rw [sl_r, sl_i, sl_i, sl_0]; decide)
  rw [lg_entry_eq]
  rw [la_r, la_i, la_i, la_0] at hl
  exact tX8_look (l := l) (R := rmX8_look) ⟨B0.exec, B0.bytes, hml, findClass_of_methodNamed B0.named, fun w hw => hts w (List.mem_cons_of_mem _ hw)⟩ B0.returns B0.notSynchronized (Nat.le_refl _) (Nat.le_refl _) (Nat.le_refl _) (Nat.le_refl _) hpp.ex hl0 hout _ _ _ _ h _ _ _ hpp.1.pb (lv_sub hl [0, 1, 2] rfl)
