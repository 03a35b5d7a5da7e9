def ixG : List Nat := [61, 121, 123, 125, 33, 107, 42, 44, 103]
def txG : List String := ["by", "who", "what", "where", "spread", "within", "kind", "not", "first"]
def lenG : List Nat := [2, 3, 4, 5, 6, 6, 4, 3, 5]
def bytG : List (List Int32) := [[98, 121], [119, 104, 111], [119, 104, 97, 116], [119, 104, 101, 114, 101], [115, 112, 114, 101, 97, 100], [119, 105, 116, 104, 105, 110], [107, 105, 110, 100], [110, 111, 116], [102, 105, 114, 115, 116]]
def ixM : List Nat := [98, 120, 122, 133, 265, 172, 177, 180, 189, 196, 202, 267, 224, 236]
def txM : List String := ["so many ticks cannot pass at once", "no such kind, who, what or where", "the tick is not 0 to now", "there are 250 acts", "no such act", "an act has no such part", "no such hunter", "no such fields", "the text is wrong", "the hunter may not ask about this field", "there are 8 questions", "no such question", "no such who or tick", "no such gap"]
/-- the String constants, the statics: outside A, as the heap H has them -/
def SX (adK adV : Nat → Nat) (A : Nat → Prop) (U : State) (H : Heap) : Prop :=
  vk_S 9 lenG bytG adK adV A U H ∧ (∀ i, i < 9 → vk_R RX4 (ixG.getD i 0) (txG.getD i "") (adK i) U) ∧ (∀ j, j < 14 → ∃ sa, vk_R RX8 (ixM.getD j 0) (txM.getD j "") sa U) ∧ va_Z "java/lang/String" "COMPACT_STRINGS" "Z" (.int 1) A U H ∧ va_Zq "jdk/internal/util/Preconditions" "SIOOBE_FORMATTER" "Ljava/util/function/BiFunction;" A U H ∧ vx_Zq Bundle.tN "UNASSIGNED_STACK" Bundle.steD A U H ∧ vx_Zq Bundle.tN "SUPPRESSED_SENTINEL" Bundle.listD A U H
theorem SX.next {adK adV : Nat → Nat} {A B : Nat → Prop} {s U : State} {H : Heap} (h : SX adK adV A s s.heap) (hW : s.WarmedH U.vm) (hU : U.heap = H) (hk : ∀ a : Nat, a < s.heap.size → ¬ A a → H[a]? = s.heap[a]?) (hAB : ∀ q, B q → A q) : SX adK adV B U U.heap := by
  obtain ⟨h1, h2, h3, h4, h5, h6, h7⟩ := h
  rw [hU]
  exact ⟨((h1.kept hk).narrow hAB).moved hW.alike, fun i hi => (h2 i hi).warm hW, fun j hj => (h3 j hj).elim fun sa hs => ⟨sa, hs.warm hW⟩, ((h4.kept hk).narrow hAB).moved hW.alike, ((h5.kept hk).narrow hAB).moved hW.alike, ((h6.kept hk).narrow hAB).moved hW.alike, ((h7.kept hk).narrow hAB).moved hW.alike⟩
theorem SX.call {adK adV : Nat → Nat} {A : Nat → Prop} {U U2 : State} (hv : U2.vm = U.vm) (hh : U2.heap = U.heap) (h : SX adK adV A U U.heap) : SX adK adV A U2 U2.heap := by
  obtain ⟨h1, h2, h3, h4, h5, h6, h7⟩ := h
  have ha : U.vm.Alike U2.vm := by rw [hv]; exact Vm.Alike.refl _
  rw [hh]
  exact ⟨h1.moved ha, fun i hi => (h2 i hi).same hv, fun j hj => (h3 j hj).elim fun sa hs => ⟨sa, hs.same hv⟩, h4.moved ha, h5.moved ha, h6.moved ha, h7.moved ha⟩
/-- a JDK method over constants: it changes nothing that was there -/
def JP (adK adV : Nat → Nat) (sz : Nat) (U : State) : Prop := U.heap.size = sz ∧ SX adK adV (fun q => sz ≤ q) U U.heap
theorem JP_blind {adK adV : Nat → Nat} {sz : Nat} {av : List Value} : FrameBlind (va_Pc av (JP adK adV sz)) := fun a U g mk q => ⟨q.1, q.2.1, SX.call (U := U) (U2 := U.calling g mk a) rfl rfl q.2.2⟩
abbrev JQ (v : Int32) (sz : Nat) : Array Value → State → Outcome → State → Prop := va_Qi (fun (r : Int32) (_ : Unit) => r = v) (fun _ _ => True) (fun q => sz ≤ q)
abbrev JV (sz : Nat) : Array Value → State → Outcome → State → Prop := va_Qv (fun (_ : Unit) => True) (fun _ _ => True) (fun q => sz ≤ q)
section GJ
variable {p : Program} {l : Launch} {e : Env} {R : Room} {s : State} {m : MethodId} {args : Array Value} {below : List Frame} {meth : Method} {c : Code} {H : Heap} {locs : List Loc} {cells slots : Nat} {Q : State → Prop}
variable {cc : ByteArray} {pc : Nat} {ls : Array Slot} {rest : List Value} {A : Nat → Prop} {own : String} {nL : Nat} {adK adV : Nat → Nat}
theorem SX.jp (h : SX adK adV A s s.heap) (hS : va_S A s.heap H locs) (hA : ∀ q, s.heap.size ≤ q → A q) {U : State} (hU : U.heap = H) (hW : s.WarmedH U.vm) : JP adK adV H.size U := ⟨by rw [hU], h.next hW hU hS.2.1 (fun q hq => hA q (Nat.le_trans hS.1 hq))⟩
theorem j_runV (M : MC p m c cc nL s args own) (hX : SX adK adV A s s.heap) (hS : va_S A s.heap H locs) (hA : ∀ q, s.heap.size ≤ q → A q) {w : Nat} (hw : w < 9) {y : MethodName} {index maxL n cn : Nat} {bytes : ByteArray} {ret : Option FieldType} {rm : Room} {As st : List Value} {Qc : Array Value → State → Outcome → State → Prop} {free : Addr → Prop}
    (hM : Met l y (.code y bytes maxL ret :: Gw) rm (va_Pc (.ref (adK w) :: As) (JP adK adV H.size)) Qc rm.cells rm.slots free) (hwm : Cond.methodLink own index y ∈ Gw) (hwi : Cond.instanceMethod y ∈ Gw) (hws : Cond.selects RJ0 y y ∈ Gw) (hwn : Cond.initialized RJ0 ∈ Gw) (hwc : Cond.code y bytes maxL ret ∈ Gw)
    (hd : y.cls = RJ0 ∧ y.cls ≠ "java/lang/invoke/MethodHandle" ∧ y.cls ≠ "java/lang/invoke/VarHandle" ∧ (parseMethodDescriptor y.desc).map (fun d => d.parameters.length) = some n) (hR : rm.frames + 1 ≤ R.frames ∧ 8 + (maxL + 11) + rm.locals ≤ R.locals) (hf : cells + rm.cells ≤ R.cells ∧ slots + rm.slots ≤ R.slots)
    (hn : As.length = n) (hl : ls.size = nL) (hst : st = As.reverse ++ .ref (adK w) :: rest) (hct : ct rest cn) (hcn : cn ≤ 8) (hdg : decode cc pc = .ok (.invokevirtual index, 3)) :
    va_Run p l e R s m args below meth c H locs cells slots rm.cells rm.slots (F0 m pc ls st) rest (Qc (Value.ref (adK w) :: As).toArray) free := by
  refine va_runV M hM (cwV n M.2.2.2.2 (gG fun x hx => ?_) rfl rfl rfl hd hR) ⟨JP_blind, vk_recv hX.1 hw hS, fun U hU hW => ⟨rfl, hX.jp hS hA hU hW⟩⟩ rfl hn hl hst (lv_room (by have := hct; unfold ct at this; omega)) hdg hf
  unfold wsV at hx
  rcases List.mem_append.mp hx with h | h
  · simp only [List.mem_cons, List.not_mem_nil, or_false] at h
    rcases h with rfl | rfl | rfl | rfl
    · exact hwm
    · exact hwi
    · exact hws
    · exact hwn
  · exact gGc hwc x h
theorem j_runS (M : MC p m c cc nL s args own) (hX : SX adK adV A s s.heap) (hS : va_S A s.heap H locs) (hA : ∀ q, s.heap.size ≤ q → A q) {y : MethodName} {index maxL n cn : Nat} {bytes : ByteArray} {ret : Option FieldType} {rm : Room} {As st : List Value} {Qc : Array Value → State → Outcome → State → Prop} {free : Addr → Prop}
    (hM : Met l y (.code y bytes maxL ret :: Gw) rm (va_Pc As (JP adK adV H.size)) Qc rm.cells rm.slots free) (hwm : Cond.methodLink own index y ∈ Gw) (hws : Cond.static y ∈ Gw) (hwn : Cond.initialized y.cls ∈ Gw) (hwc : Cond.code y bytes maxL ret ∈ Gw)
    (hd : y.cls ≠ "java/lang/invoke/MethodHandle" ∧ y.cls ≠ "java/lang/invoke/VarHandle" ∧ (parseMethodDescriptor y.desc).map (fun d => d.parameters.length) = some n) (hR : rm.frames + 1 ≤ R.frames ∧ 8 + (maxL + 11) + rm.locals ≤ R.locals) (hf : cells + rm.cells ≤ R.cells ∧ slots + rm.slots ≤ R.slots)
    (hn : As.length = n) (hl : ls.size = nL) (hst : st = As.reverse ++ rest) (hct : ct rest cn) (hcn : cn ≤ 8) (hdg : decode cc pc = .ok (.invokestatic index, 3)) :
    va_Run p l e R s m args below meth c H locs cells slots rm.cells rm.slots (F0 m pc ls st) rest (Qc As.toArray) free := by
  refine va_runS M hM (va_cwS n M.2.2.2.2 (gG fun x hx => ?_) rfl rfl rfl hd hR) ⟨JP_blind, fun U hU hW => ⟨rfl, hX.jp hS hA hU hW⟩⟩ rfl hn hl hst (lv_room (by have := hct; unfold ct at this; omega)) hdg hf
  unfold va_wsS at hx
  rcases List.mem_append.mp hx with h | h
  · simp only [List.mem_cons, List.not_mem_nil, or_false] at h
    rcases h with rfl | rfl | rfl
    · exact hwm
    · exact hws
    · exact hwn
  · exact gGc hwc x h
theorem j_calli {v : Int32} {av : Array Value} {st : List Value} (hS : va_S A s.heap H locs) (hA : ∀ q, s.heap.size ≤ q → A q) (hr : va_Run p l e R s m args below meth c H locs cells slots 0 0 (F0 m pc ls st) rest (JQ v H.size av) (fun q => H.size ≤ q)) (kk : ∀ (H1 : Heap) (locs1 : List Loc), H.size ≤ H1.size → (∀ q : Nat, q < H.size → H1[q]? = H[q]?) → va_S A s.heap H1 locs1 → W p l e R s m args below meth c H1 locs1 cells slots Q (F0 m (pc + 3) ls (.int v :: rest))) : W p l e R s m args below meth c H locs cells slots Q (F0 m pc ls st) :=
  va_calli hr hS (fun q h1 h2 => absurd h2 (Nat.not_le.mpr h1)) (fun q h => hA q (Nat.le_trans hS.1 h)) (fun r u t H1 locs1 ht hvm hp hB hz hk hS1 => by subst hp; exact kk H1 locs1 hz (fun q hq => hk q hq (Nat.not_le.mpr hq)) hS1)
theorem j_callv {av : Array Value} {st : List Value} (hS : va_S A s.heap H locs) (hA : ∀ q, s.heap.size ≤ q → A q) (hr : va_Run p l e R s m args below meth c H locs cells slots 0 0 (F0 m pc ls st) rest (JV H.size av) (fun q => H.size ≤ q)) (kk : ∀ (H1 : Heap) (locs1 : List Loc), H.size ≤ H1.size → (∀ q : Nat, q < H.size → H1[q]? = H[q]?) → va_S A s.heap H1 locs1 → W p l e R s m args below meth c H1 locs1 cells slots Q (F0 m (pc + 3) ls rest)) : W p l e R s m args below meth c H locs cells slots Q (F0 m pc ls st) :=
  va_callv hr hS (fun q h1 h2 => absurd h2 (Nat.not_le.mpr h1)) (fun q h => hA q (Nat.le_trans hS.1 h)) (fun u t H1 locs1 ht hvm hp hB hz hk hS1 => kk H1 locs1 hz (fun q hq => hk q hq (Nat.not_le.mpr hq)) hS1)
end GJ
theorem j_in {w k : Nat} {i : Int32} (hi : vp_in i k) (hk : k < 2 ^ 31) : ¬ i < 0 ∧ i < nI k := by
  obtain ⟨j, hj, rfl⟩ := vp_in_of hi hk
  exact ⟨nI_pos (by omega), nI_lt hj hk⟩
theorem lenG_lt (w : Nat) : lenG.getD w 0 < 2 ^ 31 := by
  by_cases h : w < 9
  · have : ∀ w, w < 9 → lenG.getD w 0 < 2 ^ 31 := by decide
    exact this w h
  · rw [List.getD_eq_getElem?_getD, List.getElem?_eq_none (by show 9 ≤ w; omega)]
    decide
def chG (w : Nat) (i : Int32) : Int32 := (bytG.getD w []).getD i.toNatClampNeg 0
theorem chG_c {w : Nat} (hw : w < 9) {i : Int32} (hi : vp_in i (lenG.getD w 0)) : ((chG w i &&& 255).toUInt32 % 65536).toInt32 = chG w i ∧ narrow .char (.int (chG w i)) = .int (chG w i) := by
  obtain ⟨j, hj, rfl⟩ := vp_in_of hi (lenG_lt w)
  have key : ∀ w, w < 9 → ∀ j, j < lenG.getD w 0 → ((((bytG.getD w []).getD j 0) &&& 255).toUInt32 % 65536).toInt32 = (bytG.getD w []).getD j 0 ∧ narrow .char (.int ((bytG.getD w []).getD j 0)) = .int ((bytG.getD w []).getD j 0) := by decide +kernel
  have e : chG w (nI j) = (bytG.getD w []).getD j 0 := by unfold chG; rw [nI_clamp (by have := lenG_lt w; omega)]
  rw [e]
  exact key w hw j hj

def rmJ0_coder_7d493 : Room := { frames := 0, cells := 0, slots := 0, locals := 0 }
set_option maxRecDepth 100000 in
set_option maxHeartbeats 4000000 in
theorem kJ0_coder_7d493 (l : Launch) (adK adV : Nat → Nat) {w : Nat} (hw : w < 9) : ∀ sz, Met l yJ0_coder_7d493 (.code yJ0_coder_7d493 cJ0_coder_7d493 1 (some .byte) :: Gw) rmJ0_coder_7d493 (va_Pc [va_rf (some (adK w))] (JP adK adV sz)) (JQ 0 sz) 0 0 (fun q => sz ≤ q) := by
  intro sz
  refine Met.ofW (cc := cJ0_coder_7d493) (maxL := 1) (ret := (some .byte)) (by decide) rfl ?_
  intro p e s m args below meth c s₁ B0 hml hv
  obtain ⟨rfl, hsz, hX⟩ := hv
  have hts := atoms_spec (ws := .code yJ0_coder_7d493 cJ0_coder_7d493 1 (some .byte) :: Gw) B0.pre
  obtain rfl : s.heap.size = sz := hsz
  have M : MC p m c cJ0_coder_7d493 1 s _ RJ0 := ⟨B0.exec, B0.bytes, hml, findClass_of_methodNamed B0.named, fun w hw => hts w (List.mem_cons_of_mem _ hw)⟩
  have hr := B0.returns
  have hlk := B0.notSynchronized
  have hA : ∀ q : Nat, s.heap.size ≤ q → (fun q => s.heap.size ≤ q) q := fun _ h => h
  have hS : va_S (fun q => s.heap.size ≤ q) s.heap s.heap [] := va_S.rf
  have hl := lv_entry [va_rf (some (adK w))] (n := 1) (by rw [sl_r, sl_0]; decide)
  rw [lg_entry_eq]
  rw [la_r, la_0] at hl
  generalize (lg_sl [va_rf (some (adK w))] ++ List.replicate (1 - (lg_sl [va_rf (some (adK w))]).length) Slot.unset).toArray = ls at hl ⊢
  refine va_gets M.1 M.2.1 hX.2.2.2.1 hS M.2.2.2.1 (M.2.2.2.2 _ wfJ0_38) (fun _ h => h) dJ0_coder_7d493_0 ?_
  refine lv_if_eq (tgt := 13) M.1 M.2.1 dJ0_coder_7d493_3 (by decide) (fun c => absurd c (by decide)) (fun _ => ?_)
  refine g_aload_n M dJ0_coder_7d493_6 rfl (lv_at hl 0 rfl) ?_
  refine vk_getf M.1 M.2.1 (hX.1.1 w hw).2.1 hS M.2.2.2.1 (M.2.2.2.2 _ wfJ0_15) (fun _ h => h) dJ0_coder_7d493_7 ?_
  refine lv_goto (tgt := 14) M.1 M.2.1 dJ0_coder_7d493_10 (by decide) ?_
  exact W.zret (ty := .byte) M.1 M.2.1 hr rfl (fun t ht hW => ⟨⟨_, (), rfl, rfl, trivial⟩, hS.F ht⟩) hS.2.2 dJ0_coder_7d493_14 hlk
def rmJ0_isLatin1_aae02 : Room := { frames := 0, cells := 0, slots := 0, locals := 0 }
set_option maxRecDepth 100000 in
set_option maxHeartbeats 4000000 in
theorem kJ0_isLatin1_aae02 (l : Launch) (adK adV : Nat → Nat) {w : Nat} (hw : w < 9) : ∀ sz, Met l yJ0_isLatin1_aae02 (.code yJ0_isLatin1_aae02 cJ0_isLatin1_aae02 1 (some .boolean) :: Gw) rmJ0_isLatin1_aae02 (va_Pc [va_rf (some (adK w))] (JP adK adV sz)) (JQ 1 sz) 0 0 (fun q => sz ≤ q) := by
  intro sz
  refine Met.ofW (cc := cJ0_isLatin1_aae02) (maxL := 1) (ret := (some .boolean)) (by decide) rfl ?_
  intro p e s m args below meth c s₁ B0 hml hv
  obtain ⟨rfl, hsz, hX⟩ := hv
  have hts := atoms_spec (ws := .code yJ0_isLatin1_aae02 cJ0_isLatin1_aae02 1 (some .boolean) :: Gw) B0.pre
  obtain rfl : s.heap.size = sz := hsz
  have M : MC p m c cJ0_isLatin1_aae02 1 s _ RJ0 := ⟨B0.exec, B0.bytes, hml, findClass_of_methodNamed B0.named, fun w hw => hts w (List.mem_cons_of_mem _ hw)⟩
  have hr := B0.returns
  have hlk := B0.notSynchronized
  have hA : ∀ q : Nat, s.heap.size ≤ q → (fun q => s.heap.size ≤ q) q := fun _ h => h
  have hS : va_S (fun q => s.heap.size ≤ q) s.heap s.heap [] := va_S.rf
  have hl := lv_entry [va_rf (some (adK w))] (n := 1) (by rw [sl_r, sl_0]; decide)
  rw [lg_entry_eq]
  rw [la_r, la_0] at hl
  generalize (lg_sl [va_rf (some (adK w))] ++ List.replicate (1 - (lg_sl [va_rf (some (adK w))]).length) Slot.unset).toArray = ls at hl ⊢
  refine va_gets M.1 M.2.1 hX.2.2.2.1 hS M.2.2.2.1 (M.2.2.2.2 _ wfJ0_38) (fun _ h => h) dJ0_isLatin1_aae02_0 ?_
  refine lv_if_eq (tgt := 17) M.1 M.2.1 dJ0_isLatin1_aae02_3 (by decide) (fun c => absurd c (by decide)) (fun _ => ?_)
  refine g_aload_n M dJ0_isLatin1_aae02_6 rfl (lv_at hl 0 rfl) ?_
  refine vk_getf M.1 M.2.1 (hX.1.1 w hw).2.1 hS M.2.2.2.1 (M.2.2.2.2 _ wfJ0_15) (fun _ h => h) dJ0_isLatin1_aae02_7 ?_
  refine lv_if_ne (tgt := 17) M.1 M.2.1 dJ0_isLatin1_aae02_10 (by decide) (fun c => absurd rfl c) (fun _ => ?_)
  refine lv_iconst (v := 1) M.1 M.2.1 dJ0_isLatin1_aae02_13 (by decide) ?_
  refine lv_goto (tgt := 18) M.1 M.2.1 dJ0_isLatin1_aae02_14 (by decide) ?_
  exact W.zret (ty := .boolean) M.1 M.2.1 hr rfl (fun t ht hW => ⟨⟨_, (), rfl, rfl, trivial⟩, hS.F ht⟩) hS.2.2 dJ0_isLatin1_aae02_18 hlk
def rmJ0_length_8abf5 : Room := { frames := 1, cells := 0, slots := 0, locals := 20 }
set_option maxRecDepth 100000 in
set_option maxHeartbeats 4000000 in
theorem kJ0_length_8abf5 (l : Launch) (adK adV : Nat → Nat) {w : Nat} (hw : w < 9) : ∀ sz, Met l yJ0_length_8abf5 (.code yJ0_length_8abf5 cJ0_length_8abf5 1 (some .int) :: Gw) rmJ0_length_8abf5 (va_Pc [va_rf (some (adK w))] (JP adK adV sz)) (JQ (nI (lenG.getD w 0)) sz) 0 0 (fun q => sz ≤ q) := by
  intro sz
  refine Met.ofW (cc := cJ0_length_8abf5) (maxL := 1) (ret := (some .int)) (by decide) rfl ?_
  intro p e s m args below meth c s₁ B0 hml hv
  obtain ⟨rfl, hsz, hX⟩ := hv
  have hts := atoms_spec (ws := .code yJ0_length_8abf5 cJ0_length_8abf5 1 (some .int) :: Gw) B0.pre
  obtain rfl : s.heap.size = sz := hsz
  have M : MC p m c cJ0_length_8abf5 1 s _ RJ0 := ⟨B0.exec, B0.bytes, hml, findClass_of_methodNamed B0.named, fun w hw => hts w (List.mem_cons_of_mem _ hw)⟩
  have hr := B0.returns
  have hlk := B0.notSynchronized
  have hA : ∀ q : Nat, s.heap.size ≤ q → (fun q => s.heap.size ≤ q) q := fun _ h => h
  have hS : va_S (fun q => s.heap.size ≤ q) s.heap s.heap [] := va_S.rf
  have hl := lv_entry [va_rf (some (adK w))] (n := 1) (by rw [sl_r, sl_0]; decide)
  rw [lg_entry_eq]
  rw [la_r, la_0] at hl
  generalize (lg_sl [va_rf (some (adK w))] ++ List.replicate (1 - (lg_sl [va_rf (some (adK w))]).length) Slot.unset).toArray = ls at hl ⊢
  refine g_aload_n M dJ0_length_8abf5_0 rfl (lv_at hl 0 rfl) ?_
  refine vk_getf M.1 M.2.1 (hX.1.1 w hw).2.2.1 hS M.2.2.2.1 (M.2.2.2.2 _ wfJ0_9) (fun _ h => h) dJ0_length_8abf5_1 ?_
  refine va_tlen M.1 M.2.1 (hX.1.1 w hw).2.2.2 hS rfl dJ0_length_8abf5_4 ?_
  refine g_aload_n M dJ0_length_8abf5_5 rfl (lv_at hl 0 rfl) ?_
  refine j_calli hS hA (j_runV (n := 0) (As := []) (rm := rmJ0_coder_7d493) M hX hS hA hw (kJ0_coder_7d493 l adK adV hw _) wmJ0_335 wiJ0_coder_7d493 wsJ0_coder_7d493 wnJ0 wcdJ0_coder_7d493 ⟨rfl, by decide, by decide, by decide +kernel⟩ ⟨by decide, by decide⟩ ⟨by decide, by decide⟩ rfl hl.1 rfl (ct_i ct_0) (by decide) dJ0_length_8abf5_6) (fun H locs hz hk hS => ?_)
  refine lv_ishr M.1 M.2.1 dJ0_length_8abf5_9 ?_
  exact W.iret M.1 M.2.1 hr (fun t ht hW => ⟨⟨_, (), rfl, sc_shr0 (lenG_lt w), trivial⟩, hS.F ht⟩) hS.2.2 dJ0_length_8abf5_10 hlk
def rmJ3_checkIndex_8e157 : Room := { frames := 0, cells := 0, slots := 0, locals := 0 }
set_option maxRecDepth 100000 in
set_option maxHeartbeats 4000000 in
theorem kJ3_checkIndex_8e157 (l : Launch) (adK adV : Nat → Nat) {i n : Int32} {r : Option Nat} (h0 : ¬ i < 0) (h1 : i < n) : ∀ sz, Met l yJ3_checkIndex_8e157 (.code yJ3_checkIndex_8e157 cJ3_checkIndex_8e157 3 (some .int) :: Gw) rmJ3_checkIndex_8e157 (va_Pc [.int i, .int n, va_rf r] (JP adK adV sz)) (JQ i sz) 0 0 (fun q => sz ≤ q) := by
  intro sz
  refine Met.ofW (cc := cJ3_checkIndex_8e157) (maxL := 3) (ret := (some .int)) (by decide) rfl ?_
  intro p e s m args below meth c s₁ B0 hml hv
  obtain ⟨rfl, hsz, hX⟩ := hv
  have hts := atoms_spec (ws := .code yJ3_checkIndex_8e157 cJ3_checkIndex_8e157 3 (some .int) :: Gw) B0.pre
  obtain rfl : s.heap.size = sz := hsz
  have M : MC p m c cJ3_checkIndex_8e157 3 s _ RJ3 := ⟨B0.exec, B0.bytes, hml, findClass_of_methodNamed B0.named, fun w hw => hts w (List.mem_cons_of_mem _ hw)⟩
  have hr := B0.returns
  have hlk := B0.notSynchronized
  have hA : ∀ q : Nat, s.heap.size ≤ q → (fun q => s.heap.size ≤ q) q := fun _ h => h
  have hS : va_S (fun q => s.heap.size ≤ q) s.heap s.heap [] := va_S.rf
  have hl := lv_entry [.int i, .int n, va_rf r] (n := 3) (by rw [sl_i, sl_i, sl_r, sl_0]; decide)
  rw [lg_entry_eq]
  rw [la_i, la_i, la_r, la_0] at hl
  generalize (lg_sl [.int i, .int n, va_rf r] ++ List.replicate (3 - (lg_sl [.int i, .int n, va_rf r]).length) Slot.unset).toArray = ls at hl ⊢
  refine lv_iload_n M.1 M.2.1 dJ3_checkIndex_8e157_0 rfl (lv_at hl 0 rfl) ?_
  refine lv_if_lt (tgt := 9) M.1 M.2.1 dJ3_checkIndex_8e157_1 (by decide) (fun c => absurd c h0) (fun _ => ?_)
  refine lv_iload_n M.1 M.2.1 dJ3_checkIndex_8e157_4 rfl (lv_at hl 0 rfl) ?_
  refine lv_iload_n M.1 M.2.1 dJ3_checkIndex_8e157_5 rfl (lv_at hl 1 rfl) ?_
  refine lv_icmp_lt (tgt := 16) M.1 M.2.1 dJ3_checkIndex_8e157_6 (by decide) (fun _ => ?_) (fun c => absurd h1 c)
  refine lv_iload_n M.1 M.2.1 dJ3_checkIndex_8e157_16 rfl (lv_at hl 0 rfl) ?_
  exact W.iret M.1 M.2.1 hr (fun t ht hW => ⟨⟨_, (), rfl, rfl, trivial⟩, hS.F ht⟩) hS.2.2 dJ3_checkIndex_8e157_17 hlk
def rmJ0_checkIndex_df160 : Room := { frames := 1, cells := 0, slots := 0, locals := 22 }
set_option maxRecDepth 100000 in
set_option maxHeartbeats 4000000 in
theorem kJ0_checkIndex_df160 (l : Launch) (adK adV : Nat → Nat) {i n : Int32} (h0 : ¬ i < 0) (h1 : i < n) : ∀ sz, Met l yJ0_checkIndex_df160 (.code yJ0_checkIndex_df160 cJ0_checkIndex_df160 2 none :: Gw) rmJ0_checkIndex_df160 (va_Pc [.int i, .int n] (JP adK adV sz)) (JV sz) 0 0 (fun q => sz ≤ q) := by
  intro sz
  refine Met.ofW (cc := cJ0_checkIndex_df160) (maxL := 2) (ret := none) (by decide) rfl ?_
  intro p e s m args below meth c s₁ B0 hml hv
  obtain ⟨rfl, hsz, hX⟩ := hv
  have hts := atoms_spec (ws := .code yJ0_checkIndex_df160 cJ0_checkIndex_df160 2 none :: Gw) B0.pre
  obtain rfl : s.heap.size = sz := hsz
  have M : MC p m c cJ0_checkIndex_df160 2 s _ RJ0 := ⟨B0.exec, B0.bytes, hml, findClass_of_methodNamed B0.named, fun w hw => hts w (List.mem_cons_of_mem _ hw)⟩
  have hr := B0.returns
  have hlk := B0.notSynchronized
  have hA : ∀ q : Nat, s.heap.size ≤ q → (fun q => s.heap.size ≤ q) q := fun _ h => h
  have hS : va_S (fun q => s.heap.size ≤ q) s.heap s.heap [] := va_S.rf
  have hl := lv_entry [.int i, .int n] (n := 2) (by rw [sl_i, sl_i, sl_0]; decide)
  rw [lg_entry_eq]
  rw [la_i, la_i, la_0] at hl
  generalize (lg_sl [.int i, .int n] ++ List.replicate (2 - (lg_sl [.int i, .int n]).length) Slot.unset).toArray = ls at hl ⊢
  refine lv_iload_n M.1 M.2.1 dJ0_checkIndex_df160_0 rfl (lv_at hl 0 rfl) ?_
  refine lv_iload_n M.1 M.2.1 dJ0_checkIndex_df160_1 rfl (lv_at hl 1 rfl) ?_
  obtain ⟨r, hZ⟩ : ∃ r : Option Nat, va_Z "jdk/internal/util/Preconditions" "SIOOBE_FORMATTER" "Ljava/util/function/BiFunction;" (va_rf r) (fun q => s.heap.size ≤ q) s s.heap := by
    rcases hX.2.2.2.2.1 with h | ⟨t, h⟩
    · exact ⟨none, h⟩
    · exact ⟨some t, h⟩
  refine va_gets M.1 M.2.1 hZ hS M.2.2.2.1 (M.2.2.2.2 _ wfJ0_1053) (fun _ h => h) dJ0_checkIndex_df160_2 ?_
  refine j_calli hS hA (j_runS (n := 3) (As := [.int i, .int n, va_rf r]) (rm := rmJ3_checkIndex_8e157) M hX hS hA (kJ3_checkIndex_8e157 l adK adV h0 h1 _) wmJ0_1059 wstJ3_checkIndex_8e157 wnJ3 wcdJ3_checkIndex_8e157 ⟨by decide, by decide, by decide +kernel⟩ ⟨by decide, by decide⟩ ⟨by decide, by decide⟩ rfl hl.1 rfl ct_0 (by decide) dJ0_checkIndex_df160_5) (fun H locs hz hk hS => ?_)
  refine lv_pop M.1 M.2.1 dJ0_checkIndex_df160_8 rfl ?_
  exact W.vret M.1 M.2.1 hr (fun t ht hW => ⟨⟨(), rfl, trivial, trivial⟩, hS.F ht⟩) hS.2.2 dJ0_checkIndex_df160_9 hlk
def rmJ1_charAt_3b067 : Room := { frames := 2, cells := 0, slots := 0, locals := 43 }
set_option maxRecDepth 100000 in
set_option maxHeartbeats 4000000 in
theorem kJ1_charAt_3b067 (l : Launch) (adK adV : Nat → Nat) {w : Nat} (hw : w < 9) {i : Int32} (hi : vp_in i (lenG.getD w 0)) : ∀ sz, Met l yJ1_charAt_3b067 (.code yJ1_charAt_3b067 cJ1_charAt_3b067 2 (some .char) :: Gw) rmJ1_charAt_3b067 (va_Pc [va_rf (some (adV w)), .int i] (JP adK adV sz)) (JQ (chG w i) sz) 0 0 (fun q => sz ≤ q) := by
  intro sz
  refine Met.ofW (cc := cJ1_charAt_3b067) (maxL := 2) (ret := (some .char)) (by decide) rfl ?_
  intro p e s m args below meth c s₁ B0 hml hv
  obtain ⟨rfl, hsz, hX⟩ := hv
  have hts := atoms_spec (ws := .code yJ1_charAt_3b067 cJ1_charAt_3b067 2 (some .char) :: Gw) B0.pre
  obtain rfl : s.heap.size = sz := hsz
  have M : MC p m c cJ1_charAt_3b067 2 s _ RJ1 := ⟨B0.exec, B0.bytes, hml, findClass_of_methodNamed B0.named, fun w hw => hts w (List.mem_cons_of_mem _ hw)⟩
  have hr := B0.returns
  have hlk := B0.notSynchronized
  have hA : ∀ q : Nat, s.heap.size ≤ q → (fun q => s.heap.size ≤ q) q := fun _ h => h
  have hS : va_S (fun q => s.heap.size ≤ q) s.heap s.heap [] := va_S.rf
  have hl := lv_entry [va_rf (some (adV w)), .int i] (n := 2) (by rw [sl_r, sl_i, sl_0]; decide)
  rw [lg_entry_eq]
  rw [la_r, la_i, la_0] at hl
  generalize (lg_sl [va_rf (some (adV w)), .int i] ++ List.replicate (2 - (lg_sl [va_rf (some (adV w)), .int i]).length) Slot.unset).toArray = ls at hl ⊢
  refine lv_iload_n M.1 M.2.1 dJ1_charAt_3b067_0 rfl (lv_at hl 1 rfl) ?_
  refine g_aload_n M dJ1_charAt_3b067_1 rfl (lv_at hl 0 rfl) ?_
  refine va_tlen M.1 M.2.1 (hX.1.1 w hw).2.2.2 hS rfl dJ1_charAt_3b067_2 ?_
  obtain ⟨h0, h1⟩ := j_in (w := w) hi (lenG_lt w)
  refine j_callv hS hA (j_runS (n := 2) (As := [.int i, .int (nI (lenG.getD w 0))]) (rm := rmJ0_checkIndex_df160) M hX hS hA (kJ0_checkIndex_df160 l adK adV h0 h1 _) wmJ1_9 wstJ0_checkIndex_df160 wnJ0 wcdJ0_checkIndex_df160 ⟨by decide, by decide, by decide +kernel⟩ ⟨by decide, by decide⟩ ⟨by decide, by decide⟩ rfl hl.1 rfl ct_0 (by decide) dJ1_charAt_3b067_3) (fun H locs hz hk hS => ?_)
  refine g_aload_n M dJ1_charAt_3b067_6 rfl (lv_at hl 0 rfl) ?_
  refine lv_iload_n M.1 M.2.1 dJ1_charAt_3b067_7 rfl (lv_at hl 1 rfl) ?_
  refine va_tb M.1 M.2.1 (hX.1.1 w hw).2.2.2 hS hi (v := .int (chG w i)) rfl dJ1_charAt_3b067_8 ?_
  refine lv_sipush (v := 255) M.1 M.2.1 dJ1_charAt_3b067_9 (by decide) ?_
  refine lv_iand M.1 M.2.1 dJ1_charAt_3b067_12 ?_
  refine lv_i2c (v := chG w i) M.1 M.2.1 dJ1_charAt_3b067_13 (chG_c hw hi).1 ?_
  exact W.zret (ty := .char) M.1 M.2.1 hr (chG_c hw hi).2 (fun t ht hW => ⟨⟨_, (), rfl, rfl, trivial⟩, hS.F ht⟩) hS.2.2 dJ1_charAt_3b067_14 hlk
def rmJ0_charAt_5068e : Room := { frames := 3, cells := 0, slots := 0, locals := 64 }
set_option maxRecDepth 100000 in
set_option maxHeartbeats 4000000 in
theorem kJ0_charAt_5068e (l : Launch) (adK adV : Nat → Nat) {w : Nat} (hw : w < 9) {i : Int32} (hi : vp_in i (lenG.getD w 0)) : ∀ sz, Met l yJ0_charAt_5068e (.code yJ0_charAt_5068e cJ0_charAt_5068e 2 (some .char) :: Gw) rmJ0_charAt_5068e (va_Pc [va_rf (some (adK w)), .int i] (JP adK adV sz)) (JQ (chG w i) sz) 0 0 (fun q => sz ≤ q) := by
  intro sz
  refine Met.ofW (cc := cJ0_charAt_5068e) (maxL := 2) (ret := (some .char)) (by decide) rfl ?_
  intro p e s m args below meth c s₁ B0 hml hv
  obtain ⟨rfl, hsz, hX⟩ := hv
  have hts := atoms_spec (ws := .code yJ0_charAt_5068e cJ0_charAt_5068e 2 (some .char) :: Gw) B0.pre
  obtain rfl : s.heap.size = sz := hsz
  have M : MC p m c cJ0_charAt_5068e 2 s _ RJ0 := ⟨B0.exec, B0.bytes, hml, findClass_of_methodNamed B0.named, fun w hw => hts w (List.mem_cons_of_mem _ hw)⟩
  have hr := B0.returns
  have hlk := B0.notSynchronized
  have hA : ∀ q : Nat, s.heap.size ≤ q → (fun q => s.heap.size ≤ q) q := fun _ h => h
  have hS : va_S (fun q => s.heap.size ≤ q) s.heap s.heap [] := va_S.rf
  have hl := lv_entry [va_rf (some (adK w)), .int i] (n := 2) (by rw [sl_r, sl_i, sl_0]; decide)
  rw [lg_entry_eq]
  rw [la_r, la_i, la_0] at hl
  generalize (lg_sl [va_rf (some (adK w)), .int i] ++ List.replicate (2 - (lg_sl [va_rf (some (adK w)), .int i]).length) Slot.unset).toArray = ls at hl ⊢
  refine g_aload_n M dJ0_charAt_5068e_0 rfl (lv_at hl 0 rfl) ?_
  refine j_calli hS hA (j_runV (n := 0) (As := []) (rm := rmJ0_isLatin1_aae02) M hX hS hA hw (kJ0_isLatin1_aae02 l adK adV hw _) wmJ0_492 wiJ0_isLatin1_aae02 wsJ0_isLatin1_aae02 wnJ0 wcdJ0_isLatin1_aae02 ⟨rfl, by decide, by decide, by decide +kernel⟩ ⟨by decide, by decide⟩ ⟨by decide, by decide⟩ rfl hl.1 rfl ct_0 (by decide) dJ0_charAt_5068e_1) (fun H locs hz hk hS => ?_)
  refine lv_if_eq (tgt := 16) M.1 M.2.1 dJ0_charAt_5068e_4 (by decide) (fun c => absurd c (by decide)) (fun _ => ?_)
  refine g_aload_n M dJ0_charAt_5068e_7 rfl (lv_at hl 0 rfl) ?_
  refine vk_getf M.1 M.2.1 (hX.1.1 w hw).2.2.1 hS M.2.2.2.1 (M.2.2.2.2 _ wfJ0_9) (fun _ h => h) dJ0_charAt_5068e_8 ?_
  refine lv_iload_n M.1 M.2.1 dJ0_charAt_5068e_11 rfl (lv_at hl 1 rfl) ?_
  refine j_calli hS hA (j_runS (n := 2) (As := [va_rf (some (adV w)), .int i]) (rm := rmJ1_charAt_3b067) M hX hS hA (kJ1_charAt_3b067 l adK adV hw hi _) wmJ0_495 wstJ1_charAt_3b067 wnJ1 wcdJ1_charAt_3b067 ⟨by decide, by decide, by decide +kernel⟩ ⟨by decide, by decide⟩ ⟨by decide, by decide⟩ rfl hl.1 rfl ct_0 (by decide) dJ0_charAt_5068e_12) (fun H locs hz hk hS => ?_)
  exact W.zret (ty := .char) M.1 M.2.1 hr (chG_c hw hi).2 (fun t ht hW => ⟨⟨_, (), rfl, rfl, trivial⟩, hS.F ht⟩) hS.2.2 dJ0_charAt_5068e_15 hlk
