def R_law : String := "LogHuntLaw"
def lw_P (b : Addr) (xs : List Int32) (args : Array Value) (s : State) : Prop := args = #[.ref b] ∧ s.IntsAt b xs ∧ xs.length ≤ 3072 ∧ (Jvm.Cond.and given_1 narrow_1).before args s = true
def lw_Q (_ : Array Value) (s : State) (o : Outcome) (t : State) : Prop := o = .returned (some (.int 1)) ∧ Framed s o t [] 601024 7293034
def lw_Z (below : List Frame) (a : Array Value) (s : State) : State → Prop := fun t => ∃ o, t.status = .running ∧ Ended t below o ∧ lw_Q a s o t
/-- the law's own end, with 1 on the stack, nothing written that was there before, its room as the claim has it -/
theorem lw_ret {p : Program} {l : Launch} {e : Env} {s : State} {m : MethodId} {below : List Frame} {meth : Method} {c : Code} {b : Nat} (hx : p.tables.exec = Jvm.exec) (hb : c.code = code) (hr : meth.sig.returnType = ret) (hlocks : meth.locks = false) {pc : Nat} {H : Heap} {ls : Array Slot} (hdg : decode code pc = .ok (.ireturn, 1)) : W p l e room_1 s m #[Value.ref b] below meth c H [] 601024 7293034 (lw_Z below #[Value.ref b] s) (F0 m pc ls [.int 1]) := by
  intro T hT X
  obtain ⟨fs, hret, hrun, hended, hW, hframe⟩ := X.leave (v := some (.int 1)) (hlocks := hlocks) (fun h => by rw [hr] at h; cases h)
  have hmeth' : T.vm.method? m = some meth := X.method'
  refine ⟨T.setFrames fs, ?_, .returned (some (.int 1)), hrun, hended, rfl, ⟨_, rfl⟩, hW, hframe⟩
  jvm_step X.here [X.here.top, hx, hb, hdg, hmeth', hr, ret, narrow_b1]
  (try refine ⟨rfl, ?_⟩); (try refine ⟨rfl, ?_⟩)
  first | (intro acts; rw [hret _ acts rfl rfl rfl]) | rw [hret _ _ rfl rfl rfl]
  exact Steps.refl _
/-- what holds at the law's entry: the machine, the code, the tables' words (any of lw_tbl by 'hts w (by decide +kernel)'), the script of L ints xs at the cell b, what the Statement gives of the start (any of its parts by flat_of_before) -/
def lw_At (p : Program) (s : State) (m : MethodId) (meth : Method) (c : Code) (b L : Nat) (xs : Nat → Int32) : Prop :=
  p.tables.exec = Jvm.exec ∧ c.code = code ∧ meth.sig.returnType = ret ∧ c.maxLocals = 7 ∧ s.vm.findClass R_law = some m.cls ∧ (∀ w ∈ lw_tbl, w.before #[Value.ref b] s = true) ∧ va_X b L xs s s.heap ∧ b < s.heap.size ∧ meth.locks = false ∧ (Jvm.Cond.and given_1 narrow_1).before #[Value.ref b] s = true
def wL_law_23 (L : Nat) (xs : Nat → Int32) : Nat → Option Nat → Option Nat → Option Nat → Int32 → Pool → Pool → Prop
  | 0 => fun _ _ _ _ _ _ => False
  | n + 1 => fun v1 v2 v3 v4 S T => br (((nI L) - 6) < v4) (True) (xsr L xs v4 fun a2 => br ((a2 &&& 31).toInt < 0 ∨ 18 < (a2 &&& 31).toInt) (wL_law_23 L xs n v1 v2 v3 (v4 + 6) S T) (br ((a2 &&& 31).toInt = 0) (xsr L xs (v4 + 1) fun a4 => xsr L xs (v4 + 2) fun a5 => xsr L xs (v4 + 3) fun a6 => xsr L xs (v4 + 4) fun a7 => xsr L xs (v4 + 5) fun a8 => xrc S v1 8 (wX8_feed (fun a10 S9 => xsr L xs (v4 + 1) fun a11 => xsr L xs (v4 + 2) fun a12 => xsr L xs (v4 + 3) fun a13 => xsr L xs (v4 + 4) fun a14 => xsr L xs (v4 + 5) fun a15 => xrc T v2 9 (wX9_feed (fun a17 T16 => br (a10 = a17) (wL_law_23 L xs n v1 v2 v3 (v4 + 6) S9 T16) (False)) v2 a11 a12 a13 a14 a15 T)) v1 a4 a5 a6 a7 a8 S)) (br ((a2 &&& 31).toInt = 1) (xsr L xs (v4 + 1) fun a20 => xrc S v1 8 (wX8_end (fun a22 S21 => xsr L xs (v4 + 1) fun a23 => xrc T v2 9 (wX9_end (fun a25 T24 => br (a22 = a25) (wL_law_23 L xs n v1 v2 v3 (v4 + 6) S21 T24) (False)) v2 a23 T)) v1 a20 S)) (br ((a2 &&& 31).toInt = 2) (xsr L xs (v4 + 1) fun a28 => wL_ticks (fun a30 S29 => xsr L xs (v4 + 1) fun a31 => xrc T v2 9 (wX9_ticks (fun a33 T32 => xrc T32 v2 9 (wX9_thrown (fun a35 T34 => br (a35 = a30) (br (a30 = 0) (xaJ S29 v3 0 fun a38 => br ((lg_cmp a38 (a33.toInt64)) = 0) (wL_law_23 L xs n v1 v2 v3 (v4 + 6) S29 T34) (False)) (wL_law_23 L xs n v1 v2 v3 (v4 + 6) S29 T34)) (False)) v2 T32)) v2 a31 T)) v1 a28 v3 S) (br ((a2 &&& 31).toInt = 3) (xsr L xs (v4 + 1) fun a41 => xsr L xs (v4 + 2) fun a42 => xsr L xs (v4 + 3) fun a43 => xsr L xs (v4 + 4) fun a44 => xsr L xs (v4 + 5) fun a45 => wL_act (fun a47 S46 => xsr L xs (v4 + 1) fun a48 => xsr L xs (v4 + 2) fun a49 => xsr L xs (v4 + 3) fun a50 => xsr L xs (v4 + 4) fun a51 => xsr L xs (v4 + 5) fun a52 => xrc T v2 9 (wX9_act (fun a54 T53 => xrc T53 v2 9 (wX9_thrown (fun a56 T55 => br (a56 = a47) (br (a47 = 0) (xaJ S46 v3 0 fun a59 => br ((lg_cmp a59 (a54.toInt64)) = 0) (wL_law_23 L xs n v1 v2 v3 (v4 + 6) S46 T55) (False)) (wL_law_23 L xs n v1 v2 v3 (v4 + 6) S46 T55)) (False)) v2 T53)) v2 a48 a49 a50 a51 a52 T)) v1 a41 a42 a43 a44 a45 v3 S) (br ((a2 &&& 31).toInt = 4) (xsr L xs (v4 + 1) fun a62 => xsr L xs (v4 + 2) fun a63 => wL_look (fun a65 S64 => xsr L xs (v4 + 1) fun a66 => xsr L xs (v4 + 2) fun a67 => xrc T v2 9 (wX9_look (fun a69 T68 => xrc T68 v2 9 (wX9_thrown (fun a71 T70 => br (a71 = a65) (br (a65 = 0) (xaJ S64 v3 0 fun a74 => br ((lg_cmp a74 (a69.toInt64)) = 0) (wL_law_23 L xs n v1 v2 v3 (v4 + 6) S64 T70) (False)) (wL_law_23 L xs n v1 v2 v3 (v4 + 6) S64 T70)) (False)) v2 T68)) v2 a66 a67 T)) v1 a62 a63 v3 S) (br ((a2 &&& 31).toInt = 5) (xsr L xs (v4 + 1) fun a77 => xsr L xs (v4 + 2) fun a78 => wL_may (fun a80 S79 => xsr L xs (v4 + 1) fun a81 => xsr L xs (v4 + 2) fun a82 => xrc T v2 9 (wX9_may (fun T83 => xrc T83 v2 9 (wX9_thrown (fun a85 T84 => br (a85 = a80) (wL_law_23 L xs n v1 v2 v3 (v4 + 6) S79 T84) (False)) v2 T83)) v2 a81 a82 T)) v1 a77 a78 S) (br ((a2 &&& 31).toInt = 6) (xsr L xs (v4 + 1) fun a88 => wL_ask (fun a90 S89 => xsr L xs (v4 + 1) fun a91 => xrc T v2 9 (wX9_ask (fun a93 T92 => xrc T92 v2 9 (wX9_thrown (fun a95 T94 => br (a95 = a90) (br (a90 = 0) (xaJ S89 v3 0 fun a98 => br ((lg_cmp a98 (a93.toInt64)) = 0) (wL_law_23 L xs n v1 v2 v3 (v4 + 6) S89 T94) (False)) (wL_law_23 L xs n v1 v2 v3 (v4 + 6) S89 T94)) (False)) v2 T92)) v2 a91 T)) v1 a88 v3 S) (br ((a2 &&& 31).toInt = 7) (xrc S v1 8 (wX8_fault (fun a102 S101 => xrc T v2 9 (wX9_fault (fun a104 T103 => br (a102 = a104) (wL_law_23 L xs n v1 v2 v3 (v4 + 6) S101 T103) (False)) v2 T)) v1 S)) (br ((a2 &&& 31).toInt = 8) (xsr L xs (v4 + 1) fun a107 => xsr L xs (v4 + 2) fun a108 => wL_finds (fun a110 S109 => xsr L xs (v4 + 1) fun a111 => xsr L xs (v4 + 2) fun a112 => xrc T v2 9 (wX9_finds (fun a114 T113 => xrc T113 v2 9 (wX9_thrown (fun a116 T115 => br (a116 = a110) (br (a110 = 0) (xaJ S109 v3 0 fun a119 => br ((lg_cmp a119 (a114.toInt64)) = 0) (wL_law_23 L xs n v1 v2 v3 (v4 + 6) S109 T115) (False)) (wL_law_23 L xs n v1 v2 v3 (v4 + 6) S109 T115)) (False)) v2 T113)) v2 a111 a112 T)) v1 a107 a108 v3 S) (br ((a2 &&& 31).toInt = 9) (xsr L xs (v4 + 1) fun a122 => xsr L xs (v4 + 2) fun a123 => xsr L xs (v4 + 3) fun a124 => wL_found (fun a126 S125 => xsr L xs (v4 + 1) fun a127 => xsr L xs (v4 + 2) fun a128 => xsr L xs (v4 + 3) fun a129 => xrc T v2 9 (wX9_found (fun a131 T130 => xrc T130 v2 9 (wX9_thrown (fun a133 T132 => br (a133 = a126) (br (a126 = 0) (xaJ S125 v3 0 fun a136 => br ((lg_cmp a136 (a131.toInt64)) = 0) (wL_law_23 L xs n v1 v2 v3 (v4 + 6) S125 T132) (False)) (wL_law_23 L xs n v1 v2 v3 (v4 + 6) S125 T132)) (False)) v2 T130)) v2 a127 a128 a129 T)) v1 a122 a123 a124 v3 S) (br ((a2 &&& 31).toInt = 10) (xsr L xs (v4 + 1) fun a139 => xsr L xs (v4 + 2) fun a140 => xsr L xs (v4 + 3) fun a141 => xsr L xs (v4 + 4) fun a142 => wL_proof (fun a144 S143 => xsr L xs (v4 + 1) fun a145 => xsr L xs (v4 + 2) fun a146 => xsr L xs (v4 + 3) fun a147 => xsr L xs (v4 + 4) fun a148 => xrc T v2 9 (wX9_proof (fun a150 T149 => xrc T149 v2 9 (wX9_thrown (fun a152 T151 => br (a152 = a144) (br (a144 = 0) (xaJ S143 v3 0 fun a155 => br ((lg_cmp a155 (a150.toInt64)) = 0) (wL_law_23 L xs n v1 v2 v3 (v4 + 6) S143 T151) (False)) (wL_law_23 L xs n v1 v2 v3 (v4 + 6) S143 T151)) (False)) v2 T149)) v2 a145 a146 a147 a148 T)) v1 a139 a140 a141 a142 v3 S) (br ((a2 &&& 31).toInt = 11) (xsr L xs (v4 + 1) fun a158 => xsr L xs (v4 + 2) fun a159 => xsr L xs (v4 + 3) fun a160 => wL_exempt (fun a162 S161 => xsr L xs (v4 + 1) fun a163 => xsr L xs (v4 + 2) fun a164 => xsr L xs (v4 + 3) fun a165 => xrc T v2 9 (wX9_exempt (fun a167 T166 => xrc T166 v2 9 (wX9_thrown (fun a169 T168 => br (a169 = a162) (br (a162 = 0) (xaJ S161 v3 0 fun a172 => br ((lg_cmp a172 (a167.toInt64)) = 0) (wL_law_23 L xs n v1 v2 v3 (v4 + 6) S161 T168) (False)) (wL_law_23 L xs n v1 v2 v3 (v4 + 6) S161 T168)) (False)) v2 T166)) v2 a163 a164 a165 T)) v1 a158 a159 a160 v3 S) (br ((a2 &&& 31).toInt = 12) (xsr L xs (v4 + 1) fun a175 => xsr L xs (v4 + 2) fun a176 => wL_spared (fun a178 S177 => xsr L xs (v4 + 1) fun a179 => xsr L xs (v4 + 2) fun a180 => xrc T v2 9 (wX9_spared (fun a182 T181 => xrc T181 v2 9 (wX9_thrown (fun a184 T183 => br (a184 = a178) (br (a178 = 0) (xaJ S177 v3 0 fun a187 => br ((lg_cmp a187 (a182.toInt64)) = 0) (wL_law_23 L xs n v1 v2 v3 (v4 + 6) S177 T183) (False)) (wL_law_23 L xs n v1 v2 v3 (v4 + 6) S177 T183)) (False)) v2 T181)) v2 a179 a180 T)) v1 a175 a176 v3 S) (br ((a2 &&& 31).toInt = 13) (xsr L xs (v4 + 1) fun a190 => wL_gap (fun a192 S191 => xsr L xs (v4 + 1) fun a193 => xrc T v2 9 (wX9_gap (fun T194 => xrc T194 v2 9 (wX9_thrown (fun a196 T195 => br (a196 = a192) (wL_law_23 L xs n v1 v2 v3 (v4 + 6) S191 T195) (False)) v2 T194)) v2 a193 T)) v1 a190 S) (br ((a2 &&& 31).toInt = 14) (xrc S v1 8 (wX8_cases (fun a200 S199 => xrc T v2 9 (wX9_cases (fun a202 T201 => br (a200 = a202) (wL_law_23 L xs n v1 v2 v3 (v4 + 6) S199 T201) (False)) v2 T)) v1 S)) (br ((a2 &&& 31).toInt = 15) (xsr L xs (v4 + 1) fun a205 => xsr L xs (v4 + 2) fun a206 => wL_joined (fun a208 S207 => xsr L xs (v4 + 1) fun a209 => xsr L xs (v4 + 2) fun a210 => xrc T v2 9 (wX9_joined (fun a212 T211 => xrc T211 v2 9 (wX9_thrown (fun a214 T213 => br (a214 = a208) (br (a208 = 0) (xaJ S207 v3 0 fun a217 => br ((lg_cmp a217 (a212.toInt64)) = 0) (wL_law_23 L xs n v1 v2 v3 (v4 + 6) S207 T213) (False)) (wL_law_23 L xs n v1 v2 v3 (v4 + 6) S207 T213)) (False)) v2 T211)) v2 a209 a210 T)) v1 a205 a206 v3 S) (br ((a2 &&& 31).toInt = 16) (xsr L xs (v4 + 1) fun a220 => xsr L xs (v4 + 2) fun a221 => wL_cost (fun a223 S222 => xsr L xs (v4 + 1) fun a224 => xsr L xs (v4 + 2) fun a225 => xrc T v2 9 (wX9_cost (fun a227 T226 => xrc T226 v2 9 (wX9_thrown (fun a229 T228 => br (a229 = a223) (br (a223 = 0) (xaJ S222 v3 0 fun a232 => br ((lg_cmp a232 (a227.toInt64)) = 0) (wL_law_23 L xs n v1 v2 v3 (v4 + 6) S222 T228) (False)) (wL_law_23 L xs n v1 v2 v3 (v4 + 6) S222 T228)) (False)) v2 T226)) v2 a224 a225 T)) v1 a220 a221 v3 S) (br ((a2 &&& 31).toInt = 17) (xsr L xs (v4 + 1) fun a235 => xsr L xs (v4 + 2) fun a236 => wL_widest (fun a238 S237 => xsr L xs (v4 + 1) fun a239 => xsr L xs (v4 + 2) fun a240 => xrc T v2 9 (wX9_widest (fun a242 T241 => xrc T241 v2 9 (wX9_thrown (fun a244 T243 => br (a244 = a238) (br (a238 = 0) (xaJ S237 v3 0 fun a247 => br ((lg_cmp a247 (a242.toInt64)) = 0) (wL_law_23 L xs n v1 v2 v3 (v4 + 6) S237 T243) (False)) (wL_law_23 L xs n v1 v2 v3 (v4 + 6) S237 T243)) (False)) v2 T241)) v2 a239 a240 T)) v1 a235 a236 v3 S) (xsr L xs (v4 + 1) fun a250 => xrc S v1 8 (wX8_count (fun a252 S251 => xsr L xs (v4 + 1) fun a253 => xrc T v2 9 (wX9_count (fun a255 T254 => br (a252 = a255) (wL_law_23 L xs n v1 v2 v3 (v4 + 6) S251 T254) (False)) v2 a253 T)) v1 a250 S)))))))))))))))))))))
def wL_law (L : Nat) (xs : Nat → Int32) : Prop := xnw E0 8 fun a1 S2 => xnn a1 (wX8_init (fun S3 => xnw E0 9 fun a4 T5 => xnn a4 (wX9_init (fun T6 => xna S3 16 1 1 fun a7 S8 => ∃ n1, n1 ≤ 1000 ∧ wL_law_23 L xs n1 a1 a4 a7 0 S8 T6) a4 T5)) a1 S2)
section
variable {p : Program} {l : Launch} {e : Env} {s : State} {m : MethodId} {below : List Frame} {meth : Method} {c : Code} {D : va_G} {cy : Nat → ClassId} {adK adV : Nat → Nat} {b L : Nat} {xs : Nat → Int32}
set_option maxRecDepth 100000 in
set_option maxHeartbeats 40000000 in
theorem tL_law_23 (M : MC p m c cL_law 7 s #[Value.ref b] RL) (hr : meth.sig.returnType = ret) (hlk : meth.locks = false) (hX : va_X b L xs s s.heap) (hbl : b < s.heap.size) (X : EX adK adV (fun q => s.heap.size ≤ q) s) (N : NC s) (hl0 : l.stackTraces = false) : ∀ (n : Nat) (v1 v2 v3 : Option Nat) (v4 : Int32) (S T : Pool), wL_law_23 L xs n v1 v2 v3 v4 S T → ∀ (H : Heap) (locs : List Loc) (ls : Array Slot) (cells slots : Nat), cells + 20 * n ≤ 601000 → slots + 200 * n ≤ 7293000 → PB D cy (fun q => s.heap.size ≤ q) s S H locs → PB D cy (fun q => s.heap.size ≤ q) s T H locs → djp S T → lv_has ls 7 [(0, .ref b), (1, va_rf v1), (2, va_rf v2), (3, va_rf v3), (4, .int v4)] → W p l e room_1 s m #[Value.ref b] below meth c H locs cells slots (lw_Z below #[Value.ref b] s) (F0 m 23 ls []) := by
  intro n
  induction n with
  | zero => intro v1 v2 v3 v4 S T h; exact False.elim h
  | succ n ih =>
    intro v1 v2 v3 v4 S T h H locs ls cells slots hc hs B C hd hl
    unfold wL_law_23 at h
    refine lv_iload M.1 M.2.1 dL_law_23 (lv_at hl 4 rfl) ?_
    refine lv_aload_n M.1 M.2.1 dL_law_25 rfl (lv_at hl 0 rfl) ?_
    refine va_slen M.1 M.2.1 hX hbl (Nat.not_le.mpr hbl) B.2.2.1 dL_law_26 ?_
    refine lv_bipush (v := 6) M.1 M.2.1 dL_law_27 (by decide) ?_
    refine lv_isub M.1 M.2.1 dL_law_29 ?_
    refine lv_icmp_gt (tgt := 1247) M.1 M.2.1 dL_law_30 (by decide) (fun c1 => ?_) (fun c1 => ?_)
    · have h := h.1 c1
      refine lv_iconst (v := 1) M.1 M.2.1 dL_law_1247 (by decide) ?_
      refine va_forget B.2.2.1.2.2 ?_
      refine W.widen (k := 601024) (n := 7293034) (by omega) (by omega) ?_
      exact lw_ret M.1 M.2.1 hr hlk dL_law_1248
    · have h := h.2 c1
      refine lv_aload_n M.1 M.2.1 dL_law_33 rfl (lv_at hl 0 rfl) ?_
      refine lv_iload M.1 M.2.1 dL_law_34 (lv_at hl 4 rfl) ?_
      obtain ⟨hi1, h⟩ := h
      refine va_sld M.1 M.2.1 hX hbl (Nat.not_le.mpr hbl) B.2.2.1 hi1 dL_law_36 ?_
      generalize xs (v4).toNatClampNeg = a2 at h ⊢
      refine lv_bipush (v := 31) M.1 M.2.1 dL_law_37 (by decide) ?_
      refine lv_iand M.1 M.2.1 dL_law_39 ?_
      by_cases c3 : (a2 &&& 31).toInt < 0 ∨ 18 < (a2 &&& 31).toInt
      · have h := h.1 c3
        refine lv_tableOut (tgt := 1241) M.1 M.2.1 dL_law_40 c3 (by decide) ?_
        refine lv_iinc (v := v4 + 6) (lv' := [(4, .int (v4 + 6)), (0, .ref b), (1, va_rf v1), (2, va_rf v2), (3, va_rf v3)]) M.1 M.2.1 dL_law_1241 hl (k := 4) rfl rfl (by decide) (fl_e (fl_k rfl rfl (fl_k rfl rfl (fl_k rfl rfl (fl_r rfl (fl_d rfl fl_0)))))) (fun ls hl => ?_)
        refine lv_goto (tgt := 23) M.1 M.2.1 dL_law_1244 (by decide) ?_
        refine W.widen (k := cells + 20) (n := slots + 200) (by omega) (by omega) ?_
        exact ih _ _ _ _ _ _ h _ _ _ _ _ (by omega) (by omega) B C hd (lv_sub hl [1, 2, 3, 4, 0] rfl)
      · have h := h.2 c3
        by_cases c19 : (a2 &&& 31).toInt = 0
        · have h := h.1 c19
          refine lv_tableIn (tgt := 132) (off := 92) M.1 M.2.1 dL_law_40 (fun q => c3 (Or.inl q)) (fun q => c3 (Or.inr q)) (by rw [c19]; rfl) (by decide) ?_
          refine g_aload_n M dL_law_132 rfl (lv_at hl 1 rfl) ?_
          refine lv_aload_n M.1 M.2.1 dL_law_133 rfl (lv_at hl 0 rfl) ?_
          refine lv_iload M.1 M.2.1 dL_law_134 (lv_at hl 4 rfl) ?_
          refine lv_iconst (v := 1) M.1 M.2.1 dL_law_136 (by decide) ?_
          refine lv_iadd M.1 M.2.1 dL_law_137 ?_
          obtain ⟨hi1, h⟩ := h
          refine va_sld M.1 M.2.1 hX hbl (Nat.not_le.mpr hbl) B.2.2.1 hi1 dL_law_138 ?_
          generalize xs (v4 + 1).toNatClampNeg = a4 at h ⊢
          refine lv_aload_n M.1 M.2.1 dL_law_139 rfl (lv_at hl 0 rfl) ?_
          refine lv_iload M.1 M.2.1 dL_law_140 (lv_at hl 4 rfl) ?_
          refine lv_iconst (v := 2) M.1 M.2.1 dL_law_142 (by decide) ?_
          refine lv_iadd M.1 M.2.1 dL_law_143 ?_
          obtain ⟨hi1, h⟩ := h
          refine va_sld M.1 M.2.1 hX hbl (Nat.not_le.mpr hbl) B.2.2.1 hi1 dL_law_144 ?_
          generalize xs (v4 + 2).toNatClampNeg = a5 at h ⊢
          refine lv_aload_n M.1 M.2.1 dL_law_145 rfl (lv_at hl 0 rfl) ?_
          refine lv_iload M.1 M.2.1 dL_law_146 (lv_at hl 4 rfl) ?_
          refine lv_iconst (v := 3) M.1 M.2.1 dL_law_148 (by decide) ?_
          refine lv_iadd M.1 M.2.1 dL_law_149 ?_
          obtain ⟨hi1, h⟩ := h
          refine va_sld M.1 M.2.1 hX hbl (Nat.not_le.mpr hbl) B.2.2.1 hi1 dL_law_150 ?_
          generalize xs (v4 + 3).toNatClampNeg = a6 at h ⊢
          refine lv_aload_n M.1 M.2.1 dL_law_151 rfl (lv_at hl 0 rfl) ?_
          refine lv_iload M.1 M.2.1 dL_law_152 (lv_at hl 4 rfl) ?_
          refine lv_iconst (v := 4) M.1 M.2.1 dL_law_154 (by decide) ?_
          refine lv_iadd M.1 M.2.1 dL_law_155 ?_
          obtain ⟨hi1, h⟩ := h
          refine va_sld M.1 M.2.1 hX hbl (Nat.not_le.mpr hbl) B.2.2.1 hi1 dL_law_156 ?_
          generalize xs (v4 + 4).toNatClampNeg = a7 at h ⊢
          refine lv_aload_n M.1 M.2.1 dL_law_157 rfl (lv_at hl 0 rfl) ?_
          refine lv_iload M.1 M.2.1 dL_law_158 (lv_at hl 4 rfl) ?_
          refine lv_iconst (v := 5) M.1 M.2.1 dL_law_160 (by decide) ?_
          refine lv_iadd M.1 M.2.1 dL_law_161 ?_
          obtain ⟨hi1, h⟩ := h
          refine va_sld M.1 M.2.1 hX hbl (Nat.not_le.mpr hbl) B.2.2.1 hi1 dL_law_162 ?_
          generalize xs (v4 + 5).toNatClampNeg = a8 at h ⊢
          obtain ⟨o1, e1, hL1, hK1, h⟩ := h
          refine w_calli (k1 := cells + 20) (k2 := slots + 200) B C hd (g_runV (n := 5) (As := [.int a4, .int a5, .int a6, .int a7, .int a8]) (rm := rmX8_feed) M B e1 (kX8_feed (v0 := v1) (v1 := a4) (v2 := a5) (v3 := a6) (v4 := a7) (v5 := a8) l D cy h _) wmL_72 wiX8_feed wsX8_feed wnX8 wcdX8_feed ⟨rfl, by decide, by decide, by decide +kernel⟩ ⟨by decide, by decide⟩ ⟨by show cells + 0 ≤ 601024; omega, by show slots + 0 ≤ 7293034; omega⟩ hL1 hK1 (by decide) rfl rfl rfl hl.1 rfl ct_0 (by decide) dL_law_163) (by show cells + 0 ≤ cells + 20; omega) (by show slots + 0 ≤ slots + 200; omega) (fun a10 S9 H locs h B C hd => ?_)
          refine g_aload_n M dL_law_166 rfl (lv_at hl 2 rfl) ?_
          refine lv_aload_n M.1 M.2.1 dL_law_167 rfl (lv_at hl 0 rfl) ?_
          refine lv_iload M.1 M.2.1 dL_law_168 (lv_at hl 4 rfl) ?_
          refine lv_iconst (v := 1) M.1 M.2.1 dL_law_170 (by decide) ?_
          refine lv_iadd M.1 M.2.1 dL_law_171 ?_
          obtain ⟨hi1, h⟩ := h
          refine va_sld M.1 M.2.1 hX hbl (Nat.not_le.mpr hbl) B.2.2.1 hi1 dL_law_172 ?_
          generalize xs (v4 + 1).toNatClampNeg = a11 at h ⊢
          refine lv_aload_n M.1 M.2.1 dL_law_173 rfl (lv_at hl 0 rfl) ?_
          refine lv_iload M.1 M.2.1 dL_law_174 (lv_at hl 4 rfl) ?_
          refine lv_iconst (v := 2) M.1 M.2.1 dL_law_176 (by decide) ?_
          refine lv_iadd M.1 M.2.1 dL_law_177 ?_
          obtain ⟨hi1, h⟩ := h
          refine va_sld M.1 M.2.1 hX hbl (Nat.not_le.mpr hbl) B.2.2.1 hi1 dL_law_178 ?_
          generalize xs (v4 + 2).toNatClampNeg = a12 at h ⊢
          refine lv_aload_n M.1 M.2.1 dL_law_179 rfl (lv_at hl 0 rfl) ?_
          refine lv_iload M.1 M.2.1 dL_law_180 (lv_at hl 4 rfl) ?_
          refine lv_iconst (v := 3) M.1 M.2.1 dL_law_182 (by decide) ?_
          refine lv_iadd M.1 M.2.1 dL_law_183 ?_
          obtain ⟨hi1, h⟩ := h
          refine va_sld M.1 M.2.1 hX hbl (Nat.not_le.mpr hbl) B.2.2.1 hi1 dL_law_184 ?_
          generalize xs (v4 + 3).toNatClampNeg = a13 at h ⊢
          refine lv_aload_n M.1 M.2.1 dL_law_185 rfl (lv_at hl 0 rfl) ?_
          refine lv_iload M.1 M.2.1 dL_law_186 (lv_at hl 4 rfl) ?_
          refine lv_iconst (v := 4) M.1 M.2.1 dL_law_188 (by decide) ?_
          refine lv_iadd M.1 M.2.1 dL_law_189 ?_
          obtain ⟨hi1, h⟩ := h
          refine va_sld M.1 M.2.1 hX hbl (Nat.not_le.mpr hbl) B.2.2.1 hi1 dL_law_190 ?_
          generalize xs (v4 + 4).toNatClampNeg = a14 at h ⊢
          refine lv_aload_n M.1 M.2.1 dL_law_191 rfl (lv_at hl 0 rfl) ?_
          refine lv_iload M.1 M.2.1 dL_law_192 (lv_at hl 4 rfl) ?_
          refine lv_iconst (v := 5) M.1 M.2.1 dL_law_194 (by decide) ?_
          refine lv_iadd M.1 M.2.1 dL_law_195 ?_
          obtain ⟨hi1, h⟩ := h
          refine va_sld M.1 M.2.1 hX hbl (Nat.not_le.mpr hbl) B.2.2.1 hi1 dL_law_196 ?_
          generalize xs (v4 + 5).toNatClampNeg = a15 at h ⊢
          obtain ⟨o1, e1, hL1, hK1, h⟩ := h
          refine w_calli (k1 := cells + 20) (k2 := slots + 200) C B hd.sym (g_runV (n := 5) (As := [.int a11, .int a12, .int a13, .int a14, .int a15]) (rm := rmX9_feed) M C e1 (kX9_feed (v0 := v2) (v1 := a11) (v2 := a12) (v3 := a13) (v4 := a14) (v5 := a15) l D cy h _) wmL_75 wiX9_feed wsX9_feed wnX9 wcdX9_feed ⟨rfl, by decide, by decide, by decide +kernel⟩ ⟨by decide, by decide⟩ ⟨by show cells + 20 + 0 ≤ 601024; omega, by show slots + 200 + 0 ≤ 7293034; omega⟩ hL1 hK1 (by decide) rfl rfl rfl hl.1 rfl (ct_i ct_0) (by decide) dL_law_197) (by show cells + 20 + 0 ≤ cells + 20; omega) (by show slots + 200 + 0 ≤ slots + 200; omega) (fun a17 T16 H locs h C B hdx => ?_)
          have hd := hdx.sym
          refine lv_icmp_eq (tgt := 1241) M.1 M.2.1 dL_law_200 (by decide) (fun c18 => ?_) (fun c18 => ?_)
          · have h := h.1 c18
            refine lv_iinc (v := v4 + 6) (lv' := [(4, .int (v4 + 6)), (0, .ref b), (1, va_rf v1), (2, va_rf v2), (3, va_rf v3)]) M.1 M.2.1 dL_law_1241 hl (k := 4) rfl rfl (by decide) (fl_e (fl_k rfl rfl (fl_k rfl rfl (fl_k rfl rfl (fl_r rfl (fl_d rfl fl_0)))))) (fun ls hl => ?_)
            refine lv_goto (tgt := 23) M.1 M.2.1 dL_law_1244 (by decide) ?_
            exact ih _ _ _ _ _ _ h _ _ _ _ _ (by omega) (by omega) B C hd (lv_sub hl [1, 2, 3, 4, 0] rfl)
          · have h := h.2 c18
            refine lv_iconst (v := 0) M.1 M.2.1 dL_law_203 (by decide) ?_
            exact h.elim
        have h := h.2 c19
        by_cases c27 : (a2 &&& 31).toInt = 1
        · have h := h.1 c27
          refine lv_tableIn (tgt := 205) (off := 165) M.1 M.2.1 dL_law_40 (fun q => c3 (Or.inl q)) (fun q => c3 (Or.inr q)) (by rw [c27]; rfl) (by decide) ?_
          refine g_aload_n M dL_law_205 rfl (lv_at hl 1 rfl) ?_
          refine lv_aload_n M.1 M.2.1 dL_law_206 rfl (lv_at hl 0 rfl) ?_
          refine lv_iload M.1 M.2.1 dL_law_207 (lv_at hl 4 rfl) ?_
          refine lv_iconst (v := 1) M.1 M.2.1 dL_law_209 (by decide) ?_
          refine lv_iadd M.1 M.2.1 dL_law_210 ?_
          obtain ⟨hi1, h⟩ := h
          refine va_sld M.1 M.2.1 hX hbl (Nat.not_le.mpr hbl) B.2.2.1 hi1 dL_law_211 ?_
          generalize xs (v4 + 1).toNatClampNeg = a20 at h ⊢
          obtain ⟨o1, e1, hL1, hK1, h⟩ := h
          refine w_calli (k1 := cells + 20) (k2 := slots + 200) B C hd (g_runV (n := 1) (As := [.int a20]) (rm := rmX8_end) M B e1 (kX8_end (v0 := v1) (v1 := a20) l D cy h _) wmL_76 wiX8_end wsX8_end wnX8 wcdX8_end ⟨rfl, by decide, by decide, by decide +kernel⟩ ⟨by decide, by decide⟩ ⟨by show cells + 0 ≤ 601024; omega, by show slots + 0 ≤ 7293034; omega⟩ hL1 hK1 (by decide) rfl rfl rfl hl.1 rfl ct_0 (by decide) dL_law_212) (by show cells + 0 ≤ cells + 20; omega) (by show slots + 0 ≤ slots + 200; omega) (fun a22 S21 H locs h B C hd => ?_)
          refine g_aload_n M dL_law_215 rfl (lv_at hl 2 rfl) ?_
          refine lv_aload_n M.1 M.2.1 dL_law_216 rfl (lv_at hl 0 rfl) ?_
          refine lv_iload M.1 M.2.1 dL_law_217 (lv_at hl 4 rfl) ?_
          refine lv_iconst (v := 1) M.1 M.2.1 dL_law_219 (by decide) ?_
          refine lv_iadd M.1 M.2.1 dL_law_220 ?_
          obtain ⟨hi1, h⟩ := h
          refine va_sld M.1 M.2.1 hX hbl (Nat.not_le.mpr hbl) B.2.2.1 hi1 dL_law_221 ?_
          generalize xs (v4 + 1).toNatClampNeg = a23 at h ⊢
          obtain ⟨o1, e1, hL1, hK1, h⟩ := h
          refine w_calli (k1 := cells + 20) (k2 := slots + 200) C B hd.sym (g_runV (n := 1) (As := [.int a23]) (rm := rmX9_end) M C e1 (kX9_end (v0 := v2) (v1 := a23) l D cy h _) wmL_80 wiX9_end wsX9_end wnX9 wcdX9_end ⟨rfl, by decide, by decide, by decide +kernel⟩ ⟨by decide, by decide⟩ ⟨by show cells + 20 + 0 ≤ 601024; omega, by show slots + 200 + 0 ≤ 7293034; omega⟩ hL1 hK1 (by decide) rfl rfl rfl hl.1 rfl (ct_i ct_0) (by decide) dL_law_222) (by show cells + 20 + 0 ≤ cells + 20; omega) (by show slots + 200 + 0 ≤ slots + 200; omega) (fun a25 T24 H locs h C B hdx => ?_)
          have hd := hdx.sym
          refine lv_icmp_eq (tgt := 1241) M.1 M.2.1 dL_law_225 (by decide) (fun c26 => ?_) (fun c26 => ?_)
          · have h := h.1 c26
            refine lv_iinc (v := v4 + 6) (lv' := [(4, .int (v4 + 6)), (0, .ref b), (1, va_rf v1), (2, va_rf v2), (3, va_rf v3)]) M.1 M.2.1 dL_law_1241 hl (k := 4) rfl rfl (by decide) (fl_e (fl_k rfl rfl (fl_k rfl rfl (fl_k rfl rfl (fl_r rfl (fl_d rfl fl_0)))))) (fun ls hl => ?_)
            refine lv_goto (tgt := 23) M.1 M.2.1 dL_law_1244 (by decide) ?_
            exact ih _ _ _ _ _ _ h _ _ _ _ _ (by omega) (by omega) B C hd (lv_sub hl [1, 2, 3, 4, 0] rfl)
          · have h := h.2 c26
            refine lv_iconst (v := 0) M.1 M.2.1 dL_law_228 (by decide) ?_
            exact h.elim
        have h := h.2 c27
        by_cases c40 : (a2 &&& 31).toInt = 2
        · have h := h.1 c40
          refine lv_tableIn (tgt := 230) (off := 190) M.1 M.2.1 dL_law_40 (fun q => c3 (Or.inl q)) (fun q => c3 (Or.inr q)) (by rw [c40]; rfl) (by decide) ?_
          refine g_aload_n M dL_law_230 rfl (lv_at hl 1 rfl) ?_
          refine lv_aload_n M.1 M.2.1 dL_law_231 rfl (lv_at hl 0 rfl) ?_
          refine lv_iload M.1 M.2.1 dL_law_232 (lv_at hl 4 rfl) ?_
          refine lv_iconst (v := 1) M.1 M.2.1 dL_law_234 (by decide) ?_
          refine lv_iadd M.1 M.2.1 dL_law_235 ?_
          obtain ⟨hi1, h⟩ := h
          refine va_sld M.1 M.2.1 hX hbl (Nat.not_le.mpr hbl) B.2.2.1 hi1 dL_law_236 ?_
          generalize xs (v4 + 1).toNatClampNeg = a28 at h ⊢
          refine g_aload_n M dL_law_237 rfl (lv_at hl 3 rfl) ?_
          refine w_calll (k1 := cells + 20) (k2 := slots + 200) B C hd (g_runSL (n := 3) (As := [va_rf v1, .int a28, va_rf v3]) (rm := rmL_ticks) M B X N (kL_ticks (v0 := v1) (v1 := a28) (v2 := v3) l D cy adK adV hl0 h _) wmL_81 wstL_ticks wnL wcgL_ticks ⟨by decide, by decide, by decide +kernel⟩ ⟨by decide, by decide⟩ ⟨by show cells + 1 ≤ 601024; omega, by show slots + 6 ≤ 7293034; omega⟩ rfl hl.1 rfl ct_0 (by decide) dL_law_238) (by show cells + 1 ≤ cells + 20; omega) (by show slots + 6 ≤ slots + 200; omega) (fun a30 S29 H locs h B C hd => ?_)
          refine lv_istore (lv' := [(5, .int a30), (0, .ref b), (1, va_rf v1), (2, va_rf v2), (3, va_rf v3), (4, .int v4)]) M.1 M.2.1 dL_law_241 hl (by decide) (fl_e (fl_k rfl rfl (fl_k rfl rfl (fl_k rfl rfl (fl_k rfl rfl (fl_i rfl fl_0)))))) (fun ls hl => ?_)
          refine g_aload_n M dL_law_243 rfl (lv_at hl 3 rfl) ?_
          refine lv_aload_n M.1 M.2.1 dL_law_244 rfl (lv_at hl 1 rfl) ?_
          refine lv_iload M.1 M.2.1 dL_law_245 (lv_at hl 5 rfl) ?_
          refine lv_iconst (v := 1) M.1 M.2.1 dL_law_247 (by decide) ?_
          refine lv_iadd M.1 M.2.1 dL_law_248 ?_
          obtain ⟨hi1, h⟩ := h
          refine va_sld M.1 M.2.1 hX hbl (Nat.not_le.mpr hbl) B.2.2.1 hi1 dL_law_249 ?_
          generalize xs (v4 + 1).toNatClampNeg = a31 at h ⊢
          obtain ⟨o1, e1, hL1, hK1, h⟩ := h
          refine w_calli (k1 := cells + 20) (k2 := slots + 200) C B hd.sym (g_runV (n := 1) (As := [.int a31]) (rm := rmX9_ticks) M C e1 (kX9_ticks (v0 := v2) (v1 := a31) l D cy h _) wmL_86 wiX9_ticks wsX9_ticks wnX9 wcdX9_ticks ⟨rfl, by decide, by decide, by decide +kernel⟩ ⟨by decide, by decide⟩ ⟨by show cells + 20 + 0 ≤ 601024; omega, by show slots + 200 + 0 ≤ 7293034; omega⟩ hL1 hK1 (by decide) rfl rfl rfl hl.1 rfl ct_0 (by decide) dL_law_250) (by show cells + 20 + 0 ≤ cells + 20; omega) (by show slots + 200 + 0 ≤ slots + 200; omega) (fun a33 T32 H locs h C B hdx => ?_)
          have hd := hdx.sym
          refine lv_istore (lv' := [(6, .int a33), (5, .int a30), (0, .ref b), (1, va_rf v1), (2, va_rf v2), (3, va_rf v3), (4, .int v4)]) M.1 M.2.1 dL_law_253 hl (by decide) (fl_e (fl_i rfl (fl_k rfl rfl (fl_k rfl rfl (fl_k rfl rfl (fl_k rfl rfl (fl_k rfl rfl fl_0))))))) (fun ls hl => ?_)
          refine g_aload_n M dL_law_255 rfl (lv_at hl 4 rfl) ?_
          obtain ⟨o1, e1, hL1, hK1, h⟩ := h
          refine w_calli (k1 := cells + 20) (k2 := slots + 200) C B hd.sym (g_runV (n := 0) (As := []) (rm := rmX9_thrown) M C e1 (kX9_thrown (v0 := v2) l D cy h _) wmL_87 wiX9_thrown wsX9_thrown wnX9 wcdX9_thrown ⟨rfl, by decide, by decide, by decide +kernel⟩ ⟨by decide, by decide⟩ ⟨by show cells + 20 + 0 ≤ 601024; omega, by show slots + 200 + 0 ≤ 7293034; omega⟩ hL1 hK1 (by decide) rfl rfl rfl hl.1 rfl ct_0 (by decide) dL_law_256) (by show cells + 20 + 0 ≤ cells + 20; omega) (by show slots + 200 + 0 ≤ slots + 200; omega) (fun a35 T34 H locs h C B hdx => ?_)
          have hd := hdx.sym
          refine lv_iload M.1 M.2.1 dL_law_259 (lv_at hl 1 rfl) ?_
          refine lv_icmp_eq (tgt := 266) M.1 M.2.1 dL_law_261 (by decide) (fun c36 => ?_) (fun c36 => ?_)
          · have h := h.1 c36
            refine lv_iload M.1 M.2.1 dL_law_266 (lv_at hl 1 rfl) ?_
            refine lv_if_ne (tgt := 283) M.1 M.2.1 dL_law_268 (by decide) (fun c37 => ?_) (fun c37 => ?_)
            · have h := h.2 c37
              refine lv_goto (tgt := 1241) M.1 M.2.1 dL_law_283 (by decide) ?_
              refine lv_iinc (v := v4 + 6) (lv' := [(4, .int (v4 + 6)), (6, .int a33), (5, .int a30), (0, .ref b), (1, va_rf v1), (2, va_rf v2), (3, va_rf v3)]) M.1 M.2.1 dL_law_1241 hl (k := 6) rfl rfl (by decide) (fl_e (fl_k rfl rfl (fl_k rfl rfl (fl_k rfl rfl (fl_k rfl rfl (fl_k rfl rfl (fl_r rfl (fl_d rfl fl_0)))))))) (fun ls hl => ?_)
              refine lv_goto (tgt := 23) M.1 M.2.1 dL_law_1244 (by decide) ?_
              exact ih _ _ _ _ _ _ h _ _ _ _ _ (by omega) (by omega) B C hd (lv_sub hl [3, 4, 5, 6, 0] rfl)
            · have h := h.1 c37
              refine g_aload_n M dL_law_271 rfl (lv_at hl 5 rfl) ?_
              refine lv_iconst (v := 0) M.1 M.2.1 dL_law_272 (by decide) ?_
              refine g_lald M B dL_law_273 h (fun a38 h => ?_)
              refine lv_iload M.1 M.2.1 dL_law_274 (lv_at hl 0 rfl) ?_
              refine lv_i2l (v := a33.toInt64) M.1 M.2.1 dL_law_276 rfl ?_
              refine W.lcmp M.1 M.2.1 dL_law_277 ?_
              refine lv_if_eq (tgt := 283) M.1 M.2.1 dL_law_278 (by decide) (fun c39 => ?_) (fun c39 => ?_)
              · have h := h.1 c39
                refine lv_goto (tgt := 1241) M.1 M.2.1 dL_law_283 (by decide) ?_
                refine lv_iinc (v := v4 + 6) (lv' := [(4, .int (v4 + 6)), (6, .int a33), (5, .int a30), (0, .ref b), (1, va_rf v1), (2, va_rf v2), (3, va_rf v3)]) M.1 M.2.1 dL_law_1241 hl (k := 6) rfl rfl (by decide) (fl_e (fl_k rfl rfl (fl_k rfl rfl (fl_k rfl rfl (fl_k rfl rfl (fl_k rfl rfl (fl_r rfl (fl_d rfl fl_0)))))))) (fun ls hl => ?_)
                refine lv_goto (tgt := 23) M.1 M.2.1 dL_law_1244 (by decide) ?_
                exact ih _ _ _ _ _ _ h _ _ _ _ _ (by omega) (by omega) B C hd (lv_sub hl [3, 4, 5, 6, 0] rfl)
              · have h := h.2 c39
                refine lv_iconst (v := 0) M.1 M.2.1 dL_law_281 (by decide) ?_
                exact h.elim
          · have h := h.2 c36
            refine lv_iconst (v := 0) M.1 M.2.1 dL_law_264 (by decide) ?_
            exact h.elim
        have h := h.2 c40
        by_cases c61 : (a2 &&& 31).toInt = 3
        · have h := h.1 c61
          refine lv_tableIn (tgt := 286) (off := 246) M.1 M.2.1 dL_law_40 (fun q => c3 (Or.inl q)) (fun q => c3 (Or.inr q)) (by rw [c61]; rfl) (by decide) ?_
          refine g_aload_n M dL_law_286 rfl (lv_at hl 1 rfl) ?_
          refine lv_aload_n M.1 M.2.1 dL_law_287 rfl (lv_at hl 0 rfl) ?_
          refine lv_iload M.1 M.2.1 dL_law_288 (lv_at hl 4 rfl) ?_
          refine lv_iconst (v := 1) M.1 M.2.1 dL_law_290 (by decide) ?_
          refine lv_iadd M.1 M.2.1 dL_law_291 ?_
          obtain ⟨hi1, h⟩ := h
          refine va_sld M.1 M.2.1 hX hbl (Nat.not_le.mpr hbl) B.2.2.1 hi1 dL_law_292 ?_
          generalize xs (v4 + 1).toNatClampNeg = a41 at h ⊢
          refine lv_aload_n M.1 M.2.1 dL_law_293 rfl (lv_at hl 0 rfl) ?_
          refine lv_iload M.1 M.2.1 dL_law_294 (lv_at hl 4 rfl) ?_
          refine lv_iconst (v := 2) M.1 M.2.1 dL_law_296 (by decide) ?_
          refine lv_iadd M.1 M.2.1 dL_law_297 ?_
          obtain ⟨hi1, h⟩ := h
          refine va_sld M.1 M.2.1 hX hbl (Nat.not_le.mpr hbl) B.2.2.1 hi1 dL_law_298 ?_
          generalize xs (v4 + 2).toNatClampNeg = a42 at h ⊢
          refine lv_aload_n M.1 M.2.1 dL_law_299 rfl (lv_at hl 0 rfl) ?_
          refine lv_iload M.1 M.2.1 dL_law_300 (lv_at hl 4 rfl) ?_
          refine lv_iconst (v := 3) M.1 M.2.1 dL_law_302 (by decide) ?_
          refine lv_iadd M.1 M.2.1 dL_law_303 ?_
          obtain ⟨hi1, h⟩ := h
          refine va_sld M.1 M.2.1 hX hbl (Nat.not_le.mpr hbl) B.2.2.1 hi1 dL_law_304 ?_
          generalize xs (v4 + 3).toNatClampNeg = a43 at h ⊢
          refine lv_aload_n M.1 M.2.1 dL_law_305 rfl (lv_at hl 0 rfl) ?_
          refine lv_iload M.1 M.2.1 dL_law_306 (lv_at hl 4 rfl) ?_
          refine lv_iconst (v := 4) M.1 M.2.1 dL_law_308 (by decide) ?_
          refine lv_iadd M.1 M.2.1 dL_law_309 ?_
          obtain ⟨hi1, h⟩ := h
          refine va_sld M.1 M.2.1 hX hbl (Nat.not_le.mpr hbl) B.2.2.1 hi1 dL_law_310 ?_
          generalize xs (v4 + 4).toNatClampNeg = a44 at h ⊢
          refine lv_aload_n M.1 M.2.1 dL_law_311 rfl (lv_at hl 0 rfl) ?_
          refine lv_iload M.1 M.2.1 dL_law_312 (lv_at hl 4 rfl) ?_
          refine lv_iconst (v := 5) M.1 M.2.1 dL_law_314 (by decide) ?_
          refine lv_iadd M.1 M.2.1 dL_law_315 ?_
          obtain ⟨hi1, h⟩ := h
          refine va_sld M.1 M.2.1 hX hbl (Nat.not_le.mpr hbl) B.2.2.1 hi1 dL_law_316 ?_
          generalize xs (v4 + 5).toNatClampNeg = a45 at h ⊢
          refine g_aload_n M dL_law_317 rfl (lv_at hl 3 rfl) ?_
          refine w_calll (k1 := cells + 20) (k2 := slots + 200) B C hd (g_runSL (n := 7) (As := [va_rf v1, .int a41, .int a42, .int a43, .int a44, .int a45, va_rf v3]) (rm := rmL_act) M B X N (kL_act (v0 := v1) (v1 := a41) (v2 := a42) (v3 := a43) (v4 := a44) (v5 := a45) (v6 := v3) l D cy adK adV hl0 h _) wmL_91 wstL_act wnL wcgL_act ⟨by decide, by decide, by decide +kernel⟩ ⟨by decide, by decide⟩ ⟨by show cells + 1 ≤ 601024; omega, by show slots + 9 ≤ 7293034; omega⟩ rfl hl.1 rfl ct_0 (by decide) dL_law_318) (by show cells + 1 ≤ cells + 20; omega) (by show slots + 9 ≤ slots + 200; omega) (fun a47 S46 H locs h B C hd => ?_)
          refine lv_istore (lv' := [(5, .int a47), (0, .ref b), (1, va_rf v1), (2, va_rf v2), (3, va_rf v3), (4, .int v4)]) M.1 M.2.1 dL_law_321 hl (by decide) (fl_e (fl_k rfl rfl (fl_k rfl rfl (fl_k rfl rfl (fl_k rfl rfl (fl_i rfl fl_0)))))) (fun ls hl => ?_)
          refine g_aload_n M dL_law_323 rfl (lv_at hl 3 rfl) ?_
          refine lv_aload_n M.1 M.2.1 dL_law_324 rfl (lv_at hl 1 rfl) ?_
          refine lv_iload M.1 M.2.1 dL_law_325 (lv_at hl 5 rfl) ?_
          refine lv_iconst (v := 1) M.1 M.2.1 dL_law_327 (by decide) ?_
          refine lv_iadd M.1 M.2.1 dL_law_328 ?_
          obtain ⟨hi1, h⟩ := h
          refine va_sld M.1 M.2.1 hX hbl (Nat.not_le.mpr hbl) B.2.2.1 hi1 dL_law_329 ?_
          generalize xs (v4 + 1).toNatClampNeg = a48 at h ⊢
          refine lv_aload_n M.1 M.2.1 dL_law_330 rfl (lv_at hl 1 rfl) ?_
          refine lv_iload M.1 M.2.1 dL_law_331 (lv_at hl 5 rfl) ?_
          refine lv_iconst (v := 2) M.1 M.2.1 dL_law_333 (by decide) ?_
          refine lv_iadd M.1 M.2.1 dL_law_334 ?_
          obtain ⟨hi1, h⟩ := h
          refine va_sld M.1 M.2.1 hX hbl (Nat.not_le.mpr hbl) B.2.2.1 hi1 dL_law_335 ?_
          generalize xs (v4 + 2).toNatClampNeg = a49 at h ⊢
          refine lv_aload_n M.1 M.2.1 dL_law_336 rfl (lv_at hl 1 rfl) ?_
          refine lv_iload M.1 M.2.1 dL_law_337 (lv_at hl 5 rfl) ?_
          refine lv_iconst (v := 3) M.1 M.2.1 dL_law_339 (by decide) ?_
          refine lv_iadd M.1 M.2.1 dL_law_340 ?_
          obtain ⟨hi1, h⟩ := h
          refine va_sld M.1 M.2.1 hX hbl (Nat.not_le.mpr hbl) B.2.2.1 hi1 dL_law_341 ?_
          generalize xs (v4 + 3).toNatClampNeg = a50 at h ⊢
          refine lv_aload_n M.1 M.2.1 dL_law_342 rfl (lv_at hl 1 rfl) ?_
          refine lv_iload M.1 M.2.1 dL_law_343 (lv_at hl 5 rfl) ?_
          refine lv_iconst (v := 4) M.1 M.2.1 dL_law_345 (by decide) ?_
          refine lv_iadd M.1 M.2.1 dL_law_346 ?_
          obtain ⟨hi1, h⟩ := h
          refine va_sld M.1 M.2.1 hX hbl (Nat.not_le.mpr hbl) B.2.2.1 hi1 dL_law_347 ?_
          generalize xs (v4 + 4).toNatClampNeg = a51 at h ⊢
          refine lv_aload_n M.1 M.2.1 dL_law_348 rfl (lv_at hl 1 rfl) ?_
          refine lv_iload M.1 M.2.1 dL_law_349 (lv_at hl 5 rfl) ?_
          refine lv_iconst (v := 5) M.1 M.2.1 dL_law_351 (by decide) ?_
          refine lv_iadd M.1 M.2.1 dL_law_352 ?_
          obtain ⟨hi1, h⟩ := h
          refine va_sld M.1 M.2.1 hX hbl (Nat.not_le.mpr hbl) B.2.2.1 hi1 dL_law_353 ?_
          generalize xs (v4 + 5).toNatClampNeg = a52 at h ⊢
          obtain ⟨o1, e1, hL1, hK1, h⟩ := h
          refine w_calli (k1 := cells + 20) (k2 := slots + 200) C B hd.sym (g_runV (n := 5) (As := [.int a48, .int a49, .int a50, .int a51, .int a52]) (rm := rmX9_act) M C e1 (kX9_act (v0 := v2) (v1 := a48) (v2 := a49) (v3 := a50) (v4 := a51) (v5 := a52) l D cy h _) wmL_94 wiX9_act wsX9_act wnX9 wcdX9_act ⟨rfl, by decide, by decide, by decide +kernel⟩ ⟨by decide, by decide⟩ ⟨by show cells + 20 + 0 ≤ 601024; omega, by show slots + 200 + 0 ≤ 7293034; omega⟩ hL1 hK1 (by decide) rfl rfl rfl hl.1 rfl ct_0 (by decide) dL_law_354) (by show cells + 20 + 0 ≤ cells + 20; omega) (by show slots + 200 + 0 ≤ slots + 200; omega) (fun a54 T53 H locs h C B hdx => ?_)
          have hd := hdx.sym
          refine lv_istore (lv' := [(6, .int a54), (5, .int a47), (0, .ref b), (1, va_rf v1), (2, va_rf v2), (3, va_rf v3), (4, .int v4)]) M.1 M.2.1 dL_law_357 hl (by decide) (fl_e (fl_i rfl (fl_k rfl rfl (fl_k rfl rfl (fl_k rfl rfl (fl_k rfl rfl (fl_k rfl rfl fl_0))))))) (fun ls hl => ?_)
          refine g_aload_n M dL_law_359 rfl (lv_at hl 4 rfl) ?_
          obtain ⟨o1, e1, hL1, hK1, h⟩ := h
          refine w_calli (k1 := cells + 20) (k2 := slots + 200) C B hd.sym (g_runV (n := 0) (As := []) (rm := rmX9_thrown) M C e1 (kX9_thrown (v0 := v2) l D cy h _) wmL_87 wiX9_thrown wsX9_thrown wnX9 wcdX9_thrown ⟨rfl, by decide, by decide, by decide +kernel⟩ ⟨by decide, by decide⟩ ⟨by show cells + 20 + 0 ≤ 601024; omega, by show slots + 200 + 0 ≤ 7293034; omega⟩ hL1 hK1 (by decide) rfl rfl rfl hl.1 rfl ct_0 (by decide) dL_law_360) (by show cells + 20 + 0 ≤ cells + 20; omega) (by show slots + 200 + 0 ≤ slots + 200; omega) (fun a56 T55 H locs h C B hdx => ?_)
          have hd := hdx.sym
          refine lv_iload M.1 M.2.1 dL_law_363 (lv_at hl 1 rfl) ?_
          refine lv_icmp_eq (tgt := 370) M.1 M.2.1 dL_law_365 (by decide) (fun c57 => ?_) (fun c57 => ?_)
          · have h := h.1 c57
            refine lv_iload M.1 M.2.1 dL_law_370 (lv_at hl 1 rfl) ?_
            refine lv_if_ne (tgt := 387) M.1 M.2.1 dL_law_372 (by decide) (fun c58 => ?_) (fun c58 => ?_)
            · have h := h.2 c58
              refine lv_goto (tgt := 1241) M.1 M.2.1 dL_law_387 (by decide) ?_
              refine lv_iinc (v := v4 + 6) (lv' := [(4, .int (v4 + 6)), (6, .int a54), (5, .int a47), (0, .ref b), (1, va_rf v1), (2, va_rf v2), (3, va_rf v3)]) M.1 M.2.1 dL_law_1241 hl (k := 6) rfl rfl (by decide) (fl_e (fl_k rfl rfl (fl_k rfl rfl (fl_k rfl rfl (fl_k rfl rfl (fl_k rfl rfl (fl_r rfl (fl_d rfl fl_0)))))))) (fun ls hl => ?_)
              refine lv_goto (tgt := 23) M.1 M.2.1 dL_law_1244 (by decide) ?_
              exact ih _ _ _ _ _ _ h _ _ _ _ _ (by omega) (by omega) B C hd (lv_sub hl [3, 4, 5, 6, 0] rfl)
            · have h := h.1 c58
              refine g_aload_n M dL_law_375 rfl (lv_at hl 5 rfl) ?_
              refine lv_iconst (v := 0) M.1 M.2.1 dL_law_376 (by decide) ?_
              refine g_lald M B dL_law_377 h (fun a59 h => ?_)
              refine lv_iload M.1 M.2.1 dL_law_378 (lv_at hl 0 rfl) ?_
              refine lv_i2l (v := a54.toInt64) M.1 M.2.1 dL_law_380 rfl ?_
              refine W.lcmp M.1 M.2.1 dL_law_381 ?_
              refine lv_if_eq (tgt := 387) M.1 M.2.1 dL_law_382 (by decide) (fun c60 => ?_) (fun c60 => ?_)
              · have h := h.1 c60
                refine lv_goto (tgt := 1241) M.1 M.2.1 dL_law_387 (by decide) ?_
                refine lv_iinc (v := v4 + 6) (lv' := [(4, .int (v4 + 6)), (6, .int a54), (5, .int a47), (0, .ref b), (1, va_rf v1), (2, va_rf v2), (3, va_rf v3)]) M.1 M.2.1 dL_law_1241 hl (k := 6) rfl rfl (by decide) (fl_e (fl_k rfl rfl (fl_k rfl rfl (fl_k rfl rfl (fl_k rfl rfl (fl_k rfl rfl (fl_r rfl (fl_d rfl fl_0)))))))) (fun ls hl => ?_)
                refine lv_goto (tgt := 23) M.1 M.2.1 dL_law_1244 (by decide) ?_
                exact ih _ _ _ _ _ _ h _ _ _ _ _ (by omega) (by omega) B C hd (lv_sub hl [3, 4, 5, 6, 0] rfl)
              · have h := h.2 c60
                refine lv_iconst (v := 0) M.1 M.2.1 dL_law_385 (by decide) ?_
                exact h.elim
          · have h := h.2 c57
            refine lv_iconst (v := 0) M.1 M.2.1 dL_law_368 (by decide) ?_
            exact h.elim
        have h := h.2 c61
        by_cases c76 : (a2 &&& 31).toInt = 4
        · have h := h.1 c76
          refine lv_tableIn (tgt := 390) (off := 350) M.1 M.2.1 dL_law_40 (fun q => c3 (Or.inl q)) (fun q => c3 (Or.inr q)) (by rw [c76]; rfl) (by decide) ?_
          refine g_aload_n M dL_law_390 rfl (lv_at hl 1 rfl) ?_
          refine lv_aload_n M.1 M.2.1 dL_law_391 rfl (lv_at hl 0 rfl) ?_
          refine lv_iload M.1 M.2.1 dL_law_392 (lv_at hl 4 rfl) ?_
          refine lv_iconst (v := 1) M.1 M.2.1 dL_law_394 (by decide) ?_
          refine lv_iadd M.1 M.2.1 dL_law_395 ?_
          obtain ⟨hi1, h⟩ := h
          refine va_sld M.1 M.2.1 hX hbl (Nat.not_le.mpr hbl) B.2.2.1 hi1 dL_law_396 ?_
          generalize xs (v4 + 1).toNatClampNeg = a62 at h ⊢
          refine lv_aload_n M.1 M.2.1 dL_law_397 rfl (lv_at hl 0 rfl) ?_
          refine lv_iload M.1 M.2.1 dL_law_398 (lv_at hl 4 rfl) ?_
          refine lv_iconst (v := 2) M.1 M.2.1 dL_law_400 (by decide) ?_
          refine lv_iadd M.1 M.2.1 dL_law_401 ?_
          obtain ⟨hi1, h⟩ := h
          refine va_sld M.1 M.2.1 hX hbl (Nat.not_le.mpr hbl) B.2.2.1 hi1 dL_law_402 ?_
          generalize xs (v4 + 2).toNatClampNeg = a63 at h ⊢
          refine g_aload_n M dL_law_403 rfl (lv_at hl 3 rfl) ?_
          refine w_calll (k1 := cells + 20) (k2 := slots + 200) B C hd (g_runSL (n := 4) (As := [va_rf v1, .int a62, .int a63, va_rf v3]) (rm := rmL_look) M B X N (kL_look (v0 := v1) (v1 := a62) (v2 := a63) (v3 := v3) l D cy adK adV hl0 h _) wmL_95 wstL_look wnL wcgL_look ⟨by decide, by decide, by decide +kernel⟩ ⟨by decide, by decide⟩ ⟨by show cells + 2 ≤ 601024; omega, by show slots + 12 ≤ 7293034; omega⟩ rfl hl.1 rfl ct_0 (by decide) dL_law_404) (by show cells + 2 ≤ cells + 20; omega) (by show slots + 12 ≤ slots + 200; omega) (fun a65 S64 H locs h B C hd => ?_)
          refine lv_istore (lv' := [(5, .int a65), (0, .ref b), (1, va_rf v1), (2, va_rf v2), (3, va_rf v3), (4, .int v4)]) M.1 M.2.1 dL_law_407 hl (by decide) (fl_e (fl_k rfl rfl (fl_k rfl rfl (fl_k rfl rfl (fl_k rfl rfl (fl_i rfl fl_0)))))) (fun ls hl => ?_)
          refine g_aload_n M dL_law_409 rfl (lv_at hl 3 rfl) ?_
          refine lv_aload_n M.1 M.2.1 dL_law_410 rfl (lv_at hl 1 rfl) ?_
          refine lv_iload M.1 M.2.1 dL_law_411 (lv_at hl 5 rfl) ?_
          refine lv_iconst (v := 1) M.1 M.2.1 dL_law_413 (by decide) ?_
          refine lv_iadd M.1 M.2.1 dL_law_414 ?_
          obtain ⟨hi1, h⟩ := h
          refine va_sld M.1 M.2.1 hX hbl (Nat.not_le.mpr hbl) B.2.2.1 hi1 dL_law_415 ?_
          generalize xs (v4 + 1).toNatClampNeg = a66 at h ⊢
          refine lv_aload_n M.1 M.2.1 dL_law_416 rfl (lv_at hl 1 rfl) ?_
          refine lv_iload M.1 M.2.1 dL_law_417 (lv_at hl 5 rfl) ?_
          refine lv_iconst (v := 2) M.1 M.2.1 dL_law_419 (by decide) ?_
          refine lv_iadd M.1 M.2.1 dL_law_420 ?_
          obtain ⟨hi1, h⟩ := h
          refine va_sld M.1 M.2.1 hX hbl (Nat.not_le.mpr hbl) B.2.2.1 hi1 dL_law_421 ?_
          generalize xs (v4 + 2).toNatClampNeg = a67 at h ⊢
          obtain ⟨o1, e1, hL1, hK1, h⟩ := h
          refine w_calli (k1 := cells + 20) (k2 := slots + 200) C B hd.sym (g_runV (n := 2) (As := [.int a66, .int a67]) (rm := rmX9_look) M C e1 (kX9_look (v0 := v2) (v1 := a66) (v2 := a67) l D cy h _) wmL_98 wiX9_look wsX9_look wnX9 wcdX9_look ⟨rfl, by decide, by decide, by decide +kernel⟩ ⟨by decide, by decide⟩ ⟨by show cells + 20 + 0 ≤ 601024; omega, by show slots + 200 + 0 ≤ 7293034; omega⟩ hL1 hK1 (by decide) rfl rfl rfl hl.1 rfl ct_0 (by decide) dL_law_422) (by show cells + 20 + 0 ≤ cells + 20; omega) (by show slots + 200 + 0 ≤ slots + 200; omega) (fun a69 T68 H locs h C B hdx => ?_)
          have hd := hdx.sym
          refine lv_istore (lv' := [(6, .int a69), (5, .int a65), (0, .ref b), (1, va_rf v1), (2, va_rf v2), (3, va_rf v3), (4, .int v4)]) M.1 M.2.1 dL_law_425 hl (by decide) (fl_e (fl_i rfl (fl_k rfl rfl (fl_k rfl rfl (fl_k rfl rfl (fl_k rfl rfl (fl_k rfl rfl fl_0))))))) (fun ls hl => ?_)
          refine g_aload_n M dL_law_427 rfl (lv_at hl 4 rfl) ?_
          obtain ⟨o1, e1, hL1, hK1, h⟩ := h
          refine w_calli (k1 := cells + 20) (k2 := slots + 200) C B hd.sym (g_runV (n := 0) (As := []) (rm := rmX9_thrown) M C e1 (kX9_thrown (v0 := v2) l D cy h _) wmL_87 wiX9_thrown wsX9_thrown wnX9 wcdX9_thrown ⟨rfl, by decide, by decide, by decide +kernel⟩ ⟨by decide, by decide⟩ ⟨by show cells + 20 + 0 ≤ 601024; omega, by show slots + 200 + 0 ≤ 7293034; omega⟩ hL1 hK1 (by decide) rfl rfl rfl hl.1 rfl ct_0 (by decide) dL_law_428) (by show cells + 20 + 0 ≤ cells + 20; omega) (by show slots + 200 + 0 ≤ slots + 200; omega) (fun a71 T70 H locs h C B hdx => ?_)
          have hd := hdx.sym
          refine lv_iload M.1 M.2.1 dL_law_431 (lv_at hl 1 rfl) ?_
          refine lv_icmp_eq (tgt := 438) M.1 M.2.1 dL_law_433 (by decide) (fun c72 => ?_) (fun c72 => ?_)
          · have h := h.1 c72
            refine lv_iload M.1 M.2.1 dL_law_438 (lv_at hl 1 rfl) ?_
            refine lv_if_ne (tgt := 455) M.1 M.2.1 dL_law_440 (by decide) (fun c73 => ?_) (fun c73 => ?_)
            · have h := h.2 c73
              refine lv_goto (tgt := 1241) M.1 M.2.1 dL_law_455 (by decide) ?_
              refine lv_iinc (v := v4 + 6) (lv' := [(4, .int (v4 + 6)), (6, .int a69), (5, .int a65), (0, .ref b), (1, va_rf v1), (2, va_rf v2), (3, va_rf v3)]) M.1 M.2.1 dL_law_1241 hl (k := 6) rfl rfl (by decide) (fl_e (fl_k rfl rfl (fl_k rfl rfl (fl_k rfl rfl (fl_k rfl rfl (fl_k rfl rfl (fl_r rfl (fl_d rfl fl_0)))))))) (fun ls hl => ?_)
              refine lv_goto (tgt := 23) M.1 M.2.1 dL_law_1244 (by decide) ?_
              exact ih _ _ _ _ _ _ h _ _ _ _ _ (by omega) (by omega) B C hd (lv_sub hl [3, 4, 5, 6, 0] rfl)
            · have h := h.1 c73
              refine g_aload_n M dL_law_443 rfl (lv_at hl 5 rfl) ?_
              refine lv_iconst (v := 0) M.1 M.2.1 dL_law_444 (by decide) ?_
              refine g_lald M B dL_law_445 h (fun a74 h => ?_)
              refine lv_iload M.1 M.2.1 dL_law_446 (lv_at hl 0 rfl) ?_
              refine lv_i2l (v := a69.toInt64) M.1 M.2.1 dL_law_448 rfl ?_
              refine W.lcmp M.1 M.2.1 dL_law_449 ?_
              refine lv_if_eq (tgt := 455) M.1 M.2.1 dL_law_450 (by decide) (fun c75 => ?_) (fun c75 => ?_)
              · have h := h.1 c75
                refine lv_goto (tgt := 1241) M.1 M.2.1 dL_law_455 (by decide) ?_
                refine lv_iinc (v := v4 + 6) (lv' := [(4, .int (v4 + 6)), (6, .int a69), (5, .int a65), (0, .ref b), (1, va_rf v1), (2, va_rf v2), (3, va_rf v3)]) M.1 M.2.1 dL_law_1241 hl (k := 6) rfl rfl (by decide) (fl_e (fl_k rfl rfl (fl_k rfl rfl (fl_k rfl rfl (fl_k rfl rfl (fl_k rfl rfl (fl_r rfl (fl_d rfl fl_0)))))))) (fun ls hl => ?_)
                refine lv_goto (tgt := 23) M.1 M.2.1 dL_law_1244 (by decide) ?_
                exact ih _ _ _ _ _ _ h _ _ _ _ _ (by omega) (by omega) B C hd (lv_sub hl [3, 4, 5, 6, 0] rfl)
              · have h := h.2 c75
                refine lv_iconst (v := 0) M.1 M.2.1 dL_law_453 (by decide) ?_
                exact h.elim
          · have h := h.2 c72
            refine lv_iconst (v := 0) M.1 M.2.1 dL_law_436 (by decide) ?_
            exact h.elim
        have h := h.2 c76
        by_cases c87 : (a2 &&& 31).toInt = 5
        · have h := h.1 c87
          refine lv_tableIn (tgt := 458) (off := 418) M.1 M.2.1 dL_law_40 (fun q => c3 (Or.inl q)) (fun q => c3 (Or.inr q)) (by rw [c87]; rfl) (by decide) ?_
          refine g_aload_n M dL_law_458 rfl (lv_at hl 1 rfl) ?_
          refine lv_aload_n M.1 M.2.1 dL_law_459 rfl (lv_at hl 0 rfl) ?_
          refine lv_iload M.1 M.2.1 dL_law_460 (lv_at hl 4 rfl) ?_
          refine lv_iconst (v := 1) M.1 M.2.1 dL_law_462 (by decide) ?_
          refine lv_iadd M.1 M.2.1 dL_law_463 ?_
          obtain ⟨hi1, h⟩ := h
          refine va_sld M.1 M.2.1 hX hbl (Nat.not_le.mpr hbl) B.2.2.1 hi1 dL_law_464 ?_
          generalize xs (v4 + 1).toNatClampNeg = a77 at h ⊢
          refine lv_aload_n M.1 M.2.1 dL_law_465 rfl (lv_at hl 0 rfl) ?_
          refine lv_iload M.1 M.2.1 dL_law_466 (lv_at hl 4 rfl) ?_
          refine lv_iconst (v := 2) M.1 M.2.1 dL_law_468 (by decide) ?_
          refine lv_iadd M.1 M.2.1 dL_law_469 ?_
          obtain ⟨hi1, h⟩ := h
          refine va_sld M.1 M.2.1 hX hbl (Nat.not_le.mpr hbl) B.2.2.1 hi1 dL_law_470 ?_
          generalize xs (v4 + 2).toNatClampNeg = a78 at h ⊢
          refine w_calll (k1 := cells + 20) (k2 := slots + 200) B C hd (g_runSL (n := 3) (As := [va_rf v1, .int a77, .int a78]) (rm := rmL_may) M B X N (kL_may (v0 := v1) (v1 := a77) (v2 := a78) l D cy adK adV hl0 h _) wmL_99 wstL_may wnL wcgL_may ⟨by decide, by decide, by decide +kernel⟩ ⟨by decide, by decide⟩ ⟨by show cells + 1 ≤ 601024; omega, by show slots + 6 ≤ 7293034; omega⟩ rfl hl.1 rfl ct_0 (by decide) dL_law_471) (by show cells + 1 ≤ cells + 20; omega) (by show slots + 6 ≤ slots + 200; omega) (fun a80 S79 H locs h B C hd => ?_)
          refine lv_istore (lv' := [(5, .int a80), (0, .ref b), (1, va_rf v1), (2, va_rf v2), (3, va_rf v3), (4, .int v4)]) M.1 M.2.1 dL_law_474 hl (by decide) (fl_e (fl_k rfl rfl (fl_k rfl rfl (fl_k rfl rfl (fl_k rfl rfl (fl_i rfl fl_0)))))) (fun ls hl => ?_)
          refine g_aload_n M dL_law_476 rfl (lv_at hl 3 rfl) ?_
          refine lv_aload_n M.1 M.2.1 dL_law_477 rfl (lv_at hl 1 rfl) ?_
          refine lv_iload M.1 M.2.1 dL_law_478 (lv_at hl 5 rfl) ?_
          refine lv_iconst (v := 1) M.1 M.2.1 dL_law_480 (by decide) ?_
          refine lv_iadd M.1 M.2.1 dL_law_481 ?_
          obtain ⟨hi1, h⟩ := h
          refine va_sld M.1 M.2.1 hX hbl (Nat.not_le.mpr hbl) B.2.2.1 hi1 dL_law_482 ?_
          generalize xs (v4 + 1).toNatClampNeg = a81 at h ⊢
          refine lv_aload_n M.1 M.2.1 dL_law_483 rfl (lv_at hl 1 rfl) ?_
          refine lv_iload M.1 M.2.1 dL_law_484 (lv_at hl 5 rfl) ?_
          refine lv_iconst (v := 2) M.1 M.2.1 dL_law_486 (by decide) ?_
          refine lv_iadd M.1 M.2.1 dL_law_487 ?_
          obtain ⟨hi1, h⟩ := h
          refine va_sld M.1 M.2.1 hX hbl (Nat.not_le.mpr hbl) B.2.2.1 hi1 dL_law_488 ?_
          generalize xs (v4 + 2).toNatClampNeg = a82 at h ⊢
          obtain ⟨o1, e1, hL1, hK1, h⟩ := h
          refine w_callv (k1 := cells + 20) (k2 := slots + 200) C B hd.sym (g_runV (n := 2) (As := [.int a81, .int a82]) (rm := rmX9_may) M C e1 (kX9_may (v0 := v2) (v1 := a81) (v2 := a82) l D cy h _) wmL_102 wiX9_may wsX9_may wnX9 wcdX9_may ⟨rfl, by decide, by decide, by decide +kernel⟩ ⟨by decide, by decide⟩ ⟨by show cells + 20 + 0 ≤ 601024; omega, by show slots + 200 + 0 ≤ 7293034; omega⟩ hL1 hK1 (by decide) rfl rfl rfl hl.1 rfl ct_0 (by decide) dL_law_489) (by show cells + 20 + 0 ≤ cells + 20; omega) (by show slots + 200 + 0 ≤ slots + 200; omega) (fun T83 H locs h C B hdx => ?_)
          have hd := hdx.sym
          refine g_aload_n M dL_law_492 rfl (lv_at hl 3 rfl) ?_
          obtain ⟨o1, e1, hL1, hK1, h⟩ := h
          refine w_calli (k1 := cells + 20) (k2 := slots + 200) C B hd.sym (g_runV (n := 0) (As := []) (rm := rmX9_thrown) M C e1 (kX9_thrown (v0 := v2) l D cy h _) wmL_87 wiX9_thrown wsX9_thrown wnX9 wcdX9_thrown ⟨rfl, by decide, by decide, by decide +kernel⟩ ⟨by decide, by decide⟩ ⟨by show cells + 20 + 0 ≤ 601024; omega, by show slots + 200 + 0 ≤ 7293034; omega⟩ hL1 hK1 (by decide) rfl rfl rfl hl.1 rfl ct_0 (by decide) dL_law_493) (by show cells + 20 + 0 ≤ cells + 20; omega) (by show slots + 200 + 0 ≤ slots + 200; omega) (fun a85 T84 H locs h C B hdx => ?_)
          have hd := hdx.sym
          refine lv_iload M.1 M.2.1 dL_law_496 (lv_at hl 0 rfl) ?_
          refine lv_icmp_eq (tgt := 503) M.1 M.2.1 dL_law_498 (by decide) (fun c86 => ?_) (fun c86 => ?_)
          · have h := h.1 c86
            refine lv_goto (tgt := 1241) M.1 M.2.1 dL_law_503 (by decide) ?_
            refine lv_iinc (v := v4 + 6) (lv' := [(4, .int (v4 + 6)), (5, .int a80), (0, .ref b), (1, va_rf v1), (2, va_rf v2), (3, va_rf v3)]) M.1 M.2.1 dL_law_1241 hl (k := 5) rfl rfl (by decide) (fl_e (fl_k rfl rfl (fl_k rfl rfl (fl_k rfl rfl (fl_k rfl rfl (fl_r rfl (fl_d rfl fl_0))))))) (fun ls hl => ?_)
            refine lv_goto (tgt := 23) M.1 M.2.1 dL_law_1244 (by decide) ?_
            exact ih _ _ _ _ _ _ h _ _ _ _ _ (by omega) (by omega) B C hd (lv_sub hl [2, 3, 4, 5, 0] rfl)
          · have h := h.2 c86
            refine lv_iconst (v := 0) M.1 M.2.1 dL_law_501 (by decide) ?_
            exact h.elim
        have h := h.2 c87
        by_cases c100 : (a2 &&& 31).toInt = 6
        · have h := h.1 c100
          refine lv_tableIn (tgt := 506) (off := 466) M.1 M.2.1 dL_law_40 (fun q => c3 (Or.inl q)) (fun q => c3 (Or.inr q)) (by rw [c100]; rfl) (by decide) ?_
          refine g_aload_n M dL_law_506 rfl (lv_at hl 1 rfl) ?_
          refine lv_aload_n M.1 M.2.1 dL_law_507 rfl (lv_at hl 0 rfl) ?_
          refine lv_iload M.1 M.2.1 dL_law_508 (lv_at hl 4 rfl) ?_
          refine lv_iconst (v := 1) M.1 M.2.1 dL_law_510 (by decide) ?_
          refine lv_iadd M.1 M.2.1 dL_law_511 ?_
          obtain ⟨hi1, h⟩ := h
          refine va_sld M.1 M.2.1 hX hbl (Nat.not_le.mpr hbl) B.2.2.1 hi1 dL_law_512 ?_
          generalize xs (v4 + 1).toNatClampNeg = a88 at h ⊢
          refine g_aload_n M dL_law_513 rfl (lv_at hl 3 rfl) ?_
          refine w_calll (k1 := cells + 20) (k2 := slots + 200) B C hd (g_runSL (n := 3) (As := [va_rf v1, .int a88, va_rf v3]) (rm := rmL_ask) M B X N (kL_ask (v0 := v1) (v1 := a88) (v2 := v3) l D cy adK adV hl0 h _) wmL_103 wstL_ask wnL wcgL_ask ⟨by decide, by decide, by decide +kernel⟩ ⟨by decide, by decide⟩ ⟨by show cells + 8 ≤ 601024; omega, by show slots + 62 ≤ 7293034; omega⟩ rfl hl.1 rfl ct_0 (by decide) dL_law_514) (by show cells + 8 ≤ cells + 20; omega) (by show slots + 62 ≤ slots + 200; omega) (fun a90 S89 H locs h B C hd => ?_)
          refine lv_istore (lv' := [(5, .int a90), (0, .ref b), (1, va_rf v1), (2, va_rf v2), (3, va_rf v3), (4, .int v4)]) M.1 M.2.1 dL_law_517 hl (by decide) (fl_e (fl_k rfl rfl (fl_k rfl rfl (fl_k rfl rfl (fl_k rfl rfl (fl_i rfl fl_0)))))) (fun ls hl => ?_)
          refine g_aload_n M dL_law_519 rfl (lv_at hl 3 rfl) ?_
          refine lv_aload_n M.1 M.2.1 dL_law_520 rfl (lv_at hl 1 rfl) ?_
          refine lv_iload M.1 M.2.1 dL_law_521 (lv_at hl 5 rfl) ?_
          refine lv_iconst (v := 1) M.1 M.2.1 dL_law_523 (by decide) ?_
          refine lv_iadd M.1 M.2.1 dL_law_524 ?_
          obtain ⟨hi1, h⟩ := h
          refine va_sld M.1 M.2.1 hX hbl (Nat.not_le.mpr hbl) B.2.2.1 hi1 dL_law_525 ?_
          generalize xs (v4 + 1).toNatClampNeg = a91 at h ⊢
          obtain ⟨o1, e1, hL1, hK1, h⟩ := h
          refine w_calli (k1 := cells + 20) (k2 := slots + 200) C B hd.sym (g_runV (n := 1) (As := [.int a91]) (rm := rmX9_ask) M C e1 (kX9_ask (v0 := v2) (v1 := a91) l D cy h _) wmL_105 wiX9_ask wsX9_ask wnX9 wcdX9_ask ⟨rfl, by decide, by decide, by decide +kernel⟩ ⟨by decide, by decide⟩ ⟨by show cells + 20 + 0 ≤ 601024; omega, by show slots + 200 + 0 ≤ 7293034; omega⟩ hL1 hK1 (by decide) rfl rfl rfl hl.1 rfl ct_0 (by decide) dL_law_526) (by show cells + 20 + 0 ≤ cells + 20; omega) (by show slots + 200 + 0 ≤ slots + 200; omega) (fun a93 T92 H locs h C B hdx => ?_)
          have hd := hdx.sym
          refine lv_istore (lv' := [(6, .int a93), (5, .int a90), (0, .ref b), (1, va_rf v1), (2, va_rf v2), (3, va_rf v3), (4, .int v4)]) M.1 M.2.1 dL_law_529 hl (by decide) (fl_e (fl_i rfl (fl_k rfl rfl (fl_k rfl rfl (fl_k rfl rfl (fl_k rfl rfl (fl_k rfl rfl fl_0))))))) (fun ls hl => ?_)
          refine g_aload_n M dL_law_531 rfl (lv_at hl 4 rfl) ?_
          obtain ⟨o1, e1, hL1, hK1, h⟩ := h
          refine w_calli (k1 := cells + 20) (k2 := slots + 200) C B hd.sym (g_runV (n := 0) (As := []) (rm := rmX9_thrown) M C e1 (kX9_thrown (v0 := v2) l D cy h _) wmL_87 wiX9_thrown wsX9_thrown wnX9 wcdX9_thrown ⟨rfl, by decide, by decide, by decide +kernel⟩ ⟨by decide, by decide⟩ ⟨by show cells + 20 + 0 ≤ 601024; omega, by show slots + 200 + 0 ≤ 7293034; omega⟩ hL1 hK1 (by decide) rfl rfl rfl hl.1 rfl ct_0 (by decide) dL_law_532) (by show cells + 20 + 0 ≤ cells + 20; omega) (by show slots + 200 + 0 ≤ slots + 200; omega) (fun a95 T94 H locs h C B hdx => ?_)
          have hd := hdx.sym
          refine lv_iload M.1 M.2.1 dL_law_535 (lv_at hl 1 rfl) ?_
          refine lv_icmp_eq (tgt := 542) M.1 M.2.1 dL_law_537 (by decide) (fun c96 => ?_) (fun c96 => ?_)
          · have h := h.1 c96
            refine lv_iload M.1 M.2.1 dL_law_542 (lv_at hl 1 rfl) ?_
            refine lv_if_ne (tgt := 559) M.1 M.2.1 dL_law_544 (by decide) (fun c97 => ?_) (fun c97 => ?_)
            · have h := h.2 c97
              refine lv_goto (tgt := 1241) M.1 M.2.1 dL_law_559 (by decide) ?_
              refine lv_iinc (v := v4 + 6) (lv' := [(4, .int (v4 + 6)), (6, .int a93), (5, .int a90), (0, .ref b), (1, va_rf v1), (2, va_rf v2), (3, va_rf v3)]) M.1 M.2.1 dL_law_1241 hl (k := 6) rfl rfl (by decide) (fl_e (fl_k rfl rfl (fl_k rfl rfl (fl_k rfl rfl (fl_k rfl rfl (fl_k rfl rfl (fl_r rfl (fl_d rfl fl_0)))))))) (fun ls hl => ?_)
              refine lv_goto (tgt := 23) M.1 M.2.1 dL_law_1244 (by decide) ?_
              exact ih _ _ _ _ _ _ h _ _ _ _ _ (by omega) (by omega) B C hd (lv_sub hl [3, 4, 5, 6, 0] rfl)
            · have h := h.1 c97
              refine g_aload_n M dL_law_547 rfl (lv_at hl 5 rfl) ?_
              refine lv_iconst (v := 0) M.1 M.2.1 dL_law_548 (by decide) ?_
              refine g_lald M B dL_law_549 h (fun a98 h => ?_)
              refine lv_iload M.1 M.2.1 dL_law_550 (lv_at hl 0 rfl) ?_
              refine lv_i2l (v := a93.toInt64) M.1 M.2.1 dL_law_552 rfl ?_
              refine W.lcmp M.1 M.2.1 dL_law_553 ?_
              refine lv_if_eq (tgt := 559) M.1 M.2.1 dL_law_554 (by decide) (fun c99 => ?_) (fun c99 => ?_)
              · have h := h.1 c99
                refine lv_goto (tgt := 1241) M.1 M.2.1 dL_law_559 (by decide) ?_
                refine lv_iinc (v := v4 + 6) (lv' := [(4, .int (v4 + 6)), (6, .int a93), (5, .int a90), (0, .ref b), (1, va_rf v1), (2, va_rf v2), (3, va_rf v3)]) M.1 M.2.1 dL_law_1241 hl (k := 6) rfl rfl (by decide) (fl_e (fl_k rfl rfl (fl_k rfl rfl (fl_k rfl rfl (fl_k rfl rfl (fl_k rfl rfl (fl_r rfl (fl_d rfl fl_0)))))))) (fun ls hl => ?_)
                refine lv_goto (tgt := 23) M.1 M.2.1 dL_law_1244 (by decide) ?_
                exact ih _ _ _ _ _ _ h _ _ _ _ _ (by omega) (by omega) B C hd (lv_sub hl [3, 4, 5, 6, 0] rfl)
              · have h := h.2 c99
                refine lv_iconst (v := 0) M.1 M.2.1 dL_law_557 (by decide) ?_
                exact h.elim
          · have h := h.2 c96
            refine lv_iconst (v := 0) M.1 M.2.1 dL_law_540 (by decide) ?_
            exact h.elim
        have h := h.2 c100
        by_cases c106 : (a2 &&& 31).toInt = 7
        · have h := h.1 c106
          refine lv_tableIn (tgt := 562) (off := 522) M.1 M.2.1 dL_law_40 (fun q => c3 (Or.inl q)) (fun q => c3 (Or.inr q)) (by rw [c106]; rfl) (by decide) ?_
          refine g_aload_n M dL_law_562 rfl (lv_at hl 1 rfl) ?_
          obtain ⟨o1, e1, hL1, hK1, h⟩ := h
          refine w_calli (k1 := cells + 20) (k2 := slots + 200) B C hd (g_runV (n := 0) (As := []) (rm := rmX8_fault) M B e1 (kX8_fault (v0 := v1) l D cy h _) wmL_106 wiX8_fault wsX8_fault wnX8 wcdX8_fault ⟨rfl, by decide, by decide, by decide +kernel⟩ ⟨by decide, by decide⟩ ⟨by show cells + 0 ≤ 601024; omega, by show slots + 0 ≤ 7293034; omega⟩ hL1 hK1 (by decide) rfl rfl rfl hl.1 rfl ct_0 (by decide) dL_law_563) (by show cells + 0 ≤ cells + 20; omega) (by show slots + 0 ≤ slots + 200; omega) (fun a102 S101 H locs h B C hd => ?_)
          refine g_aload_n M dL_law_566 rfl (lv_at hl 2 rfl) ?_
          obtain ⟨o1, e1, hL1, hK1, h⟩ := h
          refine w_calli (k1 := cells + 20) (k2 := slots + 200) C B hd.sym (g_runV (n := 0) (As := []) (rm := rmX9_fault) M C e1 (kX9_fault (v0 := v2) l D cy h _) wmL_109 wiX9_fault wsX9_fault wnX9 wcdX9_fault ⟨rfl, by decide, by decide, by decide +kernel⟩ ⟨by decide, by decide⟩ ⟨by show cells + 20 + 0 ≤ 601024; omega, by show slots + 200 + 0 ≤ 7293034; omega⟩ hL1 hK1 (by decide) rfl rfl rfl hl.1 rfl (ct_i ct_0) (by decide) dL_law_567) (by show cells + 20 + 0 ≤ cells + 20; omega) (by show slots + 200 + 0 ≤ slots + 200; omega) (fun a104 T103 H locs h C B hdx => ?_)
          have hd := hdx.sym
          refine lv_icmp_eq (tgt := 1241) M.1 M.2.1 dL_law_570 (by decide) (fun c105 => ?_) (fun c105 => ?_)
          · have h := h.1 c105
            refine lv_iinc (v := v4 + 6) (lv' := [(4, .int (v4 + 6)), (0, .ref b), (1, va_rf v1), (2, va_rf v2), (3, va_rf v3)]) M.1 M.2.1 dL_law_1241 hl (k := 4) rfl rfl (by decide) (fl_e (fl_k rfl rfl (fl_k rfl rfl (fl_k rfl rfl (fl_r rfl (fl_d rfl fl_0)))))) (fun ls hl => ?_)
            refine lv_goto (tgt := 23) M.1 M.2.1 dL_law_1244 (by decide) ?_
            exact ih _ _ _ _ _ _ h _ _ _ _ _ (by omega) (by omega) B C hd (lv_sub hl [1, 2, 3, 4, 0] rfl)
          · have h := h.2 c105
            refine lv_iconst (v := 0) M.1 M.2.1 dL_law_573 (by decide) ?_
            exact h.elim
        have h := h.2 c106
        by_cases c121 : (a2 &&& 31).toInt = 8
        · have h := h.1 c121
          refine lv_tableIn (tgt := 575) (off := 535) M.1 M.2.1 dL_law_40 (fun q => c3 (Or.inl q)) (fun q => c3 (Or.inr q)) (by rw [c121]; rfl) (by decide) ?_
          refine g_aload_n M dL_law_575 rfl (lv_at hl 1 rfl) ?_
          refine lv_aload_n M.1 M.2.1 dL_law_576 rfl (lv_at hl 0 rfl) ?_
          refine lv_iload M.1 M.2.1 dL_law_577 (lv_at hl 4 rfl) ?_
          refine lv_iconst (v := 1) M.1 M.2.1 dL_law_579 (by decide) ?_
          refine lv_iadd M.1 M.2.1 dL_law_580 ?_
          obtain ⟨hi1, h⟩ := h
          refine va_sld M.1 M.2.1 hX hbl (Nat.not_le.mpr hbl) B.2.2.1 hi1 dL_law_581 ?_
          generalize xs (v4 + 1).toNatClampNeg = a107 at h ⊢
          refine lv_aload_n M.1 M.2.1 dL_law_582 rfl (lv_at hl 0 rfl) ?_
          refine lv_iload M.1 M.2.1 dL_law_583 (lv_at hl 4 rfl) ?_
          refine lv_iconst (v := 2) M.1 M.2.1 dL_law_585 (by decide) ?_
          refine lv_iadd M.1 M.2.1 dL_law_586 ?_
          obtain ⟨hi1, h⟩ := h
          refine va_sld M.1 M.2.1 hX hbl (Nat.not_le.mpr hbl) B.2.2.1 hi1 dL_law_587 ?_
          generalize xs (v4 + 2).toNatClampNeg = a108 at h ⊢
          refine g_aload_n M dL_law_588 rfl (lv_at hl 3 rfl) ?_
          refine w_calll (k1 := cells + 20) (k2 := slots + 200) B C hd (g_runSL (n := 4) (As := [va_rf v1, .int a107, .int a108, va_rf v3]) (rm := rmL_finds) M B X N (kL_finds (v0 := v1) (v1 := a107) (v2 := a108) (v3 := v3) l D cy adK adV hl0 h _) wmL_110 wstL_finds wnL wcgL_finds ⟨by decide, by decide, by decide +kernel⟩ ⟨by decide, by decide⟩ ⟨by show cells + 1 ≤ 601024; omega, by show slots + 6 ≤ 7293034; omega⟩ rfl hl.1 rfl ct_0 (by decide) dL_law_589) (by show cells + 1 ≤ cells + 20; omega) (by show slots + 6 ≤ slots + 200; omega) (fun a110 S109 H locs h B C hd => ?_)
          refine lv_istore (lv' := [(5, .int a110), (0, .ref b), (1, va_rf v1), (2, va_rf v2), (3, va_rf v3), (4, .int v4)]) M.1 M.2.1 dL_law_592 hl (by decide) (fl_e (fl_k rfl rfl (fl_k rfl rfl (fl_k rfl rfl (fl_k rfl rfl (fl_i rfl fl_0)))))) (fun ls hl => ?_)
          refine g_aload_n M dL_law_594 rfl (lv_at hl 3 rfl) ?_
          refine lv_aload_n M.1 M.2.1 dL_law_595 rfl (lv_at hl 1 rfl) ?_
          refine lv_iload M.1 M.2.1 dL_law_596 (lv_at hl 5 rfl) ?_
          refine lv_iconst (v := 1) M.1 M.2.1 dL_law_598 (by decide) ?_
          refine lv_iadd M.1 M.2.1 dL_law_599 ?_
          obtain ⟨hi1, h⟩ := h
          refine va_sld M.1 M.2.1 hX hbl (Nat.not_le.mpr hbl) B.2.2.1 hi1 dL_law_600 ?_
          generalize xs (v4 + 1).toNatClampNeg = a111 at h ⊢
          refine lv_aload_n M.1 M.2.1 dL_law_601 rfl (lv_at hl 1 rfl) ?_
          refine lv_iload M.1 M.2.1 dL_law_602 (lv_at hl 5 rfl) ?_
          refine lv_iconst (v := 2) M.1 M.2.1 dL_law_604 (by decide) ?_
          refine lv_iadd M.1 M.2.1 dL_law_605 ?_
          obtain ⟨hi1, h⟩ := h
          refine va_sld M.1 M.2.1 hX hbl (Nat.not_le.mpr hbl) B.2.2.1 hi1 dL_law_606 ?_
          generalize xs (v4 + 2).toNatClampNeg = a112 at h ⊢
          obtain ⟨o1, e1, hL1, hK1, h⟩ := h
          refine w_calli (k1 := cells + 20) (k2 := slots + 200) C B hd.sym (g_runV (n := 2) (As := [.int a111, .int a112]) (rm := rmX9_finds) M C e1 (kX9_finds (v0 := v2) (v1 := a111) (v2 := a112) l D cy h _) wmL_112 wiX9_finds wsX9_finds wnX9 wcdX9_finds ⟨rfl, by decide, by decide, by decide +kernel⟩ ⟨by decide, by decide⟩ ⟨by show cells + 20 + 0 ≤ 601024; omega, by show slots + 200 + 0 ≤ 7293034; omega⟩ hL1 hK1 (by decide) rfl rfl rfl hl.1 rfl ct_0 (by decide) dL_law_607) (by show cells + 20 + 0 ≤ cells + 20; omega) (by show slots + 200 + 0 ≤ slots + 200; omega) (fun a114 T113 H locs h C B hdx => ?_)
          have hd := hdx.sym
          refine lv_istore (lv' := [(6, .int a114), (5, .int a110), (0, .ref b), (1, va_rf v1), (2, va_rf v2), (3, va_rf v3), (4, .int v4)]) M.1 M.2.1 dL_law_610 hl (by decide) (fl_e (fl_i rfl (fl_k rfl rfl (fl_k rfl rfl (fl_k rfl rfl (fl_k rfl rfl (fl_k rfl rfl fl_0))))))) (fun ls hl => ?_)
          refine g_aload_n M dL_law_612 rfl (lv_at hl 4 rfl) ?_
          obtain ⟨o1, e1, hL1, hK1, h⟩ := h
          refine w_calli (k1 := cells + 20) (k2 := slots + 200) C B hd.sym (g_runV (n := 0) (As := []) (rm := rmX9_thrown) M C e1 (kX9_thrown (v0 := v2) l D cy h _) wmL_87 wiX9_thrown wsX9_thrown wnX9 wcdX9_thrown ⟨rfl, by decide, by decide, by decide +kernel⟩ ⟨by decide, by decide⟩ ⟨by show cells + 20 + 0 ≤ 601024; omega, by show slots + 200 + 0 ≤ 7293034; omega⟩ hL1 hK1 (by decide) rfl rfl rfl hl.1 rfl ct_0 (by decide) dL_law_613) (by show cells + 20 + 0 ≤ cells + 20; omega) (by show slots + 200 + 0 ≤ slots + 200; omega) (fun a116 T115 H locs h C B hdx => ?_)
          have hd := hdx.sym
          refine lv_iload M.1 M.2.1 dL_law_616 (lv_at hl 1 rfl) ?_
          refine lv_icmp_eq (tgt := 623) M.1 M.2.1 dL_law_618 (by decide) (fun c117 => ?_) (fun c117 => ?_)
          · have h := h.1 c117
            refine lv_iload M.1 M.2.1 dL_law_623 (lv_at hl 1 rfl) ?_
            refine lv_if_ne (tgt := 640) M.1 M.2.1 dL_law_625 (by decide) (fun c118 => ?_) (fun c118 => ?_)
            · have h := h.2 c118
              refine lv_goto (tgt := 1241) M.1 M.2.1 dL_law_640 (by decide) ?_
              refine lv_iinc (v := v4 + 6) (lv' := [(4, .int (v4 + 6)), (6, .int a114), (5, .int a110), (0, .ref b), (1, va_rf v1), (2, va_rf v2), (3, va_rf v3)]) M.1 M.2.1 dL_law_1241 hl (k := 6) rfl rfl (by decide) (fl_e (fl_k rfl rfl (fl_k rfl rfl (fl_k rfl rfl (fl_k rfl rfl (fl_k rfl rfl (fl_r rfl (fl_d rfl fl_0)))))))) (fun ls hl => ?_)
              refine lv_goto (tgt := 23) M.1 M.2.1 dL_law_1244 (by decide) ?_
              exact ih _ _ _ _ _ _ h _ _ _ _ _ (by omega) (by omega) B C hd (lv_sub hl [3, 4, 5, 6, 0] rfl)
            · have h := h.1 c118
              refine g_aload_n M dL_law_628 rfl (lv_at hl 5 rfl) ?_
              refine lv_iconst (v := 0) M.1 M.2.1 dL_law_629 (by decide) ?_
              refine g_lald M B dL_law_630 h (fun a119 h => ?_)
              refine lv_iload M.1 M.2.1 dL_law_631 (lv_at hl 0 rfl) ?_
              refine lv_i2l (v := a114.toInt64) M.1 M.2.1 dL_law_633 rfl ?_
              refine W.lcmp M.1 M.2.1 dL_law_634 ?_
              refine lv_if_eq (tgt := 640) M.1 M.2.1 dL_law_635 (by decide) (fun c120 => ?_) (fun c120 => ?_)
              · have h := h.1 c120
                refine lv_goto (tgt := 1241) M.1 M.2.1 dL_law_640 (by decide) ?_
                refine lv_iinc (v := v4 + 6) (lv' := [(4, .int (v4 + 6)), (6, .int a114), (5, .int a110), (0, .ref b), (1, va_rf v1), (2, va_rf v2), (3, va_rf v3)]) M.1 M.2.1 dL_law_1241 hl (k := 6) rfl rfl (by decide) (fl_e (fl_k rfl rfl (fl_k rfl rfl (fl_k rfl rfl (fl_k rfl rfl (fl_k rfl rfl (fl_r rfl (fl_d rfl fl_0)))))))) (fun ls hl => ?_)
                refine lv_goto (tgt := 23) M.1 M.2.1 dL_law_1244 (by decide) ?_
                exact ih _ _ _ _ _ _ h _ _ _ _ _ (by omega) (by omega) B C hd (lv_sub hl [3, 4, 5, 6, 0] rfl)
              · have h := h.2 c120
                refine lv_iconst (v := 0) M.1 M.2.1 dL_law_638 (by decide) ?_
                exact h.elim
          · have h := h.2 c117
            refine lv_iconst (v := 0) M.1 M.2.1 dL_law_621 (by decide) ?_
            exact h.elim
        have h := h.2 c121
        by_cases c138 : (a2 &&& 31).toInt = 9
        · have h := h.1 c138
          refine lv_tableIn (tgt := 643) (off := 603) M.1 M.2.1 dL_law_40 (fun q => c3 (Or.inl q)) (fun q => c3 (Or.inr q)) (by rw [c138]; rfl) (by decide) ?_
          refine g_aload_n M dL_law_643 rfl (lv_at hl 1 rfl) ?_
          refine lv_aload_n M.1 M.2.1 dL_law_644 rfl (lv_at hl 0 rfl) ?_
          refine lv_iload M.1 M.2.1 dL_law_645 (lv_at hl 4 rfl) ?_
          refine lv_iconst (v := 1) M.1 M.2.1 dL_law_647 (by decide) ?_
          refine lv_iadd M.1 M.2.1 dL_law_648 ?_
          obtain ⟨hi1, h⟩ := h
          refine va_sld M.1 M.2.1 hX hbl (Nat.not_le.mpr hbl) B.2.2.1 hi1 dL_law_649 ?_
          generalize xs (v4 + 1).toNatClampNeg = a122 at h ⊢
          refine lv_aload_n M.1 M.2.1 dL_law_650 rfl (lv_at hl 0 rfl) ?_
          refine lv_iload M.1 M.2.1 dL_law_651 (lv_at hl 4 rfl) ?_
          refine lv_iconst (v := 2) M.1 M.2.1 dL_law_653 (by decide) ?_
          refine lv_iadd M.1 M.2.1 dL_law_654 ?_
          obtain ⟨hi1, h⟩ := h
          refine va_sld M.1 M.2.1 hX hbl (Nat.not_le.mpr hbl) B.2.2.1 hi1 dL_law_655 ?_
          generalize xs (v4 + 2).toNatClampNeg = a123 at h ⊢
          refine lv_aload_n M.1 M.2.1 dL_law_656 rfl (lv_at hl 0 rfl) ?_
          refine lv_iload M.1 M.2.1 dL_law_657 (lv_at hl 4 rfl) ?_
          refine lv_iconst (v := 3) M.1 M.2.1 dL_law_659 (by decide) ?_
          refine lv_iadd M.1 M.2.1 dL_law_660 ?_
          obtain ⟨hi1, h⟩ := h
          refine va_sld M.1 M.2.1 hX hbl (Nat.not_le.mpr hbl) B.2.2.1 hi1 dL_law_661 ?_
          generalize xs (v4 + 3).toNatClampNeg = a124 at h ⊢
          refine g_aload_n M dL_law_662 rfl (lv_at hl 3 rfl) ?_
          refine w_calll (k1 := cells + 20) (k2 := slots + 200) B C hd (g_runSL (n := 5) (As := [va_rf v1, .int a122, .int a123, .int a124, va_rf v3]) (rm := rmL_found) M B X N (kL_found (v0 := v1) (v1 := a122) (v2 := a123) (v3 := a124) (v4 := v3) l D cy adK adV hl0 h _) wmL_113 wstL_found wnL wcgL_found ⟨by decide, by decide, by decide +kernel⟩ ⟨by decide, by decide⟩ ⟨by show cells + 1 ≤ 601024; omega, by show slots + 6 ≤ 7293034; omega⟩ rfl hl.1 rfl ct_0 (by decide) dL_law_663) (by show cells + 1 ≤ cells + 20; omega) (by show slots + 6 ≤ slots + 200; omega) (fun a126 S125 H locs h B C hd => ?_)
          refine lv_istore (lv' := [(5, .int a126), (0, .ref b), (1, va_rf v1), (2, va_rf v2), (3, va_rf v3), (4, .int v4)]) M.1 M.2.1 dL_law_666 hl (by decide) (fl_e (fl_k rfl rfl (fl_k rfl rfl (fl_k rfl rfl (fl_k rfl rfl (fl_i rfl fl_0)))))) (fun ls hl => ?_)
          refine g_aload_n M dL_law_668 rfl (lv_at hl 3 rfl) ?_
          refine lv_aload_n M.1 M.2.1 dL_law_669 rfl (lv_at hl 1 rfl) ?_
          refine lv_iload M.1 M.2.1 dL_law_670 (lv_at hl 5 rfl) ?_
          refine lv_iconst (v := 1) M.1 M.2.1 dL_law_672 (by decide) ?_
          refine lv_iadd M.1 M.2.1 dL_law_673 ?_
          obtain ⟨hi1, h⟩ := h
          refine va_sld M.1 M.2.1 hX hbl (Nat.not_le.mpr hbl) B.2.2.1 hi1 dL_law_674 ?_
          generalize xs (v4 + 1).toNatClampNeg = a127 at h ⊢
          refine lv_aload_n M.1 M.2.1 dL_law_675 rfl (lv_at hl 1 rfl) ?_
          refine lv_iload M.1 M.2.1 dL_law_676 (lv_at hl 5 rfl) ?_
          refine lv_iconst (v := 2) M.1 M.2.1 dL_law_678 (by decide) ?_
          refine lv_iadd M.1 M.2.1 dL_law_679 ?_
          obtain ⟨hi1, h⟩ := h
          refine va_sld M.1 M.2.1 hX hbl (Nat.not_le.mpr hbl) B.2.2.1 hi1 dL_law_680 ?_
          generalize xs (v4 + 2).toNatClampNeg = a128 at h ⊢
          refine lv_aload_n M.1 M.2.1 dL_law_681 rfl (lv_at hl 1 rfl) ?_
          refine lv_iload M.1 M.2.1 dL_law_682 (lv_at hl 5 rfl) ?_
          refine lv_iconst (v := 3) M.1 M.2.1 dL_law_684 (by decide) ?_
          refine lv_iadd M.1 M.2.1 dL_law_685 ?_
          obtain ⟨hi1, h⟩ := h
          refine va_sld M.1 M.2.1 hX hbl (Nat.not_le.mpr hbl) B.2.2.1 hi1 dL_law_686 ?_
          generalize xs (v4 + 3).toNatClampNeg = a129 at h ⊢
          obtain ⟨o1, e1, hL1, hK1, h⟩ := h
          refine w_calli (k1 := cells + 20) (k2 := slots + 200) C B hd.sym (g_runV (n := 3) (As := [.int a127, .int a128, .int a129]) (rm := rmX9_found) M C e1 (kX9_found (v0 := v2) (v1 := a127) (v2 := a128) (v3 := a129) l D cy h _) wmL_116 wiX9_found wsX9_found wnX9 wcdX9_found ⟨rfl, by decide, by decide, by decide +kernel⟩ ⟨by decide, by decide⟩ ⟨by show cells + 20 + 0 ≤ 601024; omega, by show slots + 200 + 0 ≤ 7293034; omega⟩ hL1 hK1 (by decide) rfl rfl rfl hl.1 rfl ct_0 (by decide) dL_law_687) (by show cells + 20 + 0 ≤ cells + 20; omega) (by show slots + 200 + 0 ≤ slots + 200; omega) (fun a131 T130 H locs h C B hdx => ?_)
          have hd := hdx.sym
          refine lv_istore (lv' := [(6, .int a131), (5, .int a126), (0, .ref b), (1, va_rf v1), (2, va_rf v2), (3, va_rf v3), (4, .int v4)]) M.1 M.2.1 dL_law_690 hl (by decide) (fl_e (fl_i rfl (fl_k rfl rfl (fl_k rfl rfl (fl_k rfl rfl (fl_k rfl rfl (fl_k rfl rfl fl_0))))))) (fun ls hl => ?_)
          refine g_aload_n M dL_law_692 rfl (lv_at hl 4 rfl) ?_
          obtain ⟨o1, e1, hL1, hK1, h⟩ := h
          refine w_calli (k1 := cells + 20) (k2 := slots + 200) C B hd.sym (g_runV (n := 0) (As := []) (rm := rmX9_thrown) M C e1 (kX9_thrown (v0 := v2) l D cy h _) wmL_87 wiX9_thrown wsX9_thrown wnX9 wcdX9_thrown ⟨rfl, by decide, by decide, by decide +kernel⟩ ⟨by decide, by decide⟩ ⟨by show cells + 20 + 0 ≤ 601024; omega, by show slots + 200 + 0 ≤ 7293034; omega⟩ hL1 hK1 (by decide) rfl rfl rfl hl.1 rfl ct_0 (by decide) dL_law_693) (by show cells + 20 + 0 ≤ cells + 20; omega) (by show slots + 200 + 0 ≤ slots + 200; omega) (fun a133 T132 H locs h C B hdx => ?_)
          have hd := hdx.sym
          refine lv_iload M.1 M.2.1 dL_law_696 (lv_at hl 1 rfl) ?_
          refine lv_icmp_eq (tgt := 703) M.1 M.2.1 dL_law_698 (by decide) (fun c134 => ?_) (fun c134 => ?_)
          · have h := h.1 c134
            refine lv_iload M.1 M.2.1 dL_law_703 (lv_at hl 1 rfl) ?_
            refine lv_if_ne (tgt := 720) M.1 M.2.1 dL_law_705 (by decide) (fun c135 => ?_) (fun c135 => ?_)
            · have h := h.2 c135
              refine lv_goto (tgt := 1241) M.1 M.2.1 dL_law_720 (by decide) ?_
              refine lv_iinc (v := v4 + 6) (lv' := [(4, .int (v4 + 6)), (6, .int a131), (5, .int a126), (0, .ref b), (1, va_rf v1), (2, va_rf v2), (3, va_rf v3)]) M.1 M.2.1 dL_law_1241 hl (k := 6) rfl rfl (by decide) (fl_e (fl_k rfl rfl (fl_k rfl rfl (fl_k rfl rfl (fl_k rfl rfl (fl_k rfl rfl (fl_r rfl (fl_d rfl fl_0)))))))) (fun ls hl => ?_)
              refine lv_goto (tgt := 23) M.1 M.2.1 dL_law_1244 (by decide) ?_
              exact ih _ _ _ _ _ _ h _ _ _ _ _ (by omega) (by omega) B C hd (lv_sub hl [3, 4, 5, 6, 0] rfl)
            · have h := h.1 c135
              refine g_aload_n M dL_law_708 rfl (lv_at hl 5 rfl) ?_
              refine lv_iconst (v := 0) M.1 M.2.1 dL_law_709 (by decide) ?_
              refine g_lald M B dL_law_710 h (fun a136 h => ?_)
              refine lv_iload M.1 M.2.1 dL_law_711 (lv_at hl 0 rfl) ?_
              refine lv_i2l (v := a131.toInt64) M.1 M.2.1 dL_law_713 rfl ?_
              refine W.lcmp M.1 M.2.1 dL_law_714 ?_
              refine lv_if_eq (tgt := 720) M.1 M.2.1 dL_law_715 (by decide) (fun c137 => ?_) (fun c137 => ?_)
              · have h := h.1 c137
                refine lv_goto (tgt := 1241) M.1 M.2.1 dL_law_720 (by decide) ?_
                refine lv_iinc (v := v4 + 6) (lv' := [(4, .int (v4 + 6)), (6, .int a131), (5, .int a126), (0, .ref b), (1, va_rf v1), (2, va_rf v2), (3, va_rf v3)]) M.1 M.2.1 dL_law_1241 hl (k := 6) rfl rfl (by decide) (fl_e (fl_k rfl rfl (fl_k rfl rfl (fl_k rfl rfl (fl_k rfl rfl (fl_k rfl rfl (fl_r rfl (fl_d rfl fl_0)))))))) (fun ls hl => ?_)
                refine lv_goto (tgt := 23) M.1 M.2.1 dL_law_1244 (by decide) ?_
                exact ih _ _ _ _ _ _ h _ _ _ _ _ (by omega) (by omega) B C hd (lv_sub hl [3, 4, 5, 6, 0] rfl)
              · have h := h.2 c137
                refine lv_iconst (v := 0) M.1 M.2.1 dL_law_718 (by decide) ?_
                exact h.elim
          · have h := h.2 c134
            refine lv_iconst (v := 0) M.1 M.2.1 dL_law_701 (by decide) ?_
            exact h.elim
        have h := h.2 c138
        by_cases c157 : (a2 &&& 31).toInt = 10
        · have h := h.1 c157
          refine lv_tableIn (tgt := 723) (off := 683) M.1 M.2.1 dL_law_40 (fun q => c3 (Or.inl q)) (fun q => c3 (Or.inr q)) (by rw [c157]; rfl) (by decide) ?_
          refine g_aload_n M dL_law_723 rfl (lv_at hl 1 rfl) ?_
          refine lv_aload_n M.1 M.2.1 dL_law_724 rfl (lv_at hl 0 rfl) ?_
          refine lv_iload M.1 M.2.1 dL_law_725 (lv_at hl 4 rfl) ?_
          refine lv_iconst (v := 1) M.1 M.2.1 dL_law_727 (by decide) ?_
          refine lv_iadd M.1 M.2.1 dL_law_728 ?_
          obtain ⟨hi1, h⟩ := h
          refine va_sld M.1 M.2.1 hX hbl (Nat.not_le.mpr hbl) B.2.2.1 hi1 dL_law_729 ?_
          generalize xs (v4 + 1).toNatClampNeg = a139 at h ⊢
          refine lv_aload_n M.1 M.2.1 dL_law_730 rfl (lv_at hl 0 rfl) ?_
          refine lv_iload M.1 M.2.1 dL_law_731 (lv_at hl 4 rfl) ?_
          refine lv_iconst (v := 2) M.1 M.2.1 dL_law_733 (by decide) ?_
          refine lv_iadd M.1 M.2.1 dL_law_734 ?_
          obtain ⟨hi1, h⟩ := h
          refine va_sld M.1 M.2.1 hX hbl (Nat.not_le.mpr hbl) B.2.2.1 hi1 dL_law_735 ?_
          generalize xs (v4 + 2).toNatClampNeg = a140 at h ⊢
          refine lv_aload_n M.1 M.2.1 dL_law_736 rfl (lv_at hl 0 rfl) ?_
          refine lv_iload M.1 M.2.1 dL_law_737 (lv_at hl 4 rfl) ?_
          refine lv_iconst (v := 3) M.1 M.2.1 dL_law_739 (by decide) ?_
          refine lv_iadd M.1 M.2.1 dL_law_740 ?_
          obtain ⟨hi1, h⟩ := h
          refine va_sld M.1 M.2.1 hX hbl (Nat.not_le.mpr hbl) B.2.2.1 hi1 dL_law_741 ?_
          generalize xs (v4 + 3).toNatClampNeg = a141 at h ⊢
          refine lv_aload_n M.1 M.2.1 dL_law_742 rfl (lv_at hl 0 rfl) ?_
          refine lv_iload M.1 M.2.1 dL_law_743 (lv_at hl 4 rfl) ?_
          refine lv_iconst (v := 4) M.1 M.2.1 dL_law_745 (by decide) ?_
          refine lv_iadd M.1 M.2.1 dL_law_746 ?_
          obtain ⟨hi1, h⟩ := h
          refine va_sld M.1 M.2.1 hX hbl (Nat.not_le.mpr hbl) B.2.2.1 hi1 dL_law_747 ?_
          generalize xs (v4 + 4).toNatClampNeg = a142 at h ⊢
          refine g_aload_n M dL_law_748 rfl (lv_at hl 3 rfl) ?_
          refine w_calll (k1 := cells + 20) (k2 := slots + 200) B C hd (g_runSL (n := 6) (As := [va_rf v1, .int a139, .int a140, .int a141, .int a142, va_rf v3]) (rm := rmL_proof) M B X N (kL_proof (v0 := v1) (v1 := a139) (v2 := a140) (v3 := a141) (v4 := a142) (v5 := v3) l D cy adK adV hl0 h _) wmL_117 wstL_proof wnL wcgL_proof ⟨by decide, by decide, by decide +kernel⟩ ⟨by decide, by decide⟩ ⟨by show cells + 1 ≤ 601024; omega, by show slots + 6 ≤ 7293034; omega⟩ rfl hl.1 rfl ct_0 (by decide) dL_law_749) (by show cells + 1 ≤ cells + 20; omega) (by show slots + 6 ≤ slots + 200; omega) (fun a144 S143 H locs h B C hd => ?_)
          refine lv_istore (lv' := [(5, .int a144), (0, .ref b), (1, va_rf v1), (2, va_rf v2), (3, va_rf v3), (4, .int v4)]) M.1 M.2.1 dL_law_752 hl (by decide) (fl_e (fl_k rfl rfl (fl_k rfl rfl (fl_k rfl rfl (fl_k rfl rfl (fl_i rfl fl_0)))))) (fun ls hl => ?_)
          refine g_aload_n M dL_law_754 rfl (lv_at hl 3 rfl) ?_
          refine lv_aload_n M.1 M.2.1 dL_law_755 rfl (lv_at hl 1 rfl) ?_
          refine lv_iload M.1 M.2.1 dL_law_756 (lv_at hl 5 rfl) ?_
          refine lv_iconst (v := 1) M.1 M.2.1 dL_law_758 (by decide) ?_
          refine lv_iadd M.1 M.2.1 dL_law_759 ?_
          obtain ⟨hi1, h⟩ := h
          refine va_sld M.1 M.2.1 hX hbl (Nat.not_le.mpr hbl) B.2.2.1 hi1 dL_law_760 ?_
          generalize xs (v4 + 1).toNatClampNeg = a145 at h ⊢
          refine lv_aload_n M.1 M.2.1 dL_law_761 rfl (lv_at hl 1 rfl) ?_
          refine lv_iload M.1 M.2.1 dL_law_762 (lv_at hl 5 rfl) ?_
          refine lv_iconst (v := 2) M.1 M.2.1 dL_law_764 (by decide) ?_
          refine lv_iadd M.1 M.2.1 dL_law_765 ?_
          obtain ⟨hi1, h⟩ := h
          refine va_sld M.1 M.2.1 hX hbl (Nat.not_le.mpr hbl) B.2.2.1 hi1 dL_law_766 ?_
          generalize xs (v4 + 2).toNatClampNeg = a146 at h ⊢
          refine lv_aload_n M.1 M.2.1 dL_law_767 rfl (lv_at hl 1 rfl) ?_
          refine lv_iload M.1 M.2.1 dL_law_768 (lv_at hl 5 rfl) ?_
          refine lv_iconst (v := 3) M.1 M.2.1 dL_law_770 (by decide) ?_
          refine lv_iadd M.1 M.2.1 dL_law_771 ?_
          obtain ⟨hi1, h⟩ := h
          refine va_sld M.1 M.2.1 hX hbl (Nat.not_le.mpr hbl) B.2.2.1 hi1 dL_law_772 ?_
          generalize xs (v4 + 3).toNatClampNeg = a147 at h ⊢
          refine lv_aload_n M.1 M.2.1 dL_law_773 rfl (lv_at hl 1 rfl) ?_
          refine lv_iload M.1 M.2.1 dL_law_774 (lv_at hl 5 rfl) ?_
          refine lv_iconst (v := 4) M.1 M.2.1 dL_law_776 (by decide) ?_
          refine lv_iadd M.1 M.2.1 dL_law_777 ?_
          obtain ⟨hi1, h⟩ := h
          refine va_sld M.1 M.2.1 hX hbl (Nat.not_le.mpr hbl) B.2.2.1 hi1 dL_law_778 ?_
          generalize xs (v4 + 4).toNatClampNeg = a148 at h ⊢
          obtain ⟨o1, e1, hL1, hK1, h⟩ := h
          refine w_calli (k1 := cells + 20) (k2 := slots + 200) C B hd.sym (g_runV (n := 4) (As := [.int a145, .int a146, .int a147, .int a148]) (rm := rmX9_proof) M C e1 (kX9_proof (v0 := v2) (v1 := a145) (v2 := a146) (v3 := a147) (v4 := a148) l D cy h _) wmL_120 wiX9_proof wsX9_proof wnX9 wcdX9_proof ⟨rfl, by decide, by decide, by decide +kernel⟩ ⟨by decide, by decide⟩ ⟨by show cells + 20 + 0 ≤ 601024; omega, by show slots + 200 + 0 ≤ 7293034; omega⟩ hL1 hK1 (by decide) rfl rfl rfl hl.1 rfl ct_0 (by decide) dL_law_779) (by show cells + 20 + 0 ≤ cells + 20; omega) (by show slots + 200 + 0 ≤ slots + 200; omega) (fun a150 T149 H locs h C B hdx => ?_)
          have hd := hdx.sym
          refine lv_istore (lv' := [(6, .int a150), (5, .int a144), (0, .ref b), (1, va_rf v1), (2, va_rf v2), (3, va_rf v3), (4, .int v4)]) M.1 M.2.1 dL_law_782 hl (by decide) (fl_e (fl_i rfl (fl_k rfl rfl (fl_k rfl rfl (fl_k rfl rfl (fl_k rfl rfl (fl_k rfl rfl fl_0))))))) (fun ls hl => ?_)
          refine g_aload_n M dL_law_784 rfl (lv_at hl 4 rfl) ?_
          obtain ⟨o1, e1, hL1, hK1, h⟩ := h
          refine w_calli (k1 := cells + 20) (k2 := slots + 200) C B hd.sym (g_runV (n := 0) (As := []) (rm := rmX9_thrown) M C e1 (kX9_thrown (v0 := v2) l D cy h _) wmL_87 wiX9_thrown wsX9_thrown wnX9 wcdX9_thrown ⟨rfl, by decide, by decide, by decide +kernel⟩ ⟨by decide, by decide⟩ ⟨by show cells + 20 + 0 ≤ 601024; omega, by show slots + 200 + 0 ≤ 7293034; omega⟩ hL1 hK1 (by decide) rfl rfl rfl hl.1 rfl ct_0 (by decide) dL_law_785) (by show cells + 20 + 0 ≤ cells + 20; omega) (by show slots + 200 + 0 ≤ slots + 200; omega) (fun a152 T151 H locs h C B hdx => ?_)
          have hd := hdx.sym
          refine lv_iload M.1 M.2.1 dL_law_788 (lv_at hl 1 rfl) ?_
          refine lv_icmp_eq (tgt := 795) M.1 M.2.1 dL_law_790 (by decide) (fun c153 => ?_) (fun c153 => ?_)
          · have h := h.1 c153
            refine lv_iload M.1 M.2.1 dL_law_795 (lv_at hl 1 rfl) ?_
            refine lv_if_ne (tgt := 812) M.1 M.2.1 dL_law_797 (by decide) (fun c154 => ?_) (fun c154 => ?_)
            · have h := h.2 c154
              refine lv_goto (tgt := 1241) M.1 M.2.1 dL_law_812 (by decide) ?_
              refine lv_iinc (v := v4 + 6) (lv' := [(4, .int (v4 + 6)), (6, .int a150), (5, .int a144), (0, .ref b), (1, va_rf v1), (2, va_rf v2), (3, va_rf v3)]) M.1 M.2.1 dL_law_1241 hl (k := 6) rfl rfl (by decide) (fl_e (fl_k rfl rfl (fl_k rfl rfl (fl_k rfl rfl (fl_k rfl rfl (fl_k rfl rfl (fl_r rfl (fl_d rfl fl_0)))))))) (fun ls hl => ?_)
              refine lv_goto (tgt := 23) M.1 M.2.1 dL_law_1244 (by decide) ?_
              exact ih _ _ _ _ _ _ h _ _ _ _ _ (by omega) (by omega) B C hd (lv_sub hl [3, 4, 5, 6, 0] rfl)
            · have h := h.1 c154
              refine g_aload_n M dL_law_800 rfl (lv_at hl 5 rfl) ?_
              refine lv_iconst (v := 0) M.1 M.2.1 dL_law_801 (by decide) ?_
              refine g_lald M B dL_law_802 h (fun a155 h => ?_)
              refine lv_iload M.1 M.2.1 dL_law_803 (lv_at hl 0 rfl) ?_
              refine lv_i2l (v := a150.toInt64) M.1 M.2.1 dL_law_805 rfl ?_
              refine W.lcmp M.1 M.2.1 dL_law_806 ?_
              refine lv_if_eq (tgt := 812) M.1 M.2.1 dL_law_807 (by decide) (fun c156 => ?_) (fun c156 => ?_)
              · have h := h.1 c156
                refine lv_goto (tgt := 1241) M.1 M.2.1 dL_law_812 (by decide) ?_
                refine lv_iinc (v := v4 + 6) (lv' := [(4, .int (v4 + 6)), (6, .int a150), (5, .int a144), (0, .ref b), (1, va_rf v1), (2, va_rf v2), (3, va_rf v3)]) M.1 M.2.1 dL_law_1241 hl (k := 6) rfl rfl (by decide) (fl_e (fl_k rfl rfl (fl_k rfl rfl (fl_k rfl rfl (fl_k rfl rfl (fl_k rfl rfl (fl_r rfl (fl_d rfl fl_0)))))))) (fun ls hl => ?_)
                refine lv_goto (tgt := 23) M.1 M.2.1 dL_law_1244 (by decide) ?_
                exact ih _ _ _ _ _ _ h _ _ _ _ _ (by omega) (by omega) B C hd (lv_sub hl [3, 4, 5, 6, 0] rfl)
              · have h := h.2 c156
                refine lv_iconst (v := 0) M.1 M.2.1 dL_law_810 (by decide) ?_
                exact h.elim
          · have h := h.2 c153
            refine lv_iconst (v := 0) M.1 M.2.1 dL_law_793 (by decide) ?_
            exact h.elim
        have h := h.2 c157
        by_cases c174 : (a2 &&& 31).toInt = 11
        · have h := h.1 c174
          refine lv_tableIn (tgt := 815) (off := 775) M.1 M.2.1 dL_law_40 (fun q => c3 (Or.inl q)) (fun q => c3 (Or.inr q)) (by rw [c174]; rfl) (by decide) ?_
          refine g_aload_n M dL_law_815 rfl (lv_at hl 1 rfl) ?_
          refine lv_aload_n M.1 M.2.1 dL_law_816 rfl (lv_at hl 0 rfl) ?_
          refine lv_iload M.1 M.2.1 dL_law_817 (lv_at hl 4 rfl) ?_
          refine lv_iconst (v := 1) M.1 M.2.1 dL_law_819 (by decide) ?_
          refine lv_iadd M.1 M.2.1 dL_law_820 ?_
          obtain ⟨hi1, h⟩ := h
          refine va_sld M.1 M.2.1 hX hbl (Nat.not_le.mpr hbl) B.2.2.1 hi1 dL_law_821 ?_
          generalize xs (v4 + 1).toNatClampNeg = a158 at h ⊢
          refine lv_aload_n M.1 M.2.1 dL_law_822 rfl (lv_at hl 0 rfl) ?_
          refine lv_iload M.1 M.2.1 dL_law_823 (lv_at hl 4 rfl) ?_
          refine lv_iconst (v := 2) M.1 M.2.1 dL_law_825 (by decide) ?_
          refine lv_iadd M.1 M.2.1 dL_law_826 ?_
          obtain ⟨hi1, h⟩ := h
          refine va_sld M.1 M.2.1 hX hbl (Nat.not_le.mpr hbl) B.2.2.1 hi1 dL_law_827 ?_
          generalize xs (v4 + 2).toNatClampNeg = a159 at h ⊢
          refine lv_aload_n M.1 M.2.1 dL_law_828 rfl (lv_at hl 0 rfl) ?_
          refine lv_iload M.1 M.2.1 dL_law_829 (lv_at hl 4 rfl) ?_
          refine lv_iconst (v := 3) M.1 M.2.1 dL_law_831 (by decide) ?_
          refine lv_iadd M.1 M.2.1 dL_law_832 ?_
          obtain ⟨hi1, h⟩ := h
          refine va_sld M.1 M.2.1 hX hbl (Nat.not_le.mpr hbl) B.2.2.1 hi1 dL_law_833 ?_
          generalize xs (v4 + 3).toNatClampNeg = a160 at h ⊢
          refine g_aload_n M dL_law_834 rfl (lv_at hl 3 rfl) ?_
          refine w_calll (k1 := cells + 20) (k2 := slots + 200) B C hd (g_runSL (n := 5) (As := [va_rf v1, .int a158, .int a159, .int a160, va_rf v3]) (rm := rmL_exempt) M B X N (kL_exempt (v0 := v1) (v1 := a158) (v2 := a159) (v3 := a160) (v4 := v3) l D cy adK adV hl0 h _) wmL_121 wstL_exempt wnL wcgL_exempt ⟨by decide, by decide, by decide +kernel⟩ ⟨by decide, by decide⟩ ⟨by show cells + 2 ≤ 601024; omega, by show slots + 12 ≤ 7293034; omega⟩ rfl hl.1 rfl ct_0 (by decide) dL_law_835) (by show cells + 2 ≤ cells + 20; omega) (by show slots + 12 ≤ slots + 200; omega) (fun a162 S161 H locs h B C hd => ?_)
          refine lv_istore (lv' := [(5, .int a162), (0, .ref b), (1, va_rf v1), (2, va_rf v2), (3, va_rf v3), (4, .int v4)]) M.1 M.2.1 dL_law_838 hl (by decide) (fl_e (fl_k rfl rfl (fl_k rfl rfl (fl_k rfl rfl (fl_k rfl rfl (fl_i rfl fl_0)))))) (fun ls hl => ?_)
          refine g_aload_n M dL_law_840 rfl (lv_at hl 3 rfl) ?_
          refine lv_aload_n M.1 M.2.1 dL_law_841 rfl (lv_at hl 1 rfl) ?_
          refine lv_iload M.1 M.2.1 dL_law_842 (lv_at hl 5 rfl) ?_
          refine lv_iconst (v := 1) M.1 M.2.1 dL_law_844 (by decide) ?_
          refine lv_iadd M.1 M.2.1 dL_law_845 ?_
          obtain ⟨hi1, h⟩ := h
          refine va_sld M.1 M.2.1 hX hbl (Nat.not_le.mpr hbl) B.2.2.1 hi1 dL_law_846 ?_
          generalize xs (v4 + 1).toNatClampNeg = a163 at h ⊢
          refine lv_aload_n M.1 M.2.1 dL_law_847 rfl (lv_at hl 1 rfl) ?_
          refine lv_iload M.1 M.2.1 dL_law_848 (lv_at hl 5 rfl) ?_
          refine lv_iconst (v := 2) M.1 M.2.1 dL_law_850 (by decide) ?_
          refine lv_iadd M.1 M.2.1 dL_law_851 ?_
          obtain ⟨hi1, h⟩ := h
          refine va_sld M.1 M.2.1 hX hbl (Nat.not_le.mpr hbl) B.2.2.1 hi1 dL_law_852 ?_
          generalize xs (v4 + 2).toNatClampNeg = a164 at h ⊢
          refine lv_aload_n M.1 M.2.1 dL_law_853 rfl (lv_at hl 1 rfl) ?_
          refine lv_iload M.1 M.2.1 dL_law_854 (lv_at hl 5 rfl) ?_
          refine lv_iconst (v := 3) M.1 M.2.1 dL_law_856 (by decide) ?_
          refine lv_iadd M.1 M.2.1 dL_law_857 ?_
          obtain ⟨hi1, h⟩ := h
          refine va_sld M.1 M.2.1 hX hbl (Nat.not_le.mpr hbl) B.2.2.1 hi1 dL_law_858 ?_
          generalize xs (v4 + 3).toNatClampNeg = a165 at h ⊢
          obtain ⟨o1, e1, hL1, hK1, h⟩ := h
          refine w_calli (k1 := cells + 20) (k2 := slots + 200) C B hd.sym (g_runV (n := 3) (As := [.int a163, .int a164, .int a165]) (rm := rmX9_exempt) M C e1 (kX9_exempt (v0 := v2) (v1 := a163) (v2 := a164) (v3 := a165) l D cy h _) wmL_123 wiX9_exempt wsX9_exempt wnX9 wcdX9_exempt ⟨rfl, by decide, by decide, by decide +kernel⟩ ⟨by decide, by decide⟩ ⟨by show cells + 20 + 0 ≤ 601024; omega, by show slots + 200 + 0 ≤ 7293034; omega⟩ hL1 hK1 (by decide) rfl rfl rfl hl.1 rfl ct_0 (by decide) dL_law_859) (by show cells + 20 + 0 ≤ cells + 20; omega) (by show slots + 200 + 0 ≤ slots + 200; omega) (fun a167 T166 H locs h C B hdx => ?_)
          have hd := hdx.sym
          refine lv_istore (lv' := [(6, .int a167), (5, .int a162), (0, .ref b), (1, va_rf v1), (2, va_rf v2), (3, va_rf v3), (4, .int v4)]) M.1 M.2.1 dL_law_862 hl (by decide) (fl_e (fl_i rfl (fl_k rfl rfl (fl_k rfl rfl (fl_k rfl rfl (fl_k rfl rfl (fl_k rfl rfl fl_0))))))) (fun ls hl => ?_)
          refine g_aload_n M dL_law_864 rfl (lv_at hl 4 rfl) ?_
          obtain ⟨o1, e1, hL1, hK1, h⟩ := h
          refine w_calli (k1 := cells + 20) (k2 := slots + 200) C B hd.sym (g_runV (n := 0) (As := []) (rm := rmX9_thrown) M C e1 (kX9_thrown (v0 := v2) l D cy h _) wmL_87 wiX9_thrown wsX9_thrown wnX9 wcdX9_thrown ⟨rfl, by decide, by decide, by decide +kernel⟩ ⟨by decide, by decide⟩ ⟨by show cells + 20 + 0 ≤ 601024; omega, by show slots + 200 + 0 ≤ 7293034; omega⟩ hL1 hK1 (by decide) rfl rfl rfl hl.1 rfl ct_0 (by decide) dL_law_865) (by show cells + 20 + 0 ≤ cells + 20; omega) (by show slots + 200 + 0 ≤ slots + 200; omega) (fun a169 T168 H locs h C B hdx => ?_)
          have hd := hdx.sym
          refine lv_iload M.1 M.2.1 dL_law_868 (lv_at hl 1 rfl) ?_
          refine lv_icmp_eq (tgt := 875) M.1 M.2.1 dL_law_870 (by decide) (fun c170 => ?_) (fun c170 => ?_)
          · have h := h.1 c170
            refine lv_iload M.1 M.2.1 dL_law_875 (lv_at hl 1 rfl) ?_
            refine lv_if_ne (tgt := 892) M.1 M.2.1 dL_law_877 (by decide) (fun c171 => ?_) (fun c171 => ?_)
            · have h := h.2 c171
              refine lv_goto (tgt := 1241) M.1 M.2.1 dL_law_892 (by decide) ?_
              refine lv_iinc (v := v4 + 6) (lv' := [(4, .int (v4 + 6)), (6, .int a167), (5, .int a162), (0, .ref b), (1, va_rf v1), (2, va_rf v2), (3, va_rf v3)]) M.1 M.2.1 dL_law_1241 hl (k := 6) rfl rfl (by decide) (fl_e (fl_k rfl rfl (fl_k rfl rfl (fl_k rfl rfl (fl_k rfl rfl (fl_k rfl rfl (fl_r rfl (fl_d rfl fl_0)))))))) (fun ls hl => ?_)
              refine lv_goto (tgt := 23) M.1 M.2.1 dL_law_1244 (by decide) ?_
              exact ih _ _ _ _ _ _ h _ _ _ _ _ (by omega) (by omega) B C hd (lv_sub hl [3, 4, 5, 6, 0] rfl)
            · have h := h.1 c171
              refine g_aload_n M dL_law_880 rfl (lv_at hl 5 rfl) ?_
              refine lv_iconst (v := 0) M.1 M.2.1 dL_law_881 (by decide) ?_
              refine g_lald M B dL_law_882 h (fun a172 h => ?_)
              refine lv_iload M.1 M.2.1 dL_law_883 (lv_at hl 0 rfl) ?_
              refine lv_i2l (v := a167.toInt64) M.1 M.2.1 dL_law_885 rfl ?_
              refine W.lcmp M.1 M.2.1 dL_law_886 ?_
              refine lv_if_eq (tgt := 892) M.1 M.2.1 dL_law_887 (by decide) (fun c173 => ?_) (fun c173 => ?_)
              · have h := h.1 c173
                refine lv_goto (tgt := 1241) M.1 M.2.1 dL_law_892 (by decide) ?_
                refine lv_iinc (v := v4 + 6) (lv' := [(4, .int (v4 + 6)), (6, .int a167), (5, .int a162), (0, .ref b), (1, va_rf v1), (2, va_rf v2), (3, va_rf v3)]) M.1 M.2.1 dL_law_1241 hl (k := 6) rfl rfl (by decide) (fl_e (fl_k rfl rfl (fl_k rfl rfl (fl_k rfl rfl (fl_k rfl rfl (fl_k rfl rfl (fl_r rfl (fl_d rfl fl_0)))))))) (fun ls hl => ?_)
                refine lv_goto (tgt := 23) M.1 M.2.1 dL_law_1244 (by decide) ?_
                exact ih _ _ _ _ _ _ h _ _ _ _ _ (by omega) (by omega) B C hd (lv_sub hl [3, 4, 5, 6, 0] rfl)
              · have h := h.2 c173
                refine lv_iconst (v := 0) M.1 M.2.1 dL_law_890 (by decide) ?_
                exact h.elim
          · have h := h.2 c170
            refine lv_iconst (v := 0) M.1 M.2.1 dL_law_873 (by decide) ?_
            exact h.elim
        have h := h.2 c174
        by_cases c189 : (a2 &&& 31).toInt = 12
        · have h := h.1 c189
          refine lv_tableIn (tgt := 895) (off := 855) M.1 M.2.1 dL_law_40 (fun q => c3 (Or.inl q)) (fun q => c3 (Or.inr q)) (by rw [c189]; rfl) (by decide) ?_
          refine g_aload_n M dL_law_895 rfl (lv_at hl 1 rfl) ?_
          refine lv_aload_n M.1 M.2.1 dL_law_896 rfl (lv_at hl 0 rfl) ?_
          refine lv_iload M.1 M.2.1 dL_law_897 (lv_at hl 4 rfl) ?_
          refine lv_iconst (v := 1) M.1 M.2.1 dL_law_899 (by decide) ?_
          refine lv_iadd M.1 M.2.1 dL_law_900 ?_
          obtain ⟨hi1, h⟩ := h
          refine va_sld M.1 M.2.1 hX hbl (Nat.not_le.mpr hbl) B.2.2.1 hi1 dL_law_901 ?_
          generalize xs (v4 + 1).toNatClampNeg = a175 at h ⊢
          refine lv_aload_n M.1 M.2.1 dL_law_902 rfl (lv_at hl 0 rfl) ?_
          refine lv_iload M.1 M.2.1 dL_law_903 (lv_at hl 4 rfl) ?_
          refine lv_iconst (v := 2) M.1 M.2.1 dL_law_905 (by decide) ?_
          refine lv_iadd M.1 M.2.1 dL_law_906 ?_
          obtain ⟨hi1, h⟩ := h
          refine va_sld M.1 M.2.1 hX hbl (Nat.not_le.mpr hbl) B.2.2.1 hi1 dL_law_907 ?_
          generalize xs (v4 + 2).toNatClampNeg = a176 at h ⊢
          refine g_aload_n M dL_law_908 rfl (lv_at hl 3 rfl) ?_
          refine w_calll (k1 := cells + 20) (k2 := slots + 200) B C hd (g_runSL (n := 4) (As := [va_rf v1, .int a175, .int a176, va_rf v3]) (rm := rmL_spared) M B X N (kL_spared (v0 := v1) (v1 := a175) (v2 := a176) (v3 := v3) l D cy adK adV hl0 h _) wmL_124 wstL_spared wnL wcgL_spared ⟨by decide, by decide, by decide +kernel⟩ ⟨by decide, by decide⟩ ⟨by show cells + 1 ≤ 601024; omega, by show slots + 6 ≤ 7293034; omega⟩ rfl hl.1 rfl ct_0 (by decide) dL_law_909) (by show cells + 1 ≤ cells + 20; omega) (by show slots + 6 ≤ slots + 200; omega) (fun a178 S177 H locs h B C hd => ?_)
          refine lv_istore (lv' := [(5, .int a178), (0, .ref b), (1, va_rf v1), (2, va_rf v2), (3, va_rf v3), (4, .int v4)]) M.1 M.2.1 dL_law_912 hl (by decide) (fl_e (fl_k rfl rfl (fl_k rfl rfl (fl_k rfl rfl (fl_k rfl rfl (fl_i rfl fl_0)))))) (fun ls hl => ?_)
          refine g_aload_n M dL_law_914 rfl (lv_at hl 3 rfl) ?_
          refine lv_aload_n M.1 M.2.1 dL_law_915 rfl (lv_at hl 1 rfl) ?_
          refine lv_iload M.1 M.2.1 dL_law_916 (lv_at hl 5 rfl) ?_
          refine lv_iconst (v := 1) M.1 M.2.1 dL_law_918 (by decide) ?_
          refine lv_iadd M.1 M.2.1 dL_law_919 ?_
          obtain ⟨hi1, h⟩ := h
          refine va_sld M.1 M.2.1 hX hbl (Nat.not_le.mpr hbl) B.2.2.1 hi1 dL_law_920 ?_
          generalize xs (v4 + 1).toNatClampNeg = a179 at h ⊢
          refine lv_aload_n M.1 M.2.1 dL_law_921 rfl (lv_at hl 1 rfl) ?_
          refine lv_iload M.1 M.2.1 dL_law_922 (lv_at hl 5 rfl) ?_
          refine lv_iconst (v := 2) M.1 M.2.1 dL_law_924 (by decide) ?_
          refine lv_iadd M.1 M.2.1 dL_law_925 ?_
          obtain ⟨hi1, h⟩ := h
          refine va_sld M.1 M.2.1 hX hbl (Nat.not_le.mpr hbl) B.2.2.1 hi1 dL_law_926 ?_
          generalize xs (v4 + 2).toNatClampNeg = a180 at h ⊢
          obtain ⟨o1, e1, hL1, hK1, h⟩ := h
          refine w_calli (k1 := cells + 20) (k2 := slots + 200) C B hd.sym (g_runV (n := 2) (As := [.int a179, .int a180]) (rm := rmX9_spared) M C e1 (kX9_spared (v0 := v2) (v1 := a179) (v2 := a180) l D cy h _) wmL_126 wiX9_spared wsX9_spared wnX9 wcdX9_spared ⟨rfl, by decide, by decide, by decide +kernel⟩ ⟨by decide, by decide⟩ ⟨by show cells + 20 + 0 ≤ 601024; omega, by show slots + 200 + 0 ≤ 7293034; omega⟩ hL1 hK1 (by decide) rfl rfl rfl hl.1 rfl ct_0 (by decide) dL_law_927) (by show cells + 20 + 0 ≤ cells + 20; omega) (by show slots + 200 + 0 ≤ slots + 200; omega) (fun a182 T181 H locs h C B hdx => ?_)
          have hd := hdx.sym
          refine lv_istore (lv' := [(6, .int a182), (5, .int a178), (0, .ref b), (1, va_rf v1), (2, va_rf v2), (3, va_rf v3), (4, .int v4)]) M.1 M.2.1 dL_law_930 hl (by decide) (fl_e (fl_i rfl (fl_k rfl rfl (fl_k rfl rfl (fl_k rfl rfl (fl_k rfl rfl (fl_k rfl rfl fl_0))))))) (fun ls hl => ?_)
          refine g_aload_n M dL_law_932 rfl (lv_at hl 4 rfl) ?_
          obtain ⟨o1, e1, hL1, hK1, h⟩ := h
          refine w_calli (k1 := cells + 20) (k2 := slots + 200) C B hd.sym (g_runV (n := 0) (As := []) (rm := rmX9_thrown) M C e1 (kX9_thrown (v0 := v2) l D cy h _) wmL_87 wiX9_thrown wsX9_thrown wnX9 wcdX9_thrown ⟨rfl, by decide, by decide, by decide +kernel⟩ ⟨by decide, by decide⟩ ⟨by show cells + 20 + 0 ≤ 601024; omega, by show slots + 200 + 0 ≤ 7293034; omega⟩ hL1 hK1 (by decide) rfl rfl rfl hl.1 rfl ct_0 (by decide) dL_law_933) (by show cells + 20 + 0 ≤ cells + 20; omega) (by show slots + 200 + 0 ≤ slots + 200; omega) (fun a184 T183 H locs h C B hdx => ?_)
          have hd := hdx.sym
          refine lv_iload M.1 M.2.1 dL_law_936 (lv_at hl 1 rfl) ?_
          refine lv_icmp_eq (tgt := 943) M.1 M.2.1 dL_law_938 (by decide) (fun c185 => ?_) (fun c185 => ?_)
          · have h := h.1 c185
            refine lv_iload M.1 M.2.1 dL_law_943 (lv_at hl 1 rfl) ?_
            refine lv_if_ne (tgt := 960) M.1 M.2.1 dL_law_945 (by decide) (fun c186 => ?_) (fun c186 => ?_)
            · have h := h.2 c186
              refine lv_goto (tgt := 1241) M.1 M.2.1 dL_law_960 (by decide) ?_
              refine lv_iinc (v := v4 + 6) (lv' := [(4, .int (v4 + 6)), (6, .int a182), (5, .int a178), (0, .ref b), (1, va_rf v1), (2, va_rf v2), (3, va_rf v3)]) M.1 M.2.1 dL_law_1241 hl (k := 6) rfl rfl (by decide) (fl_e (fl_k rfl rfl (fl_k rfl rfl (fl_k rfl rfl (fl_k rfl rfl (fl_k rfl rfl (fl_r rfl (fl_d rfl fl_0)))))))) (fun ls hl => ?_)
              refine lv_goto (tgt := 23) M.1 M.2.1 dL_law_1244 (by decide) ?_
              exact ih _ _ _ _ _ _ h _ _ _ _ _ (by omega) (by omega) B C hd (lv_sub hl [3, 4, 5, 6, 0] rfl)
            · have h := h.1 c186
              refine g_aload_n M dL_law_948 rfl (lv_at hl 5 rfl) ?_
              refine lv_iconst (v := 0) M.1 M.2.1 dL_law_949 (by decide) ?_
              refine g_lald M B dL_law_950 h (fun a187 h => ?_)
              refine lv_iload M.1 M.2.1 dL_law_951 (lv_at hl 0 rfl) ?_
              refine lv_i2l (v := a182.toInt64) M.1 M.2.1 dL_law_953 rfl ?_
              refine W.lcmp M.1 M.2.1 dL_law_954 ?_
              refine lv_if_eq (tgt := 960) M.1 M.2.1 dL_law_955 (by decide) (fun c188 => ?_) (fun c188 => ?_)
              · have h := h.1 c188
                refine lv_goto (tgt := 1241) M.1 M.2.1 dL_law_960 (by decide) ?_
                refine lv_iinc (v := v4 + 6) (lv' := [(4, .int (v4 + 6)), (6, .int a182), (5, .int a178), (0, .ref b), (1, va_rf v1), (2, va_rf v2), (3, va_rf v3)]) M.1 M.2.1 dL_law_1241 hl (k := 6) rfl rfl (by decide) (fl_e (fl_k rfl rfl (fl_k rfl rfl (fl_k rfl rfl (fl_k rfl rfl (fl_k rfl rfl (fl_r rfl (fl_d rfl fl_0)))))))) (fun ls hl => ?_)
                refine lv_goto (tgt := 23) M.1 M.2.1 dL_law_1244 (by decide) ?_
                exact ih _ _ _ _ _ _ h _ _ _ _ _ (by omega) (by omega) B C hd (lv_sub hl [3, 4, 5, 6, 0] rfl)
              · have h := h.2 c188
                refine lv_iconst (v := 0) M.1 M.2.1 dL_law_958 (by decide) ?_
                exact h.elim
          · have h := h.2 c185
            refine lv_iconst (v := 0) M.1 M.2.1 dL_law_941 (by decide) ?_
            exact h.elim
        have h := h.2 c189
        by_cases c198 : (a2 &&& 31).toInt = 13
        · have h := h.1 c198
          refine lv_tableIn (tgt := 963) (off := 923) M.1 M.2.1 dL_law_40 (fun q => c3 (Or.inl q)) (fun q => c3 (Or.inr q)) (by rw [c198]; rfl) (by decide) ?_
          refine g_aload_n M dL_law_963 rfl (lv_at hl 1 rfl) ?_
          refine lv_aload_n M.1 M.2.1 dL_law_964 rfl (lv_at hl 0 rfl) ?_
          refine lv_iload M.1 M.2.1 dL_law_965 (lv_at hl 4 rfl) ?_
          refine lv_iconst (v := 1) M.1 M.2.1 dL_law_967 (by decide) ?_
          refine lv_iadd M.1 M.2.1 dL_law_968 ?_
          obtain ⟨hi1, h⟩ := h
          refine va_sld M.1 M.2.1 hX hbl (Nat.not_le.mpr hbl) B.2.2.1 hi1 dL_law_969 ?_
          generalize xs (v4 + 1).toNatClampNeg = a190 at h ⊢
          refine w_calll (k1 := cells + 20) (k2 := slots + 200) B C hd (g_runSL (n := 2) (As := [va_rf v1, .int a190]) (rm := rmL_gap) M B X N (kL_gap (v0 := v1) (v1 := a190) l D cy adK adV hl0 h _) wmL_127 wstL_gap wnL wcgL_gap ⟨by decide, by decide, by decide +kernel⟩ ⟨by decide, by decide⟩ ⟨by show cells + 1 ≤ 601024; omega, by show slots + 6 ≤ 7293034; omega⟩ rfl hl.1 rfl ct_0 (by decide) dL_law_970) (by show cells + 1 ≤ cells + 20; omega) (by show slots + 6 ≤ slots + 200; omega) (fun a192 S191 H locs h B C hd => ?_)
          refine lv_istore (lv' := [(5, .int a192), (0, .ref b), (1, va_rf v1), (2, va_rf v2), (3, va_rf v3), (4, .int v4)]) M.1 M.2.1 dL_law_973 hl (by decide) (fl_e (fl_k rfl rfl (fl_k rfl rfl (fl_k rfl rfl (fl_k rfl rfl (fl_i rfl fl_0)))))) (fun ls hl => ?_)
          refine g_aload_n M dL_law_975 rfl (lv_at hl 3 rfl) ?_
          refine lv_aload_n M.1 M.2.1 dL_law_976 rfl (lv_at hl 1 rfl) ?_
          refine lv_iload M.1 M.2.1 dL_law_977 (lv_at hl 5 rfl) ?_
          refine lv_iconst (v := 1) M.1 M.2.1 dL_law_979 (by decide) ?_
          refine lv_iadd M.1 M.2.1 dL_law_980 ?_
          obtain ⟨hi1, h⟩ := h
          refine va_sld M.1 M.2.1 hX hbl (Nat.not_le.mpr hbl) B.2.2.1 hi1 dL_law_981 ?_
          generalize xs (v4 + 1).toNatClampNeg = a193 at h ⊢
          obtain ⟨o1, e1, hL1, hK1, h⟩ := h
          refine w_callv (k1 := cells + 20) (k2 := slots + 200) C B hd.sym (g_runV (n := 1) (As := [.int a193]) (rm := rmX9_gap) M C e1 (kX9_gap (v0 := v2) (v1 := a193) l D cy h _) wmL_130 wiX9_gap wsX9_gap wnX9 wcdX9_gap ⟨rfl, by decide, by decide, by decide +kernel⟩ ⟨by decide, by decide⟩ ⟨by show cells + 20 + 0 ≤ 601024; omega, by show slots + 200 + 0 ≤ 7293034; omega⟩ hL1 hK1 (by decide) rfl rfl rfl hl.1 rfl ct_0 (by decide) dL_law_982) (by show cells + 20 + 0 ≤ cells + 20; omega) (by show slots + 200 + 0 ≤ slots + 200; omega) (fun T194 H locs h C B hdx => ?_)
          have hd := hdx.sym
          refine g_aload_n M dL_law_985 rfl (lv_at hl 3 rfl) ?_
          obtain ⟨o1, e1, hL1, hK1, h⟩ := h
          refine w_calli (k1 := cells + 20) (k2 := slots + 200) C B hd.sym (g_runV (n := 0) (As := []) (rm := rmX9_thrown) M C e1 (kX9_thrown (v0 := v2) l D cy h _) wmL_87 wiX9_thrown wsX9_thrown wnX9 wcdX9_thrown ⟨rfl, by decide, by decide, by decide +kernel⟩ ⟨by decide, by decide⟩ ⟨by show cells + 20 + 0 ≤ 601024; omega, by show slots + 200 + 0 ≤ 7293034; omega⟩ hL1 hK1 (by decide) rfl rfl rfl hl.1 rfl ct_0 (by decide) dL_law_986) (by show cells + 20 + 0 ≤ cells + 20; omega) (by show slots + 200 + 0 ≤ slots + 200; omega) (fun a196 T195 H locs h C B hdx => ?_)
          have hd := hdx.sym
          refine lv_iload M.1 M.2.1 dL_law_989 (lv_at hl 0 rfl) ?_
          refine lv_icmp_eq (tgt := 996) M.1 M.2.1 dL_law_991 (by decide) (fun c197 => ?_) (fun c197 => ?_)
          · have h := h.1 c197
            refine lv_goto (tgt := 1241) M.1 M.2.1 dL_law_996 (by decide) ?_
            refine lv_iinc (v := v4 + 6) (lv' := [(4, .int (v4 + 6)), (5, .int a192), (0, .ref b), (1, va_rf v1), (2, va_rf v2), (3, va_rf v3)]) M.1 M.2.1 dL_law_1241 hl (k := 5) rfl rfl (by decide) (fl_e (fl_k rfl rfl (fl_k rfl rfl (fl_k rfl rfl (fl_k rfl rfl (fl_r rfl (fl_d rfl fl_0))))))) (fun ls hl => ?_)
            refine lv_goto (tgt := 23) M.1 M.2.1 dL_law_1244 (by decide) ?_
            exact ih _ _ _ _ _ _ h _ _ _ _ _ (by omega) (by omega) B C hd (lv_sub hl [2, 3, 4, 5, 0] rfl)
          · have h := h.2 c197
            refine lv_iconst (v := 0) M.1 M.2.1 dL_law_994 (by decide) ?_
            exact h.elim
        have h := h.2 c198
        by_cases c204 : (a2 &&& 31).toInt = 14
        · have h := h.1 c204
          refine lv_tableIn (tgt := 999) (off := 959) M.1 M.2.1 dL_law_40 (fun q => c3 (Or.inl q)) (fun q => c3 (Or.inr q)) (by rw [c204]; rfl) (by decide) ?_
          refine g_aload_n M dL_law_999 rfl (lv_at hl 1 rfl) ?_
          obtain ⟨o1, e1, hL1, hK1, h⟩ := h
          refine w_calli (k1 := cells + 20) (k2 := slots + 200) B C hd (g_runV (n := 0) (As := []) (rm := rmX8_cases) M B e1 (kX8_cases (v0 := v1) l D cy h _) wmL_131 wiX8_cases wsX8_cases wnX8 wcdX8_cases ⟨rfl, by decide, by decide, by decide +kernel⟩ ⟨by decide, by decide⟩ ⟨by show cells + 0 ≤ 601024; omega, by show slots + 0 ≤ 7293034; omega⟩ hL1 hK1 (by decide) rfl rfl rfl hl.1 rfl ct_0 (by decide) dL_law_1000) (by show cells + 0 ≤ cells + 20; omega) (by show slots + 0 ≤ slots + 200; omega) (fun a200 S199 H locs h B C hd => ?_)
          refine g_aload_n M dL_law_1003 rfl (lv_at hl 2 rfl) ?_
          obtain ⟨o1, e1, hL1, hK1, h⟩ := h
          refine w_calli (k1 := cells + 20) (k2 := slots + 200) C B hd.sym (g_runV (n := 0) (As := []) (rm := rmX9_cases) M C e1 (kX9_cases (v0 := v2) l D cy h _) wmL_134 wiX9_cases wsX9_cases wnX9 wcdX9_cases ⟨rfl, by decide, by decide, by decide +kernel⟩ ⟨by decide, by decide⟩ ⟨by show cells + 20 + 0 ≤ 601024; omega, by show slots + 200 + 0 ≤ 7293034; omega⟩ hL1 hK1 (by decide) rfl rfl rfl hl.1 rfl (ct_i ct_0) (by decide) dL_law_1004) (by show cells + 20 + 0 ≤ cells + 20; omega) (by show slots + 200 + 0 ≤ slots + 200; omega) (fun a202 T201 H locs h C B hdx => ?_)
          have hd := hdx.sym
          refine lv_icmp_eq (tgt := 1241) M.1 M.2.1 dL_law_1007 (by decide) (fun c203 => ?_) (fun c203 => ?_)
          · have h := h.1 c203
            refine lv_iinc (v := v4 + 6) (lv' := [(4, .int (v4 + 6)), (0, .ref b), (1, va_rf v1), (2, va_rf v2), (3, va_rf v3)]) M.1 M.2.1 dL_law_1241 hl (k := 4) rfl rfl (by decide) (fl_e (fl_k rfl rfl (fl_k rfl rfl (fl_k rfl rfl (fl_r rfl (fl_d rfl fl_0)))))) (fun ls hl => ?_)
            refine lv_goto (tgt := 23) M.1 M.2.1 dL_law_1244 (by decide) ?_
            exact ih _ _ _ _ _ _ h _ _ _ _ _ (by omega) (by omega) B C hd (lv_sub hl [1, 2, 3, 4, 0] rfl)
          · have h := h.2 c203
            refine lv_iconst (v := 0) M.1 M.2.1 dL_law_1010 (by decide) ?_
            exact h.elim
        have h := h.2 c204
        by_cases c219 : (a2 &&& 31).toInt = 15
        · have h := h.1 c219
          refine lv_tableIn (tgt := 1012) (off := 972) M.1 M.2.1 dL_law_40 (fun q => c3 (Or.inl q)) (fun q => c3 (Or.inr q)) (by rw [c219]; rfl) (by decide) ?_
          refine g_aload_n M dL_law_1012 rfl (lv_at hl 1 rfl) ?_
          refine lv_aload_n M.1 M.2.1 dL_law_1013 rfl (lv_at hl 0 rfl) ?_
          refine lv_iload M.1 M.2.1 dL_law_1014 (lv_at hl 4 rfl) ?_
          refine lv_iconst (v := 1) M.1 M.2.1 dL_law_1016 (by decide) ?_
          refine lv_iadd M.1 M.2.1 dL_law_1017 ?_
          obtain ⟨hi1, h⟩ := h
          refine va_sld M.1 M.2.1 hX hbl (Nat.not_le.mpr hbl) B.2.2.1 hi1 dL_law_1018 ?_
          generalize xs (v4 + 1).toNatClampNeg = a205 at h ⊢
          refine lv_aload_n M.1 M.2.1 dL_law_1019 rfl (lv_at hl 0 rfl) ?_
          refine lv_iload M.1 M.2.1 dL_law_1020 (lv_at hl 4 rfl) ?_
          refine lv_iconst (v := 2) M.1 M.2.1 dL_law_1022 (by decide) ?_
          refine lv_iadd M.1 M.2.1 dL_law_1023 ?_
          obtain ⟨hi1, h⟩ := h
          refine va_sld M.1 M.2.1 hX hbl (Nat.not_le.mpr hbl) B.2.2.1 hi1 dL_law_1024 ?_
          generalize xs (v4 + 2).toNatClampNeg = a206 at h ⊢
          refine g_aload_n M dL_law_1025 rfl (lv_at hl 3 rfl) ?_
          refine w_calll (k1 := cells + 20) (k2 := slots + 200) B C hd (g_runSL (n := 4) (As := [va_rf v1, .int a205, .int a206, va_rf v3]) (rm := rmL_joined) M B X N (kL_joined (v0 := v1) (v1 := a205) (v2 := a206) (v3 := v3) l D cy adK adV hl0 h _) wmL_135 wstL_joined wnL wcgL_joined ⟨by decide, by decide, by decide +kernel⟩ ⟨by decide, by decide⟩ ⟨by show cells + 3 ≤ 601024; omega, by show slots + 18 ≤ 7293034; omega⟩ rfl hl.1 rfl ct_0 (by decide) dL_law_1026) (by show cells + 3 ≤ cells + 20; omega) (by show slots + 18 ≤ slots + 200; omega) (fun a208 S207 H locs h B C hd => ?_)
          refine lv_istore (lv' := [(5, .int a208), (0, .ref b), (1, va_rf v1), (2, va_rf v2), (3, va_rf v3), (4, .int v4)]) M.1 M.2.1 dL_law_1029 hl (by decide) (fl_e (fl_k rfl rfl (fl_k rfl rfl (fl_k rfl rfl (fl_k rfl rfl (fl_i rfl fl_0)))))) (fun ls hl => ?_)
          refine g_aload_n M dL_law_1031 rfl (lv_at hl 3 rfl) ?_
          refine lv_aload_n M.1 M.2.1 dL_law_1032 rfl (lv_at hl 1 rfl) ?_
          refine lv_iload M.1 M.2.1 dL_law_1033 (lv_at hl 5 rfl) ?_
          refine lv_iconst (v := 1) M.1 M.2.1 dL_law_1035 (by decide) ?_
          refine lv_iadd M.1 M.2.1 dL_law_1036 ?_
          obtain ⟨hi1, h⟩ := h
          refine va_sld M.1 M.2.1 hX hbl (Nat.not_le.mpr hbl) B.2.2.1 hi1 dL_law_1037 ?_
          generalize xs (v4 + 1).toNatClampNeg = a209 at h ⊢
          refine lv_aload_n M.1 M.2.1 dL_law_1038 rfl (lv_at hl 1 rfl) ?_
          refine lv_iload M.1 M.2.1 dL_law_1039 (lv_at hl 5 rfl) ?_
          refine lv_iconst (v := 2) M.1 M.2.1 dL_law_1041 (by decide) ?_
          refine lv_iadd M.1 M.2.1 dL_law_1042 ?_
          obtain ⟨hi1, h⟩ := h
          refine va_sld M.1 M.2.1 hX hbl (Nat.not_le.mpr hbl) B.2.2.1 hi1 dL_law_1043 ?_
          generalize xs (v4 + 2).toNatClampNeg = a210 at h ⊢
          obtain ⟨o1, e1, hL1, hK1, h⟩ := h
          refine w_calli (k1 := cells + 20) (k2 := slots + 200) C B hd.sym (g_runV (n := 2) (As := [.int a209, .int a210]) (rm := rmX9_joined) M C e1 (kX9_joined (v0 := v2) (v1 := a209) (v2 := a210) l D cy h _) wmL_137 wiX9_joined wsX9_joined wnX9 wcdX9_joined ⟨rfl, by decide, by decide, by decide +kernel⟩ ⟨by decide, by decide⟩ ⟨by show cells + 20 + 0 ≤ 601024; omega, by show slots + 200 + 0 ≤ 7293034; omega⟩ hL1 hK1 (by decide) rfl rfl rfl hl.1 rfl ct_0 (by decide) dL_law_1044) (by show cells + 20 + 0 ≤ cells + 20; omega) (by show slots + 200 + 0 ≤ slots + 200; omega) (fun a212 T211 H locs h C B hdx => ?_)
          have hd := hdx.sym
          refine lv_istore (lv' := [(6, .int a212), (5, .int a208), (0, .ref b), (1, va_rf v1), (2, va_rf v2), (3, va_rf v3), (4, .int v4)]) M.1 M.2.1 dL_law_1047 hl (by decide) (fl_e (fl_i rfl (fl_k rfl rfl (fl_k rfl rfl (fl_k rfl rfl (fl_k rfl rfl (fl_k rfl rfl fl_0))))))) (fun ls hl => ?_)
          refine g_aload_n M dL_law_1049 rfl (lv_at hl 4 rfl) ?_
          obtain ⟨o1, e1, hL1, hK1, h⟩ := h
          refine w_calli (k1 := cells + 20) (k2 := slots + 200) C B hd.sym (g_runV (n := 0) (As := []) (rm := rmX9_thrown) M C e1 (kX9_thrown (v0 := v2) l D cy h _) wmL_87 wiX9_thrown wsX9_thrown wnX9 wcdX9_thrown ⟨rfl, by decide, by decide, by decide +kernel⟩ ⟨by decide, by decide⟩ ⟨by show cells + 20 + 0 ≤ 601024; omega, by show slots + 200 + 0 ≤ 7293034; omega⟩ hL1 hK1 (by decide) rfl rfl rfl hl.1 rfl ct_0 (by decide) dL_law_1050) (by show cells + 20 + 0 ≤ cells + 20; omega) (by show slots + 200 + 0 ≤ slots + 200; omega) (fun a214 T213 H locs h C B hdx => ?_)
          have hd := hdx.sym
          refine lv_iload M.1 M.2.1 dL_law_1053 (lv_at hl 1 rfl) ?_
          refine lv_icmp_eq (tgt := 1060) M.1 M.2.1 dL_law_1055 (by decide) (fun c215 => ?_) (fun c215 => ?_)
          · have h := h.1 c215
            refine lv_iload M.1 M.2.1 dL_law_1060 (lv_at hl 1 rfl) ?_
            refine lv_if_ne (tgt := 1077) M.1 M.2.1 dL_law_1062 (by decide) (fun c216 => ?_) (fun c216 => ?_)
            · have h := h.2 c216
              refine lv_goto (tgt := 1241) M.1 M.2.1 dL_law_1077 (by decide) ?_
              refine lv_iinc (v := v4 + 6) (lv' := [(4, .int (v4 + 6)), (6, .int a212), (5, .int a208), (0, .ref b), (1, va_rf v1), (2, va_rf v2), (3, va_rf v3)]) M.1 M.2.1 dL_law_1241 hl (k := 6) rfl rfl (by decide) (fl_e (fl_k rfl rfl (fl_k rfl rfl (fl_k rfl rfl (fl_k rfl rfl (fl_k rfl rfl (fl_r rfl (fl_d rfl fl_0)))))))) (fun ls hl => ?_)
              refine lv_goto (tgt := 23) M.1 M.2.1 dL_law_1244 (by decide) ?_
              exact ih _ _ _ _ _ _ h _ _ _ _ _ (by omega) (by omega) B C hd (lv_sub hl [3, 4, 5, 6, 0] rfl)
            · have h := h.1 c216
              refine g_aload_n M dL_law_1065 rfl (lv_at hl 5 rfl) ?_
              refine lv_iconst (v := 0) M.1 M.2.1 dL_law_1066 (by decide) ?_
              refine g_lald M B dL_law_1067 h (fun a217 h => ?_)
              refine lv_iload M.1 M.2.1 dL_law_1068 (lv_at hl 0 rfl) ?_
              refine lv_i2l (v := a212.toInt64) M.1 M.2.1 dL_law_1070 rfl ?_
              refine W.lcmp M.1 M.2.1 dL_law_1071 ?_
              refine lv_if_eq (tgt := 1077) M.1 M.2.1 dL_law_1072 (by decide) (fun c218 => ?_) (fun c218 => ?_)
              · have h := h.1 c218
                refine lv_goto (tgt := 1241) M.1 M.2.1 dL_law_1077 (by decide) ?_
                refine lv_iinc (v := v4 + 6) (lv' := [(4, .int (v4 + 6)), (6, .int a212), (5, .int a208), (0, .ref b), (1, va_rf v1), (2, va_rf v2), (3, va_rf v3)]) M.1 M.2.1 dL_law_1241 hl (k := 6) rfl rfl (by decide) (fl_e (fl_k rfl rfl (fl_k rfl rfl (fl_k rfl rfl (fl_k rfl rfl (fl_k rfl rfl (fl_r rfl (fl_d rfl fl_0)))))))) (fun ls hl => ?_)
                refine lv_goto (tgt := 23) M.1 M.2.1 dL_law_1244 (by decide) ?_
                exact ih _ _ _ _ _ _ h _ _ _ _ _ (by omega) (by omega) B C hd (lv_sub hl [3, 4, 5, 6, 0] rfl)
              · have h := h.2 c218
                refine lv_iconst (v := 0) M.1 M.2.1 dL_law_1075 (by decide) ?_
                exact h.elim
          · have h := h.2 c215
            refine lv_iconst (v := 0) M.1 M.2.1 dL_law_1058 (by decide) ?_
            exact h.elim
        have h := h.2 c219
        by_cases c234 : (a2 &&& 31).toInt = 16
        · have h := h.1 c234
          refine lv_tableIn (tgt := 1080) (off := 1040) M.1 M.2.1 dL_law_40 (fun q => c3 (Or.inl q)) (fun q => c3 (Or.inr q)) (by rw [c234]; rfl) (by decide) ?_
          refine g_aload_n M dL_law_1080 rfl (lv_at hl 1 rfl) ?_
          refine lv_aload_n M.1 M.2.1 dL_law_1081 rfl (lv_at hl 0 rfl) ?_
          refine lv_iload M.1 M.2.1 dL_law_1082 (lv_at hl 4 rfl) ?_
          refine lv_iconst (v := 1) M.1 M.2.1 dL_law_1084 (by decide) ?_
          refine lv_iadd M.1 M.2.1 dL_law_1085 ?_
          obtain ⟨hi1, h⟩ := h
          refine va_sld M.1 M.2.1 hX hbl (Nat.not_le.mpr hbl) B.2.2.1 hi1 dL_law_1086 ?_
          generalize xs (v4 + 1).toNatClampNeg = a220 at h ⊢
          refine lv_aload_n M.1 M.2.1 dL_law_1087 rfl (lv_at hl 0 rfl) ?_
          refine lv_iload M.1 M.2.1 dL_law_1088 (lv_at hl 4 rfl) ?_
          refine lv_iconst (v := 2) M.1 M.2.1 dL_law_1090 (by decide) ?_
          refine lv_iadd M.1 M.2.1 dL_law_1091 ?_
          obtain ⟨hi1, h⟩ := h
          refine va_sld M.1 M.2.1 hX hbl (Nat.not_le.mpr hbl) B.2.2.1 hi1 dL_law_1092 ?_
          generalize xs (v4 + 2).toNatClampNeg = a221 at h ⊢
          refine g_aload_n M dL_law_1093 rfl (lv_at hl 3 rfl) ?_
          refine w_calll (k1 := cells + 20) (k2 := slots + 200) B C hd (g_runSL (n := 4) (As := [va_rf v1, .int a220, .int a221, va_rf v3]) (rm := rmL_cost) M B X N (kL_cost (v0 := v1) (v1 := a220) (v2 := a221) (v3 := v3) l D cy adK adV hl0 h _) wmL_138 wstL_cost wnL wcgL_cost ⟨by decide, by decide, by decide +kernel⟩ ⟨by decide, by decide⟩ ⟨by show cells + 1 ≤ 601024; omega, by show slots + 6 ≤ 7293034; omega⟩ rfl hl.1 rfl ct_0 (by decide) dL_law_1094) (by show cells + 1 ≤ cells + 20; omega) (by show slots + 6 ≤ slots + 200; omega) (fun a223 S222 H locs h B C hd => ?_)
          refine lv_istore (lv' := [(5, .int a223), (0, .ref b), (1, va_rf v1), (2, va_rf v2), (3, va_rf v3), (4, .int v4)]) M.1 M.2.1 dL_law_1097 hl (by decide) (fl_e (fl_k rfl rfl (fl_k rfl rfl (fl_k rfl rfl (fl_k rfl rfl (fl_i rfl fl_0)))))) (fun ls hl => ?_)
          refine g_aload_n M dL_law_1099 rfl (lv_at hl 3 rfl) ?_
          refine lv_aload_n M.1 M.2.1 dL_law_1100 rfl (lv_at hl 1 rfl) ?_
          refine lv_iload M.1 M.2.1 dL_law_1101 (lv_at hl 5 rfl) ?_
          refine lv_iconst (v := 1) M.1 M.2.1 dL_law_1103 (by decide) ?_
          refine lv_iadd M.1 M.2.1 dL_law_1104 ?_
          obtain ⟨hi1, h⟩ := h
          refine va_sld M.1 M.2.1 hX hbl (Nat.not_le.mpr hbl) B.2.2.1 hi1 dL_law_1105 ?_
          generalize xs (v4 + 1).toNatClampNeg = a224 at h ⊢
          refine lv_aload_n M.1 M.2.1 dL_law_1106 rfl (lv_at hl 1 rfl) ?_
          refine lv_iload M.1 M.2.1 dL_law_1107 (lv_at hl 5 rfl) ?_
          refine lv_iconst (v := 2) M.1 M.2.1 dL_law_1109 (by decide) ?_
          refine lv_iadd M.1 M.2.1 dL_law_1110 ?_
          obtain ⟨hi1, h⟩ := h
          refine va_sld M.1 M.2.1 hX hbl (Nat.not_le.mpr hbl) B.2.2.1 hi1 dL_law_1111 ?_
          generalize xs (v4 + 2).toNatClampNeg = a225 at h ⊢
          obtain ⟨o1, e1, hL1, hK1, h⟩ := h
          refine w_calli (k1 := cells + 20) (k2 := slots + 200) C B hd.sym (g_runV (n := 2) (As := [.int a224, .int a225]) (rm := rmX9_cost) M C e1 (kX9_cost (v0 := v2) (v1 := a224) (v2 := a225) l D cy h _) wmL_140 wiX9_cost wsX9_cost wnX9 wcdX9_cost ⟨rfl, by decide, by decide, by decide +kernel⟩ ⟨by decide, by decide⟩ ⟨by show cells + 20 + 0 ≤ 601024; omega, by show slots + 200 + 0 ≤ 7293034; omega⟩ hL1 hK1 (by decide) rfl rfl rfl hl.1 rfl ct_0 (by decide) dL_law_1112) (by show cells + 20 + 0 ≤ cells + 20; omega) (by show slots + 200 + 0 ≤ slots + 200; omega) (fun a227 T226 H locs h C B hdx => ?_)
          have hd := hdx.sym
          refine lv_istore (lv' := [(6, .int a227), (5, .int a223), (0, .ref b), (1, va_rf v1), (2, va_rf v2), (3, va_rf v3), (4, .int v4)]) M.1 M.2.1 dL_law_1115 hl (by decide) (fl_e (fl_i rfl (fl_k rfl rfl (fl_k rfl rfl (fl_k rfl rfl (fl_k rfl rfl (fl_k rfl rfl fl_0))))))) (fun ls hl => ?_)
          refine g_aload_n M dL_law_1117 rfl (lv_at hl 4 rfl) ?_
          obtain ⟨o1, e1, hL1, hK1, h⟩ := h
          refine w_calli (k1 := cells + 20) (k2 := slots + 200) C B hd.sym (g_runV (n := 0) (As := []) (rm := rmX9_thrown) M C e1 (kX9_thrown (v0 := v2) l D cy h _) wmL_87 wiX9_thrown wsX9_thrown wnX9 wcdX9_thrown ⟨rfl, by decide, by decide, by decide +kernel⟩ ⟨by decide, by decide⟩ ⟨by show cells + 20 + 0 ≤ 601024; omega, by show slots + 200 + 0 ≤ 7293034; omega⟩ hL1 hK1 (by decide) rfl rfl rfl hl.1 rfl ct_0 (by decide) dL_law_1118) (by show cells + 20 + 0 ≤ cells + 20; omega) (by show slots + 200 + 0 ≤ slots + 200; omega) (fun a229 T228 H locs h C B hdx => ?_)
          have hd := hdx.sym
          refine lv_iload M.1 M.2.1 dL_law_1121 (lv_at hl 1 rfl) ?_
          refine lv_icmp_eq (tgt := 1128) M.1 M.2.1 dL_law_1123 (by decide) (fun c230 => ?_) (fun c230 => ?_)
          · have h := h.1 c230
            refine lv_iload M.1 M.2.1 dL_law_1128 (lv_at hl 1 rfl) ?_
            refine lv_if_ne (tgt := 1145) M.1 M.2.1 dL_law_1130 (by decide) (fun c231 => ?_) (fun c231 => ?_)
            · have h := h.2 c231
              refine lv_goto (tgt := 1241) M.1 M.2.1 dL_law_1145 (by decide) ?_
              refine lv_iinc (v := v4 + 6) (lv' := [(4, .int (v4 + 6)), (6, .int a227), (5, .int a223), (0, .ref b), (1, va_rf v1), (2, va_rf v2), (3, va_rf v3)]) M.1 M.2.1 dL_law_1241 hl (k := 6) rfl rfl (by decide) (fl_e (fl_k rfl rfl (fl_k rfl rfl (fl_k rfl rfl (fl_k rfl rfl (fl_k rfl rfl (fl_r rfl (fl_d rfl fl_0)))))))) (fun ls hl => ?_)
              refine lv_goto (tgt := 23) M.1 M.2.1 dL_law_1244 (by decide) ?_
              exact ih _ _ _ _ _ _ h _ _ _ _ _ (by omega) (by omega) B C hd (lv_sub hl [3, 4, 5, 6, 0] rfl)
            · have h := h.1 c231
              refine g_aload_n M dL_law_1133 rfl (lv_at hl 5 rfl) ?_
              refine lv_iconst (v := 0) M.1 M.2.1 dL_law_1134 (by decide) ?_
              refine g_lald M B dL_law_1135 h (fun a232 h => ?_)
              refine lv_iload M.1 M.2.1 dL_law_1136 (lv_at hl 0 rfl) ?_
              refine lv_i2l (v := a227.toInt64) M.1 M.2.1 dL_law_1138 rfl ?_
              refine W.lcmp M.1 M.2.1 dL_law_1139 ?_
              refine lv_if_eq (tgt := 1145) M.1 M.2.1 dL_law_1140 (by decide) (fun c233 => ?_) (fun c233 => ?_)
              · have h := h.1 c233
                refine lv_goto (tgt := 1241) M.1 M.2.1 dL_law_1145 (by decide) ?_
                refine lv_iinc (v := v4 + 6) (lv' := [(4, .int (v4 + 6)), (6, .int a227), (5, .int a223), (0, .ref b), (1, va_rf v1), (2, va_rf v2), (3, va_rf v3)]) M.1 M.2.1 dL_law_1241 hl (k := 6) rfl rfl (by decide) (fl_e (fl_k rfl rfl (fl_k rfl rfl (fl_k rfl rfl (fl_k rfl rfl (fl_k rfl rfl (fl_r rfl (fl_d rfl fl_0)))))))) (fun ls hl => ?_)
                refine lv_goto (tgt := 23) M.1 M.2.1 dL_law_1244 (by decide) ?_
                exact ih _ _ _ _ _ _ h _ _ _ _ _ (by omega) (by omega) B C hd (lv_sub hl [3, 4, 5, 6, 0] rfl)
              · have h := h.2 c233
                refine lv_iconst (v := 0) M.1 M.2.1 dL_law_1143 (by decide) ?_
                exact h.elim
          · have h := h.2 c230
            refine lv_iconst (v := 0) M.1 M.2.1 dL_law_1126 (by decide) ?_
            exact h.elim
        have h := h.2 c234
        by_cases c249 : (a2 &&& 31).toInt = 17
        · have h := h.1 c249
          refine lv_tableIn (tgt := 1148) (off := 1108) M.1 M.2.1 dL_law_40 (fun q => c3 (Or.inl q)) (fun q => c3 (Or.inr q)) (by rw [c249]; rfl) (by decide) ?_
          refine g_aload_n M dL_law_1148 rfl (lv_at hl 1 rfl) ?_
          refine lv_aload_n M.1 M.2.1 dL_law_1149 rfl (lv_at hl 0 rfl) ?_
          refine lv_iload M.1 M.2.1 dL_law_1150 (lv_at hl 4 rfl) ?_
          refine lv_iconst (v := 1) M.1 M.2.1 dL_law_1152 (by decide) ?_
          refine lv_iadd M.1 M.2.1 dL_law_1153 ?_
          obtain ⟨hi1, h⟩ := h
          refine va_sld M.1 M.2.1 hX hbl (Nat.not_le.mpr hbl) B.2.2.1 hi1 dL_law_1154 ?_
          generalize xs (v4 + 1).toNatClampNeg = a235 at h ⊢
          refine lv_aload_n M.1 M.2.1 dL_law_1155 rfl (lv_at hl 0 rfl) ?_
          refine lv_iload M.1 M.2.1 dL_law_1156 (lv_at hl 4 rfl) ?_
          refine lv_iconst (v := 2) M.1 M.2.1 dL_law_1158 (by decide) ?_
          refine lv_iadd M.1 M.2.1 dL_law_1159 ?_
          obtain ⟨hi1, h⟩ := h
          refine va_sld M.1 M.2.1 hX hbl (Nat.not_le.mpr hbl) B.2.2.1 hi1 dL_law_1160 ?_
          generalize xs (v4 + 2).toNatClampNeg = a236 at h ⊢
          refine g_aload_n M dL_law_1161 rfl (lv_at hl 3 rfl) ?_
          refine w_calll (k1 := cells + 20) (k2 := slots + 200) B C hd (g_runSL (n := 4) (As := [va_rf v1, .int a235, .int a236, va_rf v3]) (rm := rmL_widest) M B X N (kL_widest (v0 := v1) (v1 := a235) (v2 := a236) (v3 := v3) l D cy adK adV hl0 h _) wmL_141 wstL_widest wnL wcgL_widest ⟨by decide, by decide, by decide +kernel⟩ ⟨by decide, by decide⟩ ⟨by show cells + 1 ≤ 601024; omega, by show slots + 6 ≤ 7293034; omega⟩ rfl hl.1 rfl ct_0 (by decide) dL_law_1162) (by show cells + 1 ≤ cells + 20; omega) (by show slots + 6 ≤ slots + 200; omega) (fun a238 S237 H locs h B C hd => ?_)
          refine lv_istore (lv' := [(5, .int a238), (0, .ref b), (1, va_rf v1), (2, va_rf v2), (3, va_rf v3), (4, .int v4)]) M.1 M.2.1 dL_law_1165 hl (by decide) (fl_e (fl_k rfl rfl (fl_k rfl rfl (fl_k rfl rfl (fl_k rfl rfl (fl_i rfl fl_0)))))) (fun ls hl => ?_)
          refine g_aload_n M dL_law_1167 rfl (lv_at hl 3 rfl) ?_
          refine lv_aload_n M.1 M.2.1 dL_law_1168 rfl (lv_at hl 1 rfl) ?_
          refine lv_iload M.1 M.2.1 dL_law_1169 (lv_at hl 5 rfl) ?_
          refine lv_iconst (v := 1) M.1 M.2.1 dL_law_1171 (by decide) ?_
          refine lv_iadd M.1 M.2.1 dL_law_1172 ?_
          obtain ⟨hi1, h⟩ := h
          refine va_sld M.1 M.2.1 hX hbl (Nat.not_le.mpr hbl) B.2.2.1 hi1 dL_law_1173 ?_
          generalize xs (v4 + 1).toNatClampNeg = a239 at h ⊢
          refine lv_aload_n M.1 M.2.1 dL_law_1174 rfl (lv_at hl 1 rfl) ?_
          refine lv_iload M.1 M.2.1 dL_law_1175 (lv_at hl 5 rfl) ?_
          refine lv_iconst (v := 2) M.1 M.2.1 dL_law_1177 (by decide) ?_
          refine lv_iadd M.1 M.2.1 dL_law_1178 ?_
          obtain ⟨hi1, h⟩ := h
          refine va_sld M.1 M.2.1 hX hbl (Nat.not_le.mpr hbl) B.2.2.1 hi1 dL_law_1179 ?_
          generalize xs (v4 + 2).toNatClampNeg = a240 at h ⊢
          obtain ⟨o1, e1, hL1, hK1, h⟩ := h
          refine w_calli (k1 := cells + 20) (k2 := slots + 200) C B hd.sym (g_runV (n := 2) (As := [.int a239, .int a240]) (rm := rmX9_widest) M C e1 (kX9_widest (v0 := v2) (v1 := a239) (v2 := a240) l D cy h _) wmL_143 wiX9_widest wsX9_widest wnX9 wcdX9_widest ⟨rfl, by decide, by decide, by decide +kernel⟩ ⟨by decide, by decide⟩ ⟨by show cells + 20 + 0 ≤ 601024; omega, by show slots + 200 + 0 ≤ 7293034; omega⟩ hL1 hK1 (by decide) rfl rfl rfl hl.1 rfl ct_0 (by decide) dL_law_1180) (by show cells + 20 + 0 ≤ cells + 20; omega) (by show slots + 200 + 0 ≤ slots + 200; omega) (fun a242 T241 H locs h C B hdx => ?_)
          have hd := hdx.sym
          refine lv_istore (lv' := [(6, .int a242), (5, .int a238), (0, .ref b), (1, va_rf v1), (2, va_rf v2), (3, va_rf v3), (4, .int v4)]) M.1 M.2.1 dL_law_1183 hl (by decide) (fl_e (fl_i rfl (fl_k rfl rfl (fl_k rfl rfl (fl_k rfl rfl (fl_k rfl rfl (fl_k rfl rfl fl_0))))))) (fun ls hl => ?_)
          refine g_aload_n M dL_law_1185 rfl (lv_at hl 4 rfl) ?_
          obtain ⟨o1, e1, hL1, hK1, h⟩ := h
          refine w_calli (k1 := cells + 20) (k2 := slots + 200) C B hd.sym (g_runV (n := 0) (As := []) (rm := rmX9_thrown) M C e1 (kX9_thrown (v0 := v2) l D cy h _) wmL_87 wiX9_thrown wsX9_thrown wnX9 wcdX9_thrown ⟨rfl, by decide, by decide, by decide +kernel⟩ ⟨by decide, by decide⟩ ⟨by show cells + 20 + 0 ≤ 601024; omega, by show slots + 200 + 0 ≤ 7293034; omega⟩ hL1 hK1 (by decide) rfl rfl rfl hl.1 rfl ct_0 (by decide) dL_law_1186) (by show cells + 20 + 0 ≤ cells + 20; omega) (by show slots + 200 + 0 ≤ slots + 200; omega) (fun a244 T243 H locs h C B hdx => ?_)
          have hd := hdx.sym
          refine lv_iload M.1 M.2.1 dL_law_1189 (lv_at hl 1 rfl) ?_
          refine lv_icmp_eq (tgt := 1196) M.1 M.2.1 dL_law_1191 (by decide) (fun c245 => ?_) (fun c245 => ?_)
          · have h := h.1 c245
            refine lv_iload M.1 M.2.1 dL_law_1196 (lv_at hl 1 rfl) ?_
            refine lv_if_ne (tgt := 1213) M.1 M.2.1 dL_law_1198 (by decide) (fun c246 => ?_) (fun c246 => ?_)
            · have h := h.2 c246
              refine lv_goto (tgt := 1241) M.1 M.2.1 dL_law_1213 (by decide) ?_
              refine lv_iinc (v := v4 + 6) (lv' := [(4, .int (v4 + 6)), (6, .int a242), (5, .int a238), (0, .ref b), (1, va_rf v1), (2, va_rf v2), (3, va_rf v3)]) M.1 M.2.1 dL_law_1241 hl (k := 6) rfl rfl (by decide) (fl_e (fl_k rfl rfl (fl_k rfl rfl (fl_k rfl rfl (fl_k rfl rfl (fl_k rfl rfl (fl_r rfl (fl_d rfl fl_0)))))))) (fun ls hl => ?_)
              refine lv_goto (tgt := 23) M.1 M.2.1 dL_law_1244 (by decide) ?_
              exact ih _ _ _ _ _ _ h _ _ _ _ _ (by omega) (by omega) B C hd (lv_sub hl [3, 4, 5, 6, 0] rfl)
            · have h := h.1 c246
              refine g_aload_n M dL_law_1201 rfl (lv_at hl 5 rfl) ?_
              refine lv_iconst (v := 0) M.1 M.2.1 dL_law_1202 (by decide) ?_
              refine g_lald M B dL_law_1203 h (fun a247 h => ?_)
              refine lv_iload M.1 M.2.1 dL_law_1204 (lv_at hl 0 rfl) ?_
              refine lv_i2l (v := a242.toInt64) M.1 M.2.1 dL_law_1206 rfl ?_
              refine W.lcmp M.1 M.2.1 dL_law_1207 ?_
              refine lv_if_eq (tgt := 1213) M.1 M.2.1 dL_law_1208 (by decide) (fun c248 => ?_) (fun c248 => ?_)
              · have h := h.1 c248
                refine lv_goto (tgt := 1241) M.1 M.2.1 dL_law_1213 (by decide) ?_
                refine lv_iinc (v := v4 + 6) (lv' := [(4, .int (v4 + 6)), (6, .int a242), (5, .int a238), (0, .ref b), (1, va_rf v1), (2, va_rf v2), (3, va_rf v3)]) M.1 M.2.1 dL_law_1241 hl (k := 6) rfl rfl (by decide) (fl_e (fl_k rfl rfl (fl_k rfl rfl (fl_k rfl rfl (fl_k rfl rfl (fl_k rfl rfl (fl_r rfl (fl_d rfl fl_0)))))))) (fun ls hl => ?_)
                refine lv_goto (tgt := 23) M.1 M.2.1 dL_law_1244 (by decide) ?_
                exact ih _ _ _ _ _ _ h _ _ _ _ _ (by omega) (by omega) B C hd (lv_sub hl [3, 4, 5, 6, 0] rfl)
              · have h := h.2 c248
                refine lv_iconst (v := 0) M.1 M.2.1 dL_law_1211 (by decide) ?_
                exact h.elim
          · have h := h.2 c245
            refine lv_iconst (v := 0) M.1 M.2.1 dL_law_1194 (by decide) ?_
            exact h.elim
        have h := h.2 c249
        have c257 : (a2 &&& 31).toInt = 18 := by omega
        refine lv_tableIn (tgt := 1216) (off := 1176) M.1 M.2.1 dL_law_40 (fun q => c3 (Or.inl q)) (fun q => c3 (Or.inr q)) (by rw [c257]; rfl) (by decide) ?_
        refine g_aload_n M dL_law_1216 rfl (lv_at hl 1 rfl) ?_
        refine lv_aload_n M.1 M.2.1 dL_law_1217 rfl (lv_at hl 0 rfl) ?_
        refine lv_iload M.1 M.2.1 dL_law_1218 (lv_at hl 4 rfl) ?_
        refine lv_iconst (v := 1) M.1 M.2.1 dL_law_1220 (by decide) ?_
        refine lv_iadd M.1 M.2.1 dL_law_1221 ?_
        obtain ⟨hi1, h⟩ := h
        refine va_sld M.1 M.2.1 hX hbl (Nat.not_le.mpr hbl) B.2.2.1 hi1 dL_law_1222 ?_
        generalize xs (v4 + 1).toNatClampNeg = a250 at h ⊢
        obtain ⟨o1, e1, hL1, hK1, h⟩ := h
        refine w_calli (k1 := cells + 20) (k2 := slots + 200) B C hd (g_runV (n := 1) (As := [.int a250]) (rm := rmX8_count) M B e1 (kX8_count (v0 := v1) (v1 := a250) l D cy h _) wmL_144 wiX8_count wsX8_count wnX8 wcdX8_count ⟨rfl, by decide, by decide, by decide +kernel⟩ ⟨by decide, by decide⟩ ⟨by show cells + 0 ≤ 601024; omega, by show slots + 0 ≤ 7293034; omega⟩ hL1 hK1 (by decide) rfl rfl rfl hl.1 rfl ct_0 (by decide) dL_law_1223) (by show cells + 0 ≤ cells + 20; omega) (by show slots + 0 ≤ slots + 200; omega) (fun a252 S251 H locs h B C hd => ?_)
        refine g_aload_n M dL_law_1226 rfl (lv_at hl 2 rfl) ?_
        refine lv_aload_n M.1 M.2.1 dL_law_1227 rfl (lv_at hl 0 rfl) ?_
        refine lv_iload M.1 M.2.1 dL_law_1228 (lv_at hl 4 rfl) ?_
        refine lv_iconst (v := 1) M.1 M.2.1 dL_law_1230 (by decide) ?_
        refine lv_iadd M.1 M.2.1 dL_law_1231 ?_
        obtain ⟨hi1, h⟩ := h
        refine va_sld M.1 M.2.1 hX hbl (Nat.not_le.mpr hbl) B.2.2.1 hi1 dL_law_1232 ?_
        generalize xs (v4 + 1).toNatClampNeg = a253 at h ⊢
        obtain ⟨o1, e1, hL1, hK1, h⟩ := h
        refine w_calli (k1 := cells + 20) (k2 := slots + 200) C B hd.sym (g_runV (n := 1) (As := [.int a253]) (rm := rmX9_count) M C e1 (kX9_count (v0 := v2) (v1 := a253) l D cy h _) wmL_147 wiX9_count wsX9_count wnX9 wcdX9_count ⟨rfl, by decide, by decide, by decide +kernel⟩ ⟨by decide, by decide⟩ ⟨by show cells + 20 + 0 ≤ 601024; omega, by show slots + 200 + 0 ≤ 7293034; omega⟩ hL1 hK1 (by decide) rfl rfl rfl hl.1 rfl (ct_i ct_0) (by decide) dL_law_1233) (by show cells + 20 + 0 ≤ cells + 20; omega) (by show slots + 200 + 0 ≤ slots + 200; omega) (fun a255 T254 H locs h C B hdx => ?_)
        have hd := hdx.sym
        refine lv_icmp_eq (tgt := 1241) M.1 M.2.1 dL_law_1236 (by decide) (fun c256 => ?_) (fun c256 => ?_)
        · have h := h.1 c256
          refine lv_iinc (v := v4 + 6) (lv' := [(4, .int (v4 + 6)), (0, .ref b), (1, va_rf v1), (2, va_rf v2), (3, va_rf v3)]) M.1 M.2.1 dL_law_1241 hl (k := 4) rfl rfl (by decide) (fl_e (fl_k rfl rfl (fl_k rfl rfl (fl_k rfl rfl (fl_r rfl (fl_d rfl fl_0)))))) (fun ls hl => ?_)
          refine lv_goto (tgt := 23) M.1 M.2.1 dL_law_1244 (by decide) ?_
          exact ih _ _ _ _ _ _ h _ _ _ _ _ (by omega) (by omega) B C hd (lv_sub hl [1, 2, 3, 4, 0] rfl)
        · have h := h.2 c256
          refine lv_iconst (v := 0) M.1 M.2.1 dL_law_1239 (by decide) ?_
          exact h.elim
set_option maxRecDepth 100000 in
set_option maxHeartbeats 40000000 in
theorem tL_law (M : MC p m c cL_law 7 s #[Value.ref b] RL) (hr : meth.sig.returnType = ret) (hlk : meth.locks = false) (hX : va_X b L xs s s.heap) (hbl : b < s.heap.size) (X : EX adK adV (fun q => s.heap.size ≤ q) s) (N : NC s) (hl0 : l.stackTraces = false) : ∀ (H : Heap) (locs : List Loc) (ls : Array Slot), wL_law L xs → PB D cy (fun q => s.heap.size ≤ q) s E0 H locs → lv_has ls 7 [(0, .ref b)] → W p l e room_1 s m #[Value.ref b] below meth c H locs 0 0 (lw_Z below #[Value.ref b] s) (F0 m 0 ls []) := by
  intro H locs ls h B hl
  have C := B
  have hd : djp E0 E0 := fun q h1 _ => by cases h1
  unfold wL_law at h
  refine w_new (Cn := RX8) (Tt := TX8) (N := 16) (ty0 := tyX8) M B C hd rfl u_inX8 tyX8_ok (by decide) (by decide +kernel) wcL_8 wtX8 wnX8 (by decide) (by decide) dL_law_0 h (fun a1 S2 H h B C hd => ?_)
  refine W.widen (k := 1) (n := 16) (by decide) (by decide) ?_
  refine lv_dup M.1 M.2.1 dL_law_3 (rf_cat _) ?_
  obtain ⟨⟨o1, e1⟩, h⟩ := h
  refine w_callv (k1 := 111) (k2 := 5914) B C hd (g_runI (n := 0) (As := []) (rm := rmX8_init) M B e1 (kX8_init (v0 := a1) l D cy h _) wmL_68 wiX8_init wnX8 wcdX8_init rfl ⟨by decide, by decide, by decide +kernel⟩ ⟨by decide, by decide⟩ ⟨by decide, by decide⟩ rfl hl.1 rfl (ct_r ct_0) (by decide) dL_law_4) (by decide) (by decide) (fun S3 H locs h B C hd => ?_)
  refine g_astore_n (lv' := [(1, va_rf a1), (0, .ref b)]) M dL_law_7 rfl hl (by decide) (fl_e (fl_r (v := some b) rfl fl_0)) (fun ls hl => ?_)
  refine w_new (Cn := RX9) (Tt := TX9) (N := 42) (ty0 := tyX9) M C B hd.sym rfl u_inX9 tyX9_ok (by decide) (by decide +kernel) wcL_69 wtX9 wnX9 (by decide) (by decide) dL_law_8 h (fun a4 T5 H h C B hdx => ?_)
  have hd := hdx.sym
  refine W.widen (k := 112) (n := 5956) (by decide) (by decide) ?_
  refine lv_dup M.1 M.2.1 dL_law_11 (rf_cat _) ?_
  obtain ⟨⟨o1, e1⟩, h⟩ := h
  refine w_callv (k1 := 139) (k2 := 17909) C B hd.sym (g_runI (n := 0) (As := []) (rm := rmX9_init) M C e1 (kX9_init (v0 := a4) l D cy h _) wmL_71 wiX9_init wnX9 wcdX9_init rfl ⟨by decide, by decide, by decide +kernel⟩ ⟨by decide, by decide⟩ ⟨by decide, by decide⟩ rfl hl.1 rfl (ct_r ct_0) (by decide) dL_law_12) (by decide) (by decide) (fun T6 H locs h C B hdx => ?_)
  have hd := hdx.sym
  refine g_astore_n (lv' := [(2, va_rf a4), (1, va_rf a1), (0, .ref b)]) M dL_law_15 rfl hl (by decide) (fl_e (fl_r rfl (fl_k rfl rfl fl_0))) (fun ls hl => ?_)
  refine lv_iconst (v := 1) M.1 M.2.1 dL_law_16 (by decide) ?_
  refine w_newJ (N := 1) M B C hd (by decide) (by decide) (by decide) dL_law_17 h (fun a7 S8 H h B C hd => ?_)
  refine W.widen (k := 140) (n := 17910) (by decide) (by decide) ?_
  refine g_astore_n (lv' := [(3, va_rf a7), (2, va_rf a4), (1, va_rf a1), (0, .ref b)]) M dL_law_19 rfl hl (by decide) (fl_e (fl_r rfl (fl_k rfl rfl (fl_k rfl rfl fl_0)))) (fun ls hl => ?_)
  refine lv_iconst (v := 0) M.1 M.2.1 dL_law_20 (by decide) ?_
  refine lv_istore (lv' := [(4, .int 0), (3, va_rf a7), (2, va_rf a4), (1, va_rf a1), (0, .ref b)]) M.1 M.2.1 dL_law_21 hl (by decide) (fl_e (fl_r rfl (fl_k rfl rfl (fl_k rfl rfl (fl_k rfl rfl fl_0))))) (fun ls hl => ?_)
  obtain ⟨n1, hn1, h⟩ := h
  exact tL_law_23 M hr hlk hX hbl X N hl0 n1 _ _ _ _ _ _ h _ _ _ _ _ (by omega) (by omega) B C hd (lv_sub hl [4, 3, 2, 1, 0] rfl)
end
