/-! ===== the class's beginning ===== -/
def ZU (U : List Nat) (R : RMem) (I : Mem) : Prop := (∀ c, c ∉ U → R c = (fun _ => none) ∧ I c = fun _ => 0) ∧ ∀ c k, 31 ≤ k → R c k = none
def JR (g : Nat → Nat) (S : Pool) (U : List Nat) (R : RMem) (I : Mem) : Prop := IR cK cN g S U R I ∧ ZU U R I
section
variable {g : Nat → Nat} {S : Pool} {U : List Nat} {R : RMem} {I : Mem} {c d c0 k s kd ci N m r0 b : Nat} {v : Int32} {K : Prop} {KP pst : Pool → Prop} {KR : Option Nat → Prop} {KN : Option Nat → Pool → Prop}
theorem xnn_i {a : Nat} (h : K) : xnn (some a) K := ⟨⟨_, rfl⟩, h⟩
theorem ZU_R (h : ZU U R I) (hc : c ∈ U) (hk : k < 31) {w : Option Nat} : ZU U (p2 R c k w) I := ⟨fun e he => ⟨by rw [p2_ne (fun z : e = c => he (z ▸ hc))]; exact (h.1 e he).1, (h.1 e he).2⟩, fun e j hj => by
  by_cases z : e = c
  · subst z; rw [p2_row (by omega)]; exact h.2 e j hj
  · rw [p2_ne z]; exact h.2 e j hj⟩
theorem ZU_I (h : ZU U R I) (hc : c ∈ U) : ZU U R (p2 I c k v) := ⟨fun e he => ⟨(h.1 e he).1, by rw [p2_ne (fun z : e = c => he (z ▸ hc))]; exact (h.1 e he).2⟩, h.2⟩
theorem j_new (c0 : Nat) (h : JR g S U R I) (h0 : c0 ∉ U) (hk : cK c0 = kd) (hn : cN c0 = 0) (hp : ∀ g' S', (∀ c, c ∈ U → g' c = g c) → JR g' S' (U ++ [c0]) R I → KN (some (g' c0)) S') : xnw S kd KN :=
  i_new c0 h.1 h0 hk hn (h.2.1 c0 h0).1 (h.2.1 c0 h0).2 fun g' S' a b => hp g' S' a ⟨b, fun c hc => h.2.1 c (fun z => hc (List.mem_append_left _ z)), h.2.2⟩
theorem j_na (c0 : Nat) {n : Int32} (hN : ¬ n < 0 ∧ n.toNatClampNeg = N) (h : JR g S U R I) (h0 : c0 ∉ U) (hk : cK c0 = kd) (hn : cN c0 = N) (hp : ∀ g' S', (∀ c, c ∈ U → g' c = g c) → JR g' S' (U ++ [c0]) R I → KN (some (g' c0)) S') : xna S kd n N KN :=
  i_na c0 hN h.1 h0 hk hn (h.2.1 c0 h0).1 (h.2.1 c0 h0).2 fun g' S' a b => hp g' S' a ⟨b, fun c hc => h.2.1 c (fun z => hc (List.mem_append_left _ z)), h.2.2⟩
theorem j_pR (c d : Nat) (h : JR g S U R I) (hc : c ∈ U) (hd : d ∈ U) (hk : cK c = ci) (hk2 : k < 31) (hp : ∀ S', JR g S' U (p2 R c k (some d)) I → KP S') : xpR S (some (g c)) ci k (some (g d)) KP :=
  i_pR c d h.1 hc hd hk fun S' b => hp S' ⟨b, ZU_R h.2 hc hk2⟩
theorem j_pI (c : Nat) (h : JR g S U R I) (hc : c ∈ U) (hk : cK c = ci) (hp : ∀ S', JR g S' U R (p2 I c k v) → KP S') : xpI S (some (g c)) ci k v KP :=
  i_pI c h.1 hc hk fun S' b => hp S' ⟨b, ZU_I h.2 hc⟩
theorem j_sR (c d s : Nat) {i : Int32} {kv : Nat} (hi : i = nI s) (h : JR g S U R I) (hc : c ∈ U) (hd : d ∈ U) (hk : cK c = ci) (hkd : cK d = kv) (hs : s < cN c ∧ s < 31 ∧ cN c < 2 ^ 31) (hp : ∀ S', JR g S' U (p2 R c s (some d)) I → KP S') : xsR S (some (g c)) ci kv i (some (g d)) KP := by
  subst hi
  refine i_sR c d h.1 hc hd hk hkd (vp_in_nI hs.1 hs.2.2) fun S' b => ?_
  rw [nI_clamp (by omega)] at b
  exact hp S' ⟨b, ZU_R h.2 hc hs.2.1⟩
theorem j_R (c d : Nat) (h : JR g S U R I) (hc : c ∈ U) (hk : cK c = ci) (hd : R c k = some d) (hp : KR (some (g d))) : xR S (some (g c)) ci k KR :=
  i_R c h.1 hc hk (by rw [hd]; exact hp)
theorem j_aR (c d s : Nat) {i : Int32} (hi : i = nI s) (h : JR g S U R I) (hc : c ∈ U) (hk : cK c = ci) (hs : s < cN c ∧ cN c < 2 ^ 31) (hd : R c s = some d) (hp : KR (some (g d))) : xaR S (some (g c)) ci i KR := by
  subst hi
  refine i_aR c h.1 hc hk (vp_in_nI hs.1 hs.2) ?_
  rw [nI_clamp (by omega), hd]
  exact hp
theorem j_fill (c : Nat) (h : JR g S U R I) (hc : c ∈ U) (hk : cK c = 10) (hn : cN c = N) (hN : N < 2 ^ 31) (hp : ∀ S', JR g S' U R (rowF I c N v) → KP S') : wJ7_fill_53178 KP (some (g c)) v S := by
  subst hn
  exact i_fill c h.1 hc hk hN fun S' b => hp S' ⟨b, fun e he => ⟨(h.2.1 e he).1, by rw [rowF_ne (fun z : e = c => he (z ▸ hc))]; exact (h.2.1 e he).2⟩, h.2.2⟩
theorem j_mn (c0 r0 : Nat) {n n' : Int32} (hN : ¬ n < 0 ∧ ¬ n' < 0 ∧ n.toNatClampNeg = N ∧ n'.toNatClampNeg = m) (h : JR g S U R I) (h0 : c0 ∉ U) (h00 : ¬ (r0 ≤ c0 ∧ c0 < r0 + N)) (hr : ∀ c, c ∈ rws r0 N → c ∉ U ∧ cK c = 10 ∧ cN c = m) (hk : cK c0 = 15) (hn : cN c0 = N) (hN31 : N ≤ 31) (hp : ∀ g' S', (∀ c, c ∈ U → g' c = g c) → JR g' S' (U ++ c0 :: rws r0 N) (va_up R c0 (fun i => if i < N then some (r0 + i) else none)) I → KN (some (g' c0)) S') : xmn S n n' N m KN :=
  i_mn c0 r0 hN h.1 h0 h00 hr hk hn (fun c hc => (h.2.1 c (hr c hc).1).1) (h.2.1 c0 h0).1 (fun c hc => (h.2.1 c (hr c hc).1).2) (h.2.1 c0 h0).2 fun g' S' a b => hp g' S' a ⟨b, fun c hc => by
    have e1 : c ∉ U := fun z => hc (List.mem_append_left _ z)
    have e2 : c ≠ c0 := fun z => hc (List.mem_append_right _ (by rw [z]; exact List.mem_cons_self))
    rw [va_up_ne2 e2]
    exact h.2.1 c e1, fun c k hk => by
    by_cases z : c = c0
    · subst z; rw [va_up_at2, if_neg (by omega)]
    · rw [va_up_ne2 z]; exact h.2.2 c k hk⟩
def U8 : List Nat := ((((((((((((((((((((((((((((((((((((((((([0] ++ [1]) ++ [2]) ++ [3]) ++ [4]) ++ [5]) ++ [6]) ++ [7]) ++ [8]) ++ 9 :: rws 26 6) ++ [10]) ++ 11 :: rws 32 6) ++ 12 :: rws 38 6) ++ 13 :: rws 44 6) ++ 14 :: rws 50 6) ++ 15 :: rws 56 31) ++ [16]) ++ [2000]) ++ [2001]) ++ [2002]) ++ [2003]) ++ [2004]) ++ [2005]) ++ [2006]) ++ [2007]) ++ [17]) ++ [18]) ++ [19]) ++ [20]) ++ [21]) ++ [22]) ++ [23]) ++ [24]) ++ 25 :: rws 87 8) ++ [2008]) ++ [2009]) ++ [2010]) ++ [2011]) ++ [2012]) ++ [2013]) ++ [2014]) ++ [2015])
def R8 : RMem := (p2 (p2 (p2 (p2 (p2 (p2 (p2 (p2 (p2 (va_up (p2 (p2 (p2 (p2 (p2 (p2 (p2 (p2 (p2 (p2 (p2 (p2 (p2 (p2 (p2 (p2 (p2 (p2 (p2 (p2 (p2 (va_up (p2 (va_up (p2 (va_up (p2 (va_up (p2 (va_up (p2 (p2 (va_up (p2 (p2 (p2 (p2 (p2 (p2 (p2 (p2 (fun _ _ => none) 1 0 (some 2)) 0 0 (some 1)) 3 0 (some 1)) 0 1 (some 3)) 4 0 (some 5)) 4 1 (some 6)) 0 2 (some 4)) 7 1 (some 8)) 9 (fun i => if i < 6 then some (26 + i) else none)) 7 2 (some 9)) 7 3 (some 10)) 11 (fun i => if i < 6 then some (32 + i) else none)) 7 4 (some 11)) 12 (fun i => if i < 6 then some (38 + i) else none)) 7 5 (some 12)) 13 (fun i => if i < 6 then some (44 + i) else none)) 7 6 (some 13)) 14 (fun i => if i < 6 then some (50 + i) else none)) 7 7 (some 14)) 15 (fun i => if i < 31 then some (56 + i) else none)) 7 8 (some 15)) 7 9 (some 16)) 2000 0 (some 2001)) 2001 0 (some 2002)) 2001 1 (some 2003)) 2001 2 (some 2004)) 2001 3 (some 2005)) 2001 4 (some 2006)) 2001 5 (some 2007)) 7 10 (some 2000)) 7 0 (some 4)) 0 3 (some 7)) 17 1 (some 18)) 17 2 (some 19)) 17 3 (some 20)) 17 4 (some 21)) 17 5 (some 22)) 17 0 (some 4)) 0 4 (some 17)) 0 5 (some 23)) 0 6 (some 24)) 25 (fun i => if i < 8 then some (87 + i) else none)) 0 7 (some 25)) 2008 0 (some 2009)) 2009 0 (some 2010)) 2009 1 (some 2011)) 2009 2 (some 2012)) 2009 3 (some 2013)) 2009 4 (some 2014)) 2009 5 (some 2015)) 0 8 (some 2008))
def I8 : Mem := (p2 (p2 (p2 (rowF (rowF (rowF (rowF (rowF (rowF (rowF (rowF (rowF (p2 (fun _ _ => 0) 7 11 (-1)) 24 4 7) 87 31 (-1)) 88 31 (-1)) 89 31 (-1)) 90 31 (-1)) 91 31 (-1)) 92 31 (-1)) 93 31 (-1)) 94 31 (-1)) 0 12 100) 0 13 (-1)) 0 15 (-1))
set_option maxRecDepth 100000 in
set_option maxHeartbeats 4000000 in
theorem i_init8 (h : JR g S [0] (fun _ _ => none) (fun _ _ => 0)) (hp : ∀ g' S', g' 0 = g 0 → JR g' S' U8 R8 I8 → pst S') : wX8_init pst (some (g 0)) S := by
  have e : g 0 = g 0 := rfl
  unfold wX8_init
  refine xnn_i ?_
  refine j_new 1 h (by decide +kernel) rfl rfl fun g1 S1 a1 h1 => ?_
  try rw [← a1 0 (by decide +kernel)]
  have e1 : g1 0 = g 0 := (a1 0 (by decide +kernel)).trans e
  refine xnn_i ?_
  unfold wX7_init
  refine xnn_i ?_
  refine j_na 2 (by decide +kernel) h1 (by decide +kernel) rfl rfl fun g2 S2 a2 h2 => ?_
  try rw [← a2 0 (by decide +kernel)]
  try rw [← a2 1 (by decide +kernel)]
  have e2 : g2 0 = g 0 := (a2 0 (by decide +kernel)).trans e1
  refine j_pR 1 2 h2 (by decide +kernel) (by decide +kernel) rfl (by decide +kernel) fun S3 h3 => ?_
  refine j_pR 0 1 h3 (by decide +kernel) (by decide +kernel) rfl (by decide +kernel) fun S4 h4 => ?_
  refine j_new 3 h4 (by decide +kernel) rfl rfl fun g5 S5 a5 h5 => ?_
  try rw [← a5 0 (by decide +kernel)]
  have e5 : g5 0 = g 0 := (a5 0 (by decide +kernel)).trans e2
  refine j_R 0 1 h5 (by decide +kernel) rfl rfl ?_
  refine xnn_i ?_
  unfold wX4_init
  refine xnn_i ?_
  refine j_pR 3 1 h5 (by decide +kernel) (by decide +kernel) rfl (by decide +kernel) fun S6 h6 => ?_
  refine j_pR 0 3 h6 (by decide +kernel) (by decide +kernel) rfl (by decide +kernel) fun S7 h7 => ?_
  refine j_new 4 h7 (by decide +kernel) rfl rfl fun g8 S8 a8 h8 => ?_
  try rw [← a8 0 (by decide +kernel)]
  have e8 : g8 0 = g 0 := (a8 0 (by decide +kernel)).trans e5
  refine xnn_i ?_
  unfold wX2_init
  refine xnn_i ?_
  refine j_na 5 (by decide +kernel) h8 (by decide +kernel) rfl rfl fun g9 S9 a9 h9 => ?_
  try rw [← a9 0 (by decide +kernel)]
  try rw [← a9 4 (by decide +kernel)]
  have e9 : g9 0 = g 0 := (a9 0 (by decide +kernel)).trans e8
  refine j_pR 4 5 h9 (by decide +kernel) (by decide +kernel) rfl (by decide +kernel) fun S10 h10 => ?_
  refine j_na 6 (by decide +kernel) h10 (by decide +kernel) rfl rfl fun g11 S11 a11 h11 => ?_
  try rw [← a11 0 (by decide +kernel)]
  try rw [← a11 4 (by decide +kernel)]
  have e11 : g11 0 = g 0 := (a11 0 (by decide +kernel)).trans e9
  refine j_pR 4 6 h11 (by decide +kernel) (by decide +kernel) rfl (by decide +kernel) fun S12 h12 => ?_
  refine j_pR 0 4 h12 (by decide +kernel) (by decide +kernel) rfl (by decide +kernel) fun S13 h13 => ?_
  refine j_new 7 h13 (by decide +kernel) rfl rfl fun g14 S14 a14 h14 => ?_
  try rw [← a14 0 (by decide +kernel)]
  have e14 : g14 0 = g 0 := (a14 0 (by decide +kernel)).trans e11
  refine j_R 0 4 h14 (by decide +kernel) rfl rfl ?_
  refine xnn_i ?_
  unfold wX6_init
  refine xnn_i ?_
  refine j_na 8 (by decide +kernel) h14 (by decide +kernel) rfl rfl fun g15 S15 a15 h15 => ?_
  try rw [← a15 0 (by decide +kernel)]
  try rw [← a15 7 (by decide +kernel)]
  try rw [← a15 4 (by decide +kernel)]
  have e15 : g15 0 = g 0 := (a15 0 (by decide +kernel)).trans e14
  refine j_pR 7 8 h15 (by decide +kernel) (by decide +kernel) rfl (by decide +kernel) fun S16 h16 => ?_
  refine j_mn 9 26 (by decide +kernel) h16 (by decide +kernel) (by decide +kernel) (by decide +kernel) rfl rfl (by decide +kernel) fun g17 S17 a17 h17 => ?_
  try rw [← a17 0 (by decide +kernel)]
  try rw [← a17 7 (by decide +kernel)]
  try rw [← a17 4 (by decide +kernel)]
  have e17 : g17 0 = g 0 := (a17 0 (by decide +kernel)).trans e15
  refine j_pR 7 9 h17 (by decide +kernel) (by decide +kernel) rfl (by decide +kernel) fun S18 h18 => ?_
  refine j_na 10 (by decide +kernel) h18 (by decide +kernel) rfl rfl fun g19 S19 a19 h19 => ?_
  try rw [← a19 0 (by decide +kernel)]
  try rw [← a19 7 (by decide +kernel)]
  try rw [← a19 4 (by decide +kernel)]
  have e19 : g19 0 = g 0 := (a19 0 (by decide +kernel)).trans e17
  refine j_pR 7 10 h19 (by decide +kernel) (by decide +kernel) rfl (by decide +kernel) fun S20 h20 => ?_
  refine j_mn 11 32 (by decide +kernel) h20 (by decide +kernel) (by decide +kernel) (by decide +kernel) rfl rfl (by decide +kernel) fun g21 S21 a21 h21 => ?_
  try rw [← a21 0 (by decide +kernel)]
  try rw [← a21 7 (by decide +kernel)]
  try rw [← a21 4 (by decide +kernel)]
  have e21 : g21 0 = g 0 := (a21 0 (by decide +kernel)).trans e19
  refine j_pR 7 11 h21 (by decide +kernel) (by decide +kernel) rfl (by decide +kernel) fun S22 h22 => ?_
  refine j_mn 12 38 (by decide +kernel) h22 (by decide +kernel) (by decide +kernel) (by decide +kernel) rfl rfl (by decide +kernel) fun g23 S23 a23 h23 => ?_
  try rw [← a23 0 (by decide +kernel)]
  try rw [← a23 7 (by decide +kernel)]
  try rw [← a23 4 (by decide +kernel)]
  have e23 : g23 0 = g 0 := (a23 0 (by decide +kernel)).trans e21
  refine j_pR 7 12 h23 (by decide +kernel) (by decide +kernel) rfl (by decide +kernel) fun S24 h24 => ?_
  refine j_mn 13 44 (by decide +kernel) h24 (by decide +kernel) (by decide +kernel) (by decide +kernel) rfl rfl (by decide +kernel) fun g25 S25 a25 h25 => ?_
  try rw [← a25 0 (by decide +kernel)]
  try rw [← a25 7 (by decide +kernel)]
  try rw [← a25 4 (by decide +kernel)]
  have e25 : g25 0 = g 0 := (a25 0 (by decide +kernel)).trans e23
  refine j_pR 7 13 h25 (by decide +kernel) (by decide +kernel) rfl (by decide +kernel) fun S26 h26 => ?_
  refine j_mn 14 50 (by decide +kernel) h26 (by decide +kernel) (by decide +kernel) (by decide +kernel) rfl rfl (by decide +kernel) fun g27 S27 a27 h27 => ?_
  try rw [← a27 0 (by decide +kernel)]
  try rw [← a27 7 (by decide +kernel)]
  try rw [← a27 4 (by decide +kernel)]
  have e27 : g27 0 = g 0 := (a27 0 (by decide +kernel)).trans e25
  refine j_pR 7 14 h27 (by decide +kernel) (by decide +kernel) rfl (by decide +kernel) fun S28 h28 => ?_
  refine j_mn 15 56 (by decide +kernel) h28 (by decide +kernel) (by decide +kernel) (by decide +kernel) rfl rfl (by decide +kernel) fun g29 S29 a29 h29 => ?_
  try rw [← a29 0 (by decide +kernel)]
  try rw [← a29 7 (by decide +kernel)]
  try rw [← a29 4 (by decide +kernel)]
  have e29 : g29 0 = g 0 := (a29 0 (by decide +kernel)).trans e27
  refine j_pR 7 15 h29 (by decide +kernel) (by decide +kernel) rfl (by decide +kernel) fun S30 h30 => ?_
  refine j_na 16 (by decide +kernel) h30 (by decide +kernel) rfl rfl fun g31 S31 a31 h31 => ?_
  try rw [← a31 0 (by decide +kernel)]
  try rw [← a31 7 (by decide +kernel)]
  try rw [← a31 4 (by decide +kernel)]
  have e31 : g31 0 = g 0 := (a31 0 (by decide +kernel)).trans e29
  refine j_pR 7 16 h31 (by decide +kernel) (by decide +kernel) rfl (by decide +kernel) fun S32 h32 => ?_
  refine j_new 2000 h32 (by decide +kernel) rfl rfl fun g33 S33 a33 h33 => ?_
  try rw [← a33 0 (by decide +kernel)]
  try rw [← a33 7 (by decide +kernel)]
  try rw [← a33 4 (by decide +kernel)]
  have e33 : g33 0 = g 0 := (a33 0 (by decide +kernel)).trans e31
  refine xnn_i ?_
  unfold wX3_init
  refine xnn_i ?_
  refine j_na 2001 (by decide +kernel) h33 (by decide +kernel) rfl rfl fun g34 S34 a34 h34 => ?_
  try rw [← a34 0 (by decide +kernel)]
  try rw [← a34 7 (by decide +kernel)]
  try rw [← a34 4 (by decide +kernel)]
  try rw [← a34 2000 (by decide +kernel)]
  have e34 : g34 0 = g 0 := (a34 0 (by decide +kernel)).trans e33
  refine j_pR 2000 2001 h34 (by decide +kernel) (by decide +kernel) rfl (by decide +kernel) fun S35 h35 => ?_
  refine j_R 2000 2001 h35 (by decide +kernel) rfl rfl ?_
  refine j_new 2002 h35 (by decide +kernel) rfl rfl fun g36 S36 a36 h36 => ?_
  try rw [← a36 0 (by decide +kernel)]
  try rw [← a36 7 (by decide +kernel)]
  try rw [← a36 4 (by decide +kernel)]
  try rw [← a36 2000 (by decide +kernel)]
  try rw [← a36 2001 (by decide +kernel)]
  have e36 : g36 0 = g 0 := (a36 0 (by decide +kernel)).trans e34
  refine xnn_i ?_
  unfold wX5_init
  refine xnn_i ?_
  refine j_sR 2001 2002 0 (by decide +kernel) h36 (by decide +kernel) (by decide +kernel) rfl rfl (by decide +kernel) fun S37 h37 => ?_
  refine j_R 2000 2001 h37 (by decide +kernel) rfl rfl ?_
  refine j_new 2003 h37 (by decide +kernel) rfl rfl fun g38 S38 a38 h38 => ?_
  try rw [← a38 0 (by decide +kernel)]
  try rw [← a38 7 (by decide +kernel)]
  try rw [← a38 4 (by decide +kernel)]
  try rw [← a38 2000 (by decide +kernel)]
  try rw [← a38 2001 (by decide +kernel)]
  have e38 : g38 0 = g 0 := (a38 0 (by decide +kernel)).trans e36
  refine xnn_i ?_
  refine xnn_i ?_
  refine j_sR 2001 2003 1 (by decide +kernel) h38 (by decide +kernel) (by decide +kernel) rfl rfl (by decide +kernel) fun S39 h39 => ?_
  refine j_R 2000 2001 h39 (by decide +kernel) rfl rfl ?_
  refine j_new 2004 h39 (by decide +kernel) rfl rfl fun g40 S40 a40 h40 => ?_
  try rw [← a40 0 (by decide +kernel)]
  try rw [← a40 7 (by decide +kernel)]
  try rw [← a40 4 (by decide +kernel)]
  try rw [← a40 2000 (by decide +kernel)]
  try rw [← a40 2001 (by decide +kernel)]
  have e40 : g40 0 = g 0 := (a40 0 (by decide +kernel)).trans e38
  refine xnn_i ?_
  refine xnn_i ?_
  refine j_sR 2001 2004 2 (by decide +kernel) h40 (by decide +kernel) (by decide +kernel) rfl rfl (by decide +kernel) fun S41 h41 => ?_
  refine j_R 2000 2001 h41 (by decide +kernel) rfl rfl ?_
  refine j_new 2005 h41 (by decide +kernel) rfl rfl fun g42 S42 a42 h42 => ?_
  try rw [← a42 0 (by decide +kernel)]
  try rw [← a42 7 (by decide +kernel)]
  try rw [← a42 4 (by decide +kernel)]
  try rw [← a42 2000 (by decide +kernel)]
  try rw [← a42 2001 (by decide +kernel)]
  have e42 : g42 0 = g 0 := (a42 0 (by decide +kernel)).trans e40
  refine xnn_i ?_
  refine xnn_i ?_
  refine j_sR 2001 2005 3 (by decide +kernel) h42 (by decide +kernel) (by decide +kernel) rfl rfl (by decide +kernel) fun S43 h43 => ?_
  refine j_R 2000 2001 h43 (by decide +kernel) rfl rfl ?_
  refine j_new 2006 h43 (by decide +kernel) rfl rfl fun g44 S44 a44 h44 => ?_
  try rw [← a44 0 (by decide +kernel)]
  try rw [← a44 7 (by decide +kernel)]
  try rw [← a44 4 (by decide +kernel)]
  try rw [← a44 2000 (by decide +kernel)]
  try rw [← a44 2001 (by decide +kernel)]
  have e44 : g44 0 = g 0 := (a44 0 (by decide +kernel)).trans e42
  refine xnn_i ?_
  refine xnn_i ?_
  refine j_sR 2001 2006 4 (by decide +kernel) h44 (by decide +kernel) (by decide +kernel) rfl rfl (by decide +kernel) fun S45 h45 => ?_
  refine j_R 2000 2001 h45 (by decide +kernel) rfl rfl ?_
  refine j_new 2007 h45 (by decide +kernel) rfl rfl fun g46 S46 a46 h46 => ?_
  try rw [← a46 0 (by decide +kernel)]
  try rw [← a46 7 (by decide +kernel)]
  try rw [← a46 4 (by decide +kernel)]
  try rw [← a46 2000 (by decide +kernel)]
  try rw [← a46 2001 (by decide +kernel)]
  have e46 : g46 0 = g 0 := (a46 0 (by decide +kernel)).trans e44
  refine xnn_i ?_
  refine xnn_i ?_
  refine j_sR 2001 2007 5 (by decide +kernel) h46 (by decide +kernel) (by decide +kernel) rfl rfl (by decide +kernel) fun S47 h47 => ?_
  refine j_pR 7 2000 h47 (by decide +kernel) (by decide +kernel) rfl (by decide +kernel) fun S48 h48 => ?_
  refine j_pI 7 h48 (by decide +kernel) rfl fun S49 h49 => ?_
  refine j_pR 7 4 h49 (by decide +kernel) (by decide +kernel) rfl (by decide +kernel) fun S50 h50 => ?_
  refine j_pR 0 7 h50 (by decide +kernel) (by decide +kernel) rfl (by decide +kernel) fun S51 h51 => ?_
  refine j_new 17 h51 (by decide +kernel) rfl rfl fun g52 S52 a52 h52 => ?_
  try rw [← a52 0 (by decide +kernel)]
  have e52 : g52 0 = g 0 := (a52 0 (by decide +kernel)).trans e46
  refine j_R 0 4 h52 (by decide +kernel) rfl rfl ?_
  refine xnn_i ?_
  unfold wX1_init
  refine xnn_i ?_
  refine j_na 18 (by decide +kernel) h52 (by decide +kernel) rfl rfl fun g53 S53 a53 h53 => ?_
  try rw [← a53 0 (by decide +kernel)]
  try rw [← a53 17 (by decide +kernel)]
  try rw [← a53 4 (by decide +kernel)]
  have e53 : g53 0 = g 0 := (a53 0 (by decide +kernel)).trans e52
  refine j_pR 17 18 h53 (by decide +kernel) (by decide +kernel) rfl (by decide +kernel) fun S54 h54 => ?_
  refine j_na 19 (by decide +kernel) h54 (by decide +kernel) rfl rfl fun g55 S55 a55 h55 => ?_
  try rw [← a55 0 (by decide +kernel)]
  try rw [← a55 17 (by decide +kernel)]
  try rw [← a55 4 (by decide +kernel)]
  have e55 : g55 0 = g 0 := (a55 0 (by decide +kernel)).trans e53
  refine j_pR 17 19 h55 (by decide +kernel) (by decide +kernel) rfl (by decide +kernel) fun S56 h56 => ?_
  refine j_na 20 (by decide +kernel) h56 (by decide +kernel) rfl rfl fun g57 S57 a57 h57 => ?_
  try rw [← a57 0 (by decide +kernel)]
  try rw [← a57 17 (by decide +kernel)]
  try rw [← a57 4 (by decide +kernel)]
  have e57 : g57 0 = g 0 := (a57 0 (by decide +kernel)).trans e55
  refine j_pR 17 20 h57 (by decide +kernel) (by decide +kernel) rfl (by decide +kernel) fun S58 h58 => ?_
  refine j_na 21 (by decide +kernel) h58 (by decide +kernel) rfl rfl fun g59 S59 a59 h59 => ?_
  try rw [← a59 0 (by decide +kernel)]
  try rw [← a59 17 (by decide +kernel)]
  try rw [← a59 4 (by decide +kernel)]
  have e59 : g59 0 = g 0 := (a59 0 (by decide +kernel)).trans e57
  refine j_pR 17 21 h59 (by decide +kernel) (by decide +kernel) rfl (by decide +kernel) fun S60 h60 => ?_
  refine j_na 22 (by decide +kernel) h60 (by decide +kernel) rfl rfl fun g61 S61 a61 h61 => ?_
  try rw [← a61 0 (by decide +kernel)]
  try rw [← a61 17 (by decide +kernel)]
  try rw [← a61 4 (by decide +kernel)]
  have e61 : g61 0 = g 0 := (a61 0 (by decide +kernel)).trans e59
  refine j_pR 17 22 h61 (by decide +kernel) (by decide +kernel) rfl (by decide +kernel) fun S62 h62 => ?_
  refine j_pR 17 4 h62 (by decide +kernel) (by decide +kernel) rfl (by decide +kernel) fun S63 h63 => ?_
  refine j_pR 0 17 h63 (by decide +kernel) (by decide +kernel) rfl (by decide +kernel) fun S64 h64 => ?_
  refine j_na 23 (by decide +kernel) h64 (by decide +kernel) rfl rfl fun g65 S65 a65 h65 => ?_
  try rw [← a65 0 (by decide +kernel)]
  have e65 : g65 0 = g 0 := (a65 0 (by decide +kernel)).trans e61
  refine j_pR 0 23 h65 (by decide +kernel) (by decide +kernel) rfl (by decide +kernel) fun S66 h66 => ?_
  refine j_na 24 (by decide +kernel) h66 (by decide +kernel) rfl rfl fun g67 S67 a67 h67 => ?_
  try rw [← a67 0 (by decide +kernel)]
  have e67 : g67 0 = g 0 := (a67 0 (by decide +kernel)).trans e65
  refine j_pR 0 24 h67 (by decide +kernel) (by decide +kernel) rfl (by decide +kernel) fun S68 h68 => ?_
  refine j_R 0 24 h68 (by decide +kernel) rfl rfl ?_
  refine j_fill 24 h68 (by decide +kernel) rfl rfl (by decide +kernel) fun S69 h69 => ?_
  refine j_mn 25 87 (by decide +kernel) h69 (by decide +kernel) (by decide +kernel) (by decide +kernel) rfl rfl (by decide +kernel) fun g70 S70 a70 h70 => ?_
  try rw [← a70 0 (by decide +kernel)]
  have e70 : g70 0 = g 0 := (a70 0 (by decide +kernel)).trans e67
  refine j_pR 0 25 h70 (by decide +kernel) (by decide +kernel) rfl (by decide +kernel) fun S71 h71 => ?_
  refine ⟨9, ?_⟩
  unfold wX8_init_110
  rw [brf (by decide)]
  refine j_R 0 25 h71 (by decide +kernel) rfl rfl ?_
  refine j_aR 25 87 0 (by decide +kernel) h71 (by decide +kernel) rfl (by decide +kernel) rfl ?_
  refine j_fill 87 h71 (by decide +kernel) rfl rfl (by decide +kernel) fun S72 h72 => ?_
  unfold wX8_init_110
  rw [brf (by decide)]
  refine j_R 0 25 h72 (by decide +kernel) rfl rfl ?_
  refine j_aR 25 88 1 (by decide +kernel) h72 (by decide +kernel) rfl (by decide +kernel) rfl ?_
  refine j_fill 88 h72 (by decide +kernel) rfl rfl (by decide +kernel) fun S73 h73 => ?_
  unfold wX8_init_110
  rw [brf (by decide)]
  refine j_R 0 25 h73 (by decide +kernel) rfl rfl ?_
  refine j_aR 25 89 2 (by decide +kernel) h73 (by decide +kernel) rfl (by decide +kernel) rfl ?_
  refine j_fill 89 h73 (by decide +kernel) rfl rfl (by decide +kernel) fun S74 h74 => ?_
  unfold wX8_init_110
  rw [brf (by decide)]
  refine j_R 0 25 h74 (by decide +kernel) rfl rfl ?_
  refine j_aR 25 90 3 (by decide +kernel) h74 (by decide +kernel) rfl (by decide +kernel) rfl ?_
  refine j_fill 90 h74 (by decide +kernel) rfl rfl (by decide +kernel) fun S75 h75 => ?_
  unfold wX8_init_110
  rw [brf (by decide)]
  refine j_R 0 25 h75 (by decide +kernel) rfl rfl ?_
  refine j_aR 25 91 4 (by decide +kernel) h75 (by decide +kernel) rfl (by decide +kernel) rfl ?_
  refine j_fill 91 h75 (by decide +kernel) rfl rfl (by decide +kernel) fun S76 h76 => ?_
  unfold wX8_init_110
  rw [brf (by decide)]
  refine j_R 0 25 h76 (by decide +kernel) rfl rfl ?_
  refine j_aR 25 92 5 (by decide +kernel) h76 (by decide +kernel) rfl (by decide +kernel) rfl ?_
  refine j_fill 92 h76 (by decide +kernel) rfl rfl (by decide +kernel) fun S77 h77 => ?_
  unfold wX8_init_110
  rw [brf (by decide)]
  refine j_R 0 25 h77 (by decide +kernel) rfl rfl ?_
  refine j_aR 25 93 6 (by decide +kernel) h77 (by decide +kernel) rfl (by decide +kernel) rfl ?_
  refine j_fill 93 h77 (by decide +kernel) rfl rfl (by decide +kernel) fun S78 h78 => ?_
  unfold wX8_init_110
  rw [brf (by decide)]
  refine j_R 0 25 h78 (by decide +kernel) rfl rfl ?_
  refine j_aR 25 94 7 (by decide +kernel) h78 (by decide +kernel) rfl (by decide +kernel) rfl ?_
  refine j_fill 94 h78 (by decide +kernel) rfl rfl (by decide +kernel) fun S79 h79 => ?_
  unfold wX8_init_110
  rw [brt (by decide)]
  refine j_new 2008 h79 (by decide +kernel) rfl rfl fun g80 S80 a80 h80 => ?_
  try rw [← a80 0 (by decide +kernel)]
  have e80 : g80 0 = g 0 := (a80 0 (by decide +kernel)).trans e70
  refine xnn_i ?_
  unfold wX3_init
  refine xnn_i ?_
  refine j_na 2009 (by decide +kernel) h80 (by decide +kernel) rfl rfl fun g81 S81 a81 h81 => ?_
  try rw [← a81 0 (by decide +kernel)]
  try rw [← a81 2008 (by decide +kernel)]
  have e81 : g81 0 = g 0 := (a81 0 (by decide +kernel)).trans e80
  refine j_pR 2008 2009 h81 (by decide +kernel) (by decide +kernel) rfl (by decide +kernel) fun S82 h82 => ?_
  refine j_R 2008 2009 h82 (by decide +kernel) rfl rfl ?_
  refine j_new 2010 h82 (by decide +kernel) rfl rfl fun g83 S83 a83 h83 => ?_
  try rw [← a83 0 (by decide +kernel)]
  try rw [← a83 2008 (by decide +kernel)]
  try rw [← a83 2009 (by decide +kernel)]
  have e83 : g83 0 = g 0 := (a83 0 (by decide +kernel)).trans e81
  refine xnn_i ?_
  unfold wX5_init
  refine xnn_i ?_
  refine j_sR 2009 2010 0 (by decide +kernel) h83 (by decide +kernel) (by decide +kernel) rfl rfl (by decide +kernel) fun S84 h84 => ?_
  refine j_R 2008 2009 h84 (by decide +kernel) rfl rfl ?_
  refine j_new 2011 h84 (by decide +kernel) rfl rfl fun g85 S85 a85 h85 => ?_
  try rw [← a85 0 (by decide +kernel)]
  try rw [← a85 2008 (by decide +kernel)]
  try rw [← a85 2009 (by decide +kernel)]
  have e85 : g85 0 = g 0 := (a85 0 (by decide +kernel)).trans e83
  refine xnn_i ?_
  refine xnn_i ?_
  refine j_sR 2009 2011 1 (by decide +kernel) h85 (by decide +kernel) (by decide +kernel) rfl rfl (by decide +kernel) fun S86 h86 => ?_
  refine j_R 2008 2009 h86 (by decide +kernel) rfl rfl ?_
  refine j_new 2012 h86 (by decide +kernel) rfl rfl fun g87 S87 a87 h87 => ?_
  try rw [← a87 0 (by decide +kernel)]
  try rw [← a87 2008 (by decide +kernel)]
  try rw [← a87 2009 (by decide +kernel)]
  have e87 : g87 0 = g 0 := (a87 0 (by decide +kernel)).trans e85
  refine xnn_i ?_
  refine xnn_i ?_
  refine j_sR 2009 2012 2 (by decide +kernel) h87 (by decide +kernel) (by decide +kernel) rfl rfl (by decide +kernel) fun S88 h88 => ?_
  refine j_R 2008 2009 h88 (by decide +kernel) rfl rfl ?_
  refine j_new 2013 h88 (by decide +kernel) rfl rfl fun g89 S89 a89 h89 => ?_
  try rw [← a89 0 (by decide +kernel)]
  try rw [← a89 2008 (by decide +kernel)]
  try rw [← a89 2009 (by decide +kernel)]
  have e89 : g89 0 = g 0 := (a89 0 (by decide +kernel)).trans e87
  refine xnn_i ?_
  refine xnn_i ?_
  refine j_sR 2009 2013 3 (by decide +kernel) h89 (by decide +kernel) (by decide +kernel) rfl rfl (by decide +kernel) fun S90 h90 => ?_
  refine j_R 2008 2009 h90 (by decide +kernel) rfl rfl ?_
  refine j_new 2014 h90 (by decide +kernel) rfl rfl fun g91 S91 a91 h91 => ?_
  try rw [← a91 0 (by decide +kernel)]
  try rw [← a91 2008 (by decide +kernel)]
  try rw [← a91 2009 (by decide +kernel)]
  have e91 : g91 0 = g 0 := (a91 0 (by decide +kernel)).trans e89
  refine xnn_i ?_
  refine xnn_i ?_
  refine j_sR 2009 2014 4 (by decide +kernel) h91 (by decide +kernel) (by decide +kernel) rfl rfl (by decide +kernel) fun S92 h92 => ?_
  refine j_R 2008 2009 h92 (by decide +kernel) rfl rfl ?_
  refine j_new 2015 h92 (by decide +kernel) rfl rfl fun g93 S93 a93 h93 => ?_
  try rw [← a93 0 (by decide +kernel)]
  try rw [← a93 2008 (by decide +kernel)]
  try rw [← a93 2009 (by decide +kernel)]
  have e93 : g93 0 = g 0 := (a93 0 (by decide +kernel)).trans e91
  refine xnn_i ?_
  refine xnn_i ?_
  refine j_sR 2009 2015 5 (by decide +kernel) h93 (by decide +kernel) (by decide +kernel) rfl rfl (by decide +kernel) fun S94 h94 => ?_
  refine j_pR 0 2008 h94 (by decide +kernel) (by decide +kernel) rfl (by decide +kernel) fun S95 h95 => ?_
  refine j_pI 0 h95 (by decide +kernel) rfl fun S96 h96 => ?_
  refine j_pI 0 h96 (by decide +kernel) rfl fun S97 h97 => ?_
  refine j_pI 0 h97 (by decide +kernel) rfl fun S98 h98 => ?_
  exact hp _ _ e93 h98
end
