-- X7_hasRoomFor
set_option maxRecDepth 100000 in
set_option maxHeartbeats 4000000 in
theorem rX7_hasRoomFor {g : Nat → Nat} {post post' : Int32 → Pool → Prop} (hp : ∀ v S M, CR g S M → post' v M → post v S) : ∀ (v0 : Option Nat) (v1 : Int32) (S M : Pool), CR g S M → wX7_hasRoomFor post' v0 v1 M → wX7_hasRoomFor post (v0.map g) v1 S := by
  intro v0 v1 S M h hw
  unfold wX7_hasRoomFor at hw ⊢
  refine cr_I h hw (fun a1 hw => ?_)
  refine ⟨fun c2 => ?_, fun c2 => ?_⟩
  · have hw := hw.1 c2
    exact ⟨hw.1, hp _ _ _ h hw.2⟩
  · have hw := hw.2 c2
    exact ⟨hw.1, hp _ _ _ h hw.2⟩
-- X7_put
set_option maxRecDepth 100000 in
set_option maxHeartbeats 4000000 in
theorem rX7_put_3 {g : Nat → Nat} {post post' : Pool → Prop} (hp : ∀ S M, CR g S M → post' M → post S) : ∀ (n : Nat) (v0 : Option Nat) (v1 : Int32) (v2 : Int32) (S M : Pool), CR g S M → wX7_put_3 post' n v0 v1 v2 M → wX7_put_3 post n (v0.map g) v1 v2 S := by
  intro n
  induction n with
  | zero => intro v0 v1 v2 S M h hw; exact False.elim hw
  | succ n ih =>
    intro v0 v1 v2 S M h hw
    unfold wX7_put_3 at hw ⊢
    refine ⟨fun c1 => ?_, fun c1 => ?_⟩
    · have hw := hw.1 c1
      exact hp _ _ h hw
    · have hw := hw.2 c1
      refine cr_I h hw (fun a2 hw => ?_)
      refine ⟨fun c3 => ?_, fun c3 => ?_⟩
      · have hw := hw.1 c3
        exact hp _ _ h hw
      · have hw := hw.2 c3
        refine cr_R h hw (fun a4 hw => ?_)
        refine cr_I h hw (fun a5 hw => ?_)
        refine cr_sI h hw (fun S M h hw => ?_)
        refine cr_I h hw (fun a6 hw => ?_)
        refine cr_pI h hw (fun S M h hw => ?_)
        exact ih _ _ _ _ _ h hw
set_option maxRecDepth 100000 in
set_option maxHeartbeats 4000000 in
theorem rX7_put {g : Nat → Nat} {post post' : Pool → Prop} (hp : ∀ S M, CR g S M → post' M → post S) : ∀ (v0 : Option Nat) (v1 : Int32) (S M : Pool), CR g S M → wX7_put post' v0 v1 M → wX7_put post (v0.map g) v1 S := by
  intro v0 v1 S M h hw
  unfold wX7_put at hw ⊢
  obtain ⟨n1, hw⟩ := hw
  exact ⟨n1, rX7_put_3 hp n1 _ _ _ _ _ h hw⟩
-- X0_valueIn
set_option maxRecDepth 100000 in
set_option maxHeartbeats 4000000 in
theorem rX0_valueIn {g : Nat → Nat} {post post' : Int32 → Pool → Prop} (hp : ∀ v S M, CR g S M → post' v M → post v S) : ∀ (v0 : Option Nat) (v1 : Int32) (S M : Pool), CR g S M → wX0_valueIn post' v0 v1 M → wX0_valueIn post (v0.map g) v1 S := by
  intro v0 v1 S M h hw
  unfold wX0_valueIn at hw ⊢
  refine ⟨fun c1 => ?_, fun c1 => ?_⟩
  · have hw := hw.1 c1
    refine cr_I h hw (fun a5 hw => ?_)
    exact hp _ _ _ h hw
  · have hw := hw.2 c1
    refine ⟨fun c2 => ?_, fun c2 => ?_⟩
    · have hw := hw.1 c2
      refine cr_I h hw (fun a4 hw => ?_)
      exact hp _ _ _ h hw
    · have hw := hw.2 c2
      refine cr_I h hw (fun a3 hw => ?_)
      exact hp _ _ _ h hw
-- X0_isAlike
set_option maxRecDepth 100000 in
set_option maxHeartbeats 4000000 in
theorem rX0_isAlike {g : Nat → Nat} {post post' : Int32 → Pool → Prop} (hp : ∀ v S M, CR g S M → post' v M → post v S) : ∀ (v0 : Option Nat) (v1 : Option Nat) (S M : Pool), CR g S M → wX0_isAlike post' v0 v1 M → wX0_isAlike post (v0.map g) (v1.map g) S := by
  intro v0 v1 S M h hw
  unfold wX0_isAlike at hw ⊢
  refine cr_I h hw (fun a1 hw => ?_)
  refine cr_I h hw (fun a2 hw => ?_)
  refine ⟨fun c3 => ?_, fun c3 => ?_⟩
  · have hw := hw.1 c3
    refine cr_I h hw (fun a4 hw => ?_)
    refine cr_I h hw (fun a5 hw => ?_)
    refine ⟨fun c6 => ?_, fun c6 => ?_⟩
    · have hw := hw.1 c6
      refine cr_I h hw (fun a7 hw => ?_)
      refine cr_I h hw (fun a8 hw => ?_)
      refine ⟨fun c9 => ?_, fun c9 => ?_⟩
      · have hw := hw.1 c9
        exact ⟨hw.1, hp _ _ _ h hw.2⟩
      · have hw := hw.2 c9
        exact ⟨hw.1, hp _ _ _ h hw.2⟩
    · have hw := hw.2 c6
      exact ⟨hw.1, hp _ _ _ h hw.2⟩
  · have hw := hw.2 c3
    exact ⟨hw.1, hp _ _ _ h hw.2⟩
-- X5_clear
set_option maxRecDepth 100000 in
set_option maxHeartbeats 4000000 in
theorem rX5_clear {g : Nat → Nat} {post post' : Pool → Prop} (hp : ∀ S M, CR g S M → post' M → post S) : ∀ (v0 : Option Nat) (v1 : Int32) (v2 : Int32) (S M : Pool), CR g S M → wX5_clear post' v0 v1 v2 M → wX5_clear post (v0.map g) v1 v2 S := by
  intro v0 v1 v2 S M h hw
  unfold wX5_clear at hw ⊢
  refine cr_pI h hw (fun S M h hw => ?_)
  refine cr_pI h hw (fun S M h hw => ?_)
  refine cr_pI h hw (fun S M h hw => ?_)
  refine cr_pI h hw (fun S M h hw => ?_)
  refine cr_pZ h hw (fun S M h hw => ?_)
  refine cr_pZ h hw (fun S M h hw => ?_)
  refine cr_pI h hw (fun S M h hw => ?_)
  refine cr_pI h hw (fun S M h hw => ?_)
  exact hp _ _ h hw
-- X5_tells
set_option maxRecDepth 100000 in
set_option maxHeartbeats 4000000 in
theorem rX5_tells_27 {g : Nat → Nat} {post post' : Int32 → Pool → Prop} (hp : ∀ v S M, CR g S M → post' v M → post v S) : ∀ (z0 : Int32) (S M : Pool), CR g S M → wX5_tells_27 post' z0 M → wX5_tells_27 post z0 S := by
  intro z0 S M h hw
  unfold wX5_tells_27 at hw ⊢
  refine ⟨fun c1 => ?_, fun c1 => ?_⟩
  · have hw := hw.1 c1
    exact ⟨hw.1, hp _ _ _ h hw.2⟩
  · have hw := hw.2 c1
    exact ⟨hw.1, hp _ _ _ h hw.2⟩
set_option maxRecDepth 100000 in
set_option maxHeartbeats 4000000 in
theorem rX5_tells {g : Nat → Nat} {post post' : Int32 → Pool → Prop} (hp : ∀ v S M, CR g S M → post' v M → post v S) : ∀ (v0 : Option Nat) (v1 : Int32) (S M : Pool), CR g S M → wX5_tells post' v0 v1 M → wX5_tells post (v0.map g) v1 S := by
  intro v0 v1 S M h hw
  unfold wX5_tells at hw ⊢
  refine ⟨fun c1 => ?_, fun c1 => ?_⟩
  · have hw := hw.1 c1
    refine cr_I h hw (fun a5 hw => ?_)
    exact rX5_tells_27 hp _ _ _ h hw
  · have hw := hw.2 c1
    refine ⟨fun c2 => ?_, fun c2 => ?_⟩
    · have hw := hw.1 c2
      refine cr_I h hw (fun a4 hw => ?_)
      exact rX5_tells_27 hp _ _ _ h hw
    · have hw := hw.2 c2
      refine cr_I h hw (fun a3 hw => ?_)
      exact rX5_tells_27 hp _ _ _ h hw
-- X5_tell
set_option maxRecDepth 100000 in
set_option maxHeartbeats 4000000 in
theorem rX5_tell {g : Nat → Nat} {post post' : Pool → Prop} (hp : ∀ S M, CR g S M → post' M → post S) : ∀ (v0 : Option Nat) (v1 : Int32) (v2 : Int32) (S M : Pool), CR g S M → wX5_tell post' v0 v1 v2 M → wX5_tell post (v0.map g) v1 v2 S := by
  intro v0 v1 v2 S M h hw
  unfold wX5_tell at hw ⊢
  refine ⟨fun c1 => ?_, fun c1 => ?_⟩
  · have hw := hw.1 c1
    refine cr_pI h hw (fun S M h hw => ?_)
    exact hp _ _ h hw
  · have hw := hw.2 c1
    refine ⟨fun c2 => ?_, fun c2 => ?_⟩
    · have hw := hw.1 c2
      refine cr_pI h hw (fun S M h hw => ?_)
      exact hp _ _ h hw
    · have hw := hw.2 c2
      refine cr_pI h hw (fun S M h hw => ?_)
      exact hp _ _ h hw
-- X5_admits
set_option maxRecDepth 100000 in
set_option maxHeartbeats 4000000 in
theorem rX5_admits_68 {g : Nat → Nat} {post post' : Int32 → Pool → Prop} (hp : ∀ v S M, CR g S M → post' v M → post v S) : ∀ (S M : Pool), CR g S M → wX5_admits_68 post' M → wX5_admits_68 post S := by
  intro S M h hw
  unfold wX5_admits_68 at hw ⊢
  exact ⟨hw.1, hp _ _ _ h hw.2⟩
set_option maxRecDepth 100000 in
set_option maxHeartbeats 4000000 in
theorem rX5_admits_49 {g : Nat → Nat} {post post' : Int32 → Pool → Prop} (hp : ∀ v S M, CR g S M → post' v M → post v S) : ∀ (v0 : Option Nat) (v1 : Option Nat) (S M : Pool), CR g S M → wX5_admits_49 post' v0 v1 M → wX5_admits_49 post (v0.map g) (v1.map g) S := by
  intro v0 v1 S M h hw
  unfold wX5_admits_49 at hw ⊢
  refine cr_I h hw (fun a1 hw => ?_)
  refine ⟨fun c2 => ?_, fun c2 => ?_⟩
  · have hw := hw.1 c2
    exact rX5_admits_68 hp _ _ h hw
  · have hw := hw.2 c2
    refine cr_I h hw (fun a3 hw => ?_)
    refine cr_I h hw (fun a4 hw => ?_)
    refine ⟨fun c5 => ?_, fun c5 => ?_⟩
    · have hw := hw.1 c5
      exact rX5_admits_68 hp _ _ h hw
    · have hw := hw.2 c5
      exact ⟨hw.1, hp _ _ _ h hw.2⟩
set_option maxRecDepth 100000 in
set_option maxHeartbeats 4000000 in
theorem rX5_admits_30 {g : Nat → Nat} {post post' : Int32 → Pool → Prop} (hp : ∀ v S M, CR g S M → post' v M → post v S) : ∀ (v0 : Option Nat) (v1 : Option Nat) (S M : Pool), CR g S M → wX5_admits_30 post' v0 v1 M → wX5_admits_30 post (v0.map g) (v1.map g) S := by
  intro v0 v1 S M h hw
  unfold wX5_admits_30 at hw ⊢
  refine cr_I h hw (fun a1 hw => ?_)
  refine ⟨fun c2 => ?_, fun c2 => ?_⟩
  · have hw := hw.1 c2
    exact rX5_admits_49 hp _ _ _ _ h hw
  · have hw := hw.2 c2
    refine cr_I h hw (fun a3 hw => ?_)
    refine cr_I h hw (fun a4 hw => ?_)
    refine ⟨fun c5 => ?_, fun c5 => ?_⟩
    · have hw := hw.1 c5
      exact rX5_admits_49 hp _ _ _ _ h hw
    · have hw := hw.2 c5
      exact ⟨hw.1, hp _ _ _ h hw.2⟩
set_option maxRecDepth 100000 in
set_option maxHeartbeats 4000000 in
theorem rX5_admits {g : Nat → Nat} {post post' : Int32 → Pool → Prop} (hp : ∀ v S M, CR g S M → post' v M → post v S) : ∀ (v0 : Option Nat) (v1 : Option Nat) (S M : Pool), CR g S M → wX5_admits post' v0 v1 M → wX5_admits post (v0.map g) (v1.map g) S := by
  intro v0 v1 S M h hw
  unfold wX5_admits at hw ⊢
  refine cr_I h hw (fun a1 hw => ?_)
  refine cr_I h hw (fun a2 hw => ?_)
  refine ⟨fun c3 => ?_, fun c3 => ?_⟩
  · have hw := hw.1 c3
    refine cr_I h hw (fun a4 hw => ?_)
    refine ⟨fun c5 => ?_, fun c5 => ?_⟩
    · have hw := hw.1 c5
      exact rX5_admits_30 hp _ _ _ _ h hw
    · have hw := hw.2 c5
      refine cr_I h hw (fun a6 hw => ?_)
      refine cr_I h hw (fun a7 hw => ?_)
      refine ⟨fun c8 => ?_, fun c8 => ?_⟩
      · have hw := hw.1 c8
        exact rX5_admits_30 hp _ _ _ _ h hw
      · have hw := hw.2 c8
        exact ⟨hw.1, hp _ _ _ h hw.2⟩
  · have hw := hw.2 c3
    exact ⟨hw.1, hp _ _ _ h hw.2⟩
-- J7_fill_53178
set_option maxRecDepth 100000 in
set_option maxHeartbeats 4000000 in
theorem rJ7_fill_53178_5 {g : Nat → Nat} {post post' : Pool → Prop} (hp : ∀ S M, CR g S M → post' M → post S) : ∀ (n : Nat) (v0 : Option Nat) (v1 : Int32) (v2 : Int32) (v3 : Int32) (S M : Pool), CR g S M → wJ7_fill_53178_5 post' n v0 v1 v2 v3 M → wJ7_fill_53178_5 post n (v0.map g) v1 v2 v3 S := by
  intro n
  induction n with
  | zero => intro v0 v1 v2 v3 S M h hw; exact False.elim hw
  | succ n ih =>
    intro v0 v1 v2 v3 S M h hw
    unfold wJ7_fill_53178_5 at hw ⊢
    refine ⟨fun c1 => ?_, fun c1 => ?_⟩
    · have hw := hw.1 c1
      exact hp _ _ h hw
    · have hw := hw.2 c1
      refine cr_sI h hw (fun S M h hw => ?_)
      exact ih _ _ _ _ _ _ h hw
set_option maxRecDepth 100000 in
set_option maxHeartbeats 4000000 in
theorem rJ7_fill_53178 {g : Nat → Nat} {post post' : Pool → Prop} (hp : ∀ S M, CR g S M → post' M → post S) : ∀ (v0 : Option Nat) (v1 : Int32) (S M : Pool), CR g S M → wJ7_fill_53178 post' v0 v1 M → wJ7_fill_53178 post (v0.map g) v1 S := by
  intro v0 v1 S M h hw
  unfold wJ7_fill_53178 at hw ⊢
  refine cr_ln h hw (fun a1 hw => ?_)
  obtain ⟨n1, hw⟩ := hw
  exact ⟨n1, rJ7_fill_53178_5 hp n1 _ _ _ _ _ _ h hw⟩
-- J6_bitCount_0f7a4
set_option maxRecDepth 100000 in
set_option maxHeartbeats 4000000 in
theorem rJ6_bitCount_0f7a4 {g : Nat → Nat} {post post' : Int32 → Pool → Prop} (hp : ∀ v S M, CR g S M → post' v M → post v S) : ∀ (v0 : Int32) (S M : Pool), CR g S M → wJ6_bitCount_0f7a4 post' v0 M → wJ6_bitCount_0f7a4 post v0 S := by
  intro v0 S M h hw
  unfold wJ6_bitCount_0f7a4 at hw ⊢
  exact hp _ _ _ h hw
-- X3_clear
set_option maxRecDepth 100000 in
set_option maxHeartbeats 4000000 in
theorem rX3_clear {g : Nat → Nat} {post post' : Pool → Prop} (hp : ∀ S M, CR g S M → post' M → post S) : ∀ (v0 : Option Nat) (S M : Pool), CR g S M → wX3_clear post' v0 M → wX3_clear post (v0.map g) S := by
  intro v0 S M h hw
  unfold wX3_clear at hw ⊢
  refine cr_pI h hw (fun S M h hw => ?_)
  refine cr_pI h hw (fun S M h hw => ?_)
  refine cr_pI h hw (fun S M h hw => ?_)
  refine cr_pI h hw (fun S M h hw => ?_)
  refine cr_pI h hw (fun S M h hw => ?_)
  refine cr_pI h hw (fun S M h hw => ?_)
  refine cr_pI h hw (fun S M h hw => ?_)
  exact hp _ _ h hw
-- X3_note
set_option maxRecDepth 100000 in
set_option maxHeartbeats 4000000 in
theorem rX3_note {g : Nat → Nat} {post post' : Pool → Prop} (hp : ∀ S M, CR g S M → post' M → post S) : ∀ (v0 : Option Nat) (v1 : Int32) (S M : Pool), CR g S M → wX3_note post' v0 v1 M → wX3_note post (v0.map g) v1 S := by
  intro v0 v1 S M h hw
  unfold wX3_note at hw ⊢
  refine cr_I h hw (fun a1 hw => ?_)
  refine cr_pI h hw (fun S M h hw => ?_)
  exact hp _ _ h hw
-- X3_addStep
set_option maxRecDepth 100000 in
set_option maxHeartbeats 4000000 in
theorem rX3_addStep {g : Nat → Nat} {post post' : Option Nat → Pool → Prop} (hp : ∀ (v : Option Nat) S M, CR g S M → post' v M → post (v.map g) S) : ∀ (v0 : Option Nat) (v1 : Int32) (S M : Pool), CR g S M → wX3_addStep post' v0 v1 M → wX3_addStep post (v0.map g) v1 S := by
  intro v0 v1 S M h hw
  unfold wX3_addStep at hw ⊢
  refine cr_I h hw (fun a1 hw => ?_)
  refine ⟨fun c2 => ?_, fun c2 => ?_⟩
  · have hw := hw.1 c2
    refine cr_R h hw (fun a3 hw => ?_)
    refine cr_I h hw (fun a4 hw => ?_)
    refine cr_aR h hw (fun a5 hw => ?_)
    refine cr_I h hw (fun a6 hw => ?_)
    refine cr_rc h hw (fun hw => ?_)
    refine rX5_clear (fun S M h hw => ?_) _ _ _ _ _ h hw
    refine cr_I h hw (fun a7 hw => ?_)
    refine cr_pI h hw (fun S M h hw => ?_)
    refine ⟨fun c8 => ?_, fun c8 => ?_⟩
    · have hw := hw.1 c8
      refine cr_I h hw (fun a9 hw => ?_)
      refine cr_pI h hw (fun S M h hw => ?_)
      exact hp _ _ _ h hw
    · have hw := hw.2 c8
      exact hp _ _ _ h hw
  · have hw := hw.2 c2
    exact hp none _ _ h hw
-- X2_actAt
set_option maxRecDepth 100000 in
set_option maxHeartbeats 4000000 in
theorem rX2_actAt_21 {g : Nat → Nat} {post post' : Option Nat → Pool → Prop} (hp : ∀ (v : Option Nat) S M, CR g S M → post' v M → post (v.map g) S) : ∀ (S M : Pool), CR g S M → wX2_actAt_21 post' M → wX2_actAt_21 post S := by
  intro S M h hw
  unfold wX2_actAt_21 at hw ⊢
  exact hp none _ _ h hw
set_option maxRecDepth 100000 in
set_option maxHeartbeats 4000000 in
theorem rX2_actAt {g : Nat → Nat} {post post' : Option Nat → Pool → Prop} (hp : ∀ (v : Option Nat) S M, CR g S M → post' v M → post (v.map g) S) : ∀ (v0 : Option Nat) (v1 : Int32) (S M : Pool), CR g S M → wX2_actAt post' v0 v1 M → wX2_actAt post (v0.map g) v1 S := by
  intro v0 v1 S M h hw
  unfold wX2_actAt at hw ⊢
  refine ⟨fun c1 => ?_, fun c1 => ?_⟩
  · have hw := hw.1 c1
    exact rX2_actAt_21 hp _ _ h hw
  · have hw := hw.2 c1
    refine cr_I h hw (fun a2 hw => ?_)
    refine ⟨fun c3 => ?_, fun c3 => ?_⟩
    · have hw := hw.1 c3
      exact rX2_actAt_21 hp _ _ h hw
    · have hw := hw.2 c3
      refine cr_R h hw (fun a4 hw => ?_)
      refine cr_aR h hw (fun a5 hw => ?_)
      exact hp _ _ _ h hw
-- X2_tookDouble
set_option maxRecDepth 100000 in
set_option maxHeartbeats 4000000 in
theorem rX2_tookDouble_91 {g : Nat → Nat} {K3 K3' : Option Nat → Int32 → Int32 → Int32 → Int32 → Int32 → Int32 → Pool → Prop} {post post' : Int32 → Pool → Prop} (hp : ∀ v S M, CR g S M → post' v M → post v S) (hK3 : ∀ (v0 : Option Nat) (v1 : Int32) (v2 : Int32) (v3 : Int32) (v4 : Int32) (v5 : Int32) (v6 : Int32) (S M : Pool), CR g S M → K3' v0 v1 v2 v3 v4 v5 v6 M → K3 (v0.map g) v1 v2 v3 v4 v5 v6 S) : ∀ (v0 : Option Nat) (v1 : Int32) (v2 : Int32) (v3 : Int32) (v4 : Int32) (v5 : Int32) (v6 : Int32) (S M : Pool), CR g S M → wX2_tookDouble_91 K3' post' v0 v1 v2 v3 v4 v5 v6 M → wX2_tookDouble_91 K3 post (v0.map g) v1 v2 v3 v4 v5 v6 S := by
  intro v0 v1 v2 v3 v4 v5 v6 S M h hw
  unfold wX2_tookDouble_91 at hw ⊢
  exact hK3 _ _ _ _ _ _ _ _ _ h hw
set_option maxRecDepth 100000 in
set_option maxHeartbeats 4000000 in
theorem rX2_tookDouble_3 {g : Nat → Nat} {post post' : Int32 → Pool → Prop} (hp : ∀ v S M, CR g S M → post' v M → post v S) : ∀ (n : Nat) (v0 : Option Nat) (v1 : Int32) (v2 : Int32) (v3 : Int32) (v4 : Int32) (v5 : Int32) (v6 : Int32) (S M : Pool), CR g S M → wX2_tookDouble_3 post' n v0 v1 v2 v3 v4 v5 v6 M → wX2_tookDouble_3 post n (v0.map g) v1 v2 v3 v4 v5 v6 S := by
  intro n
  induction n with
  | zero => intro v0 v1 v2 v3 v4 v5 v6 S M h hw; exact False.elim hw
  | succ n ih =>
    intro v0 v1 v2 v3 v4 v5 v6 S M h hw
    unfold wX2_tookDouble_3 at hw ⊢
    refine cr_I h hw (fun a1 hw => ?_)
    refine ⟨fun c2 => ?_, fun c2 => ?_⟩
    · have hw := hw.1 c2
      exact ⟨hw.1, hp _ _ _ h hw.2⟩
    · have hw := hw.2 c2
      refine cr_R h hw (fun a3 hw => ?_)
      refine cr_aR h hw (fun a4 hw => ?_)
      refine cr_I h hw (fun a5 hw => ?_)
      refine ⟨fun c6 => ?_, fun c6 => ?_⟩
      · have hw := hw.1 c6
        refine cr_I h hw (fun a7 hw => ?_)
        refine ⟨fun c8 => ?_, fun c8 => ?_⟩
        · have hw := hw.1 c8
          refine cr_I h hw (fun a9 hw => ?_)
          refine ⟨fun c10 => ?_, fun c10 => ?_⟩
          · have hw := hw.1 c10
            refine cr_I h hw (fun a11 hw => ?_)
            refine ⟨fun c12 => ?_, fun c12 => ?_⟩
            · have hw := hw.1 c12
              refine cr_I h hw (fun a13 hw => ?_)
              refine ⟨fun c14 => ?_, fun c14 => ?_⟩
              · have hw := hw.1 c14
                refine cr_I h hw (fun a15 hw => ?_)
                refine cr_pI h hw (fun S M h hw => ?_)
                refine cr_I h hw (fun a16 hw => ?_)
                refine cr_pI h hw (fun S M h hw => ?_)
                exact ⟨hw.1, hp _ _ _ h hw.2⟩
              · have hw := hw.2 c14
                exact rX2_tookDouble_91 hp ih _ _ _ _ _ _ _ _ _ h hw
            · have hw := hw.2 c12
              exact rX2_tookDouble_91 hp ih _ _ _ _ _ _ _ _ _ h hw
          · have hw := hw.2 c10
            exact rX2_tookDouble_91 hp ih _ _ _ _ _ _ _ _ _ h hw
        · have hw := hw.2 c8
          exact rX2_tookDouble_91 hp ih _ _ _ _ _ _ _ _ _ h hw
      · have hw := hw.2 c6
        exact rX2_tookDouble_91 hp ih _ _ _ _ _ _ _ _ _ h hw
set_option maxRecDepth 100000 in
set_option maxHeartbeats 4000000 in
theorem rX2_tookDouble {g : Nat → Nat} {post post' : Int32 → Pool → Prop} (hp : ∀ v S M, CR g S M → post' v M → post v S) : ∀ (v0 : Option Nat) (v1 : Int32) (v2 : Int32) (v3 : Int32) (v4 : Int32) (v5 : Int32) (S M : Pool), CR g S M → wX2_tookDouble post' v0 v1 v2 v3 v4 v5 M → wX2_tookDouble post (v0.map g) v1 v2 v3 v4 v5 S := by
  intro v0 v1 v2 v3 v4 v5 S M h hw
  unfold wX2_tookDouble at hw ⊢
  obtain ⟨n1, hw⟩ := hw
  exact ⟨n1, rX2_tookDouble_3 hp n1 _ _ _ _ _ _ _ _ _ h hw⟩
-- X2_familyOf
set_option maxRecDepth 100000 in
set_option maxHeartbeats 4000000 in
theorem rX2_familyOf_2 {g : Nat → Nat} {post post' : Int32 → Pool → Prop} (hp : ∀ v S M, CR g S M → post' v M → post v S) : ∀ (n : Nat) (v0 : Option Nat) (v1 : Option Nat) (v2 : Int32) (S M : Pool), CR g S M → wX2_familyOf_2 post' n v0 v1 v2 M → wX2_familyOf_2 post n (v0.map g) (v1.map g) v2 S := by
  intro n
  induction n with
  | zero => intro v0 v1 v2 S M h hw; exact False.elim hw
  | succ n ih =>
    intro v0 v1 v2 S M h hw
    unfold wX2_familyOf_2 at hw ⊢
    refine cr_I h hw (fun a1 hw => ?_)
    refine ⟨fun c2 => ?_, fun c2 => ?_⟩
    · have hw := hw.1 c2
      refine cr_I h hw (fun a3 hw => ?_)
      exact hp _ _ _ h hw
    · have hw := hw.2 c2
      refine cr_R h hw (fun a4 hw => ?_)
      refine cr_aR h hw (fun a5 hw => ?_)
      refine cr_rc h hw (fun hw => ?_)
      refine rX0_isAlike (fun a6 S M h hw => ?_) _ _ _ _ h hw
      refine ⟨fun c7 => ?_, fun c7 => ?_⟩
      · have hw := hw.1 c7
        exact ih _ _ _ _ _ h hw
      · have hw := hw.2 c7
        exact hp _ _ _ h hw
set_option maxRecDepth 100000 in
set_option maxHeartbeats 4000000 in
theorem rX2_familyOf {g : Nat → Nat} {post post' : Int32 → Pool → Prop} (hp : ∀ v S M, CR g S M → post' v M → post v S) : ∀ (v0 : Option Nat) (v1 : Option Nat) (S M : Pool), CR g S M → wX2_familyOf post' v0 v1 M → wX2_familyOf post (v0.map g) (v1.map g) S := by
  intro v0 v1 S M h hw
  unfold wX2_familyOf at hw ⊢
  obtain ⟨n1, hw⟩ := hw
  exact ⟨n1, rX2_familyOf_2 hp n1 _ _ _ _ _ h hw⟩
-- X2_add
set_option maxRecDepth 100000 in
set_option maxHeartbeats 4000000 in
theorem rX2_add_98 {g : Nat → Nat} {post post' : Pool → Prop} (hp : ∀ S M, CR g S M → post' M → post S) : ∀ (v0 : Option Nat) (v1 : Option Nat) (v2 : Int32) (S M : Pool), CR g S M → wX2_add_98 post' v0 v1 v2 M → wX2_add_98 post (v0.map g) (v1.map g) v2 S := by
  intro v0 v1 v2 S M h hw
  unfold wX2_add_98 at hw ⊢
  refine cr_R h hw (fun a1 hw => ?_)
  refine cr_sR h hw (fun S M h hw => ?_)
  refine cr_I h hw (fun a2 hw => ?_)
  refine cr_pI h hw (fun S M h hw => ?_)
  exact hp _ _ h hw
set_option maxRecDepth 100000 in
set_option maxHeartbeats 4000000 in
theorem rX2_add_56 {g : Nat → Nat} {post post' : Pool → Prop} (hp : ∀ S M, CR g S M → post' M → post S) : ∀ (n : Nat) (v0 : Option Nat) (v1 : Option Nat) (v2 : Int32) (S M : Pool), CR g S M → wX2_add_56 post' n v0 v1 v2 M → wX2_add_56 post n (v0.map g) (v1.map g) v2 S := by
  intro n
  induction n with
  | zero => intro v0 v1 v2 S M h hw; exact False.elim hw
  | succ n ih =>
    intro v0 v1 v2 S M h hw
    unfold wX2_add_56 at hw ⊢
    refine ⟨fun c1 => ?_, fun c1 => ?_⟩
    · have hw := hw.1 c1
      exact rX2_add_98 hp _ _ _ _ _ h hw
    · have hw := hw.2 c1
      refine cr_R h hw (fun a2 hw => ?_)
      refine cr_aR h hw (fun a3 hw => ?_)
      refine cr_I h hw (fun a4 hw => ?_)
      refine cr_I h hw (fun a5 hw => ?_)
      refine ⟨fun c6 => ?_, fun c6 => ?_⟩
      · have hw := hw.1 c6
        exact rX2_add_98 hp _ _ _ _ _ h hw
      · have hw := hw.2 c6
        refine cr_R h hw (fun a7 hw => ?_)
        refine cr_R h hw (fun a8 hw => ?_)
        refine cr_aR h hw (fun a9 hw => ?_)
        refine cr_sR h hw (fun S M h hw => ?_)
        exact ih _ _ _ _ _ h hw
set_option maxRecDepth 100000 in
set_option maxHeartbeats 4000000 in
theorem rX2_add_41 {g : Nat → Nat} {post post' : Pool → Prop} (hp : ∀ S M, CR g S M → post' M → post S) : ∀ (v0 : Option Nat) (v1 : Option Nat) (S M : Pool), CR g S M → wX2_add_41 post' v0 v1 M → wX2_add_41 post (v0.map g) (v1.map g) S := by
  intro v0 v1 S M h hw
  unfold wX2_add_41 at hw ⊢
  refine cr_R h hw (fun a1 hw => ?_)
  refine cr_I h hw (fun a2 hw => ?_)
  refine cr_sR h hw (fun S M h hw => ?_)
  refine cr_I h hw (fun a3 hw => ?_)
  obtain ⟨n1, hw⟩ := hw
  exact ⟨n1, rX2_add_56 hp n1 _ _ _ _ _ h hw⟩
set_option maxRecDepth 100000 in
set_option maxHeartbeats 4000000 in
theorem rX2_add {g : Nat → Nat} {post post' : Pool → Prop} (hp : ∀ S M, CR g S M → post' M → post S) : ∀ (v0 : Option Nat) (v1 : Option Nat) (S M : Pool), CR g S M → wX2_add post' v0 v1 M → wX2_add post (v0.map g) (v1.map g) S := by
  intro v0 v1 S M h hw
  unfold wX2_add at hw ⊢
  refine cr_I h hw (fun a1 hw => ?_)
  refine ⟨fun c2 => ?_, fun c2 => ?_⟩
  · have hw := hw.1 c2
    refine cr_rc h hw (fun hw => ?_)
    refine rX2_familyOf (fun a3 S M h hw => ?_) _ _ _ _ h hw
    refine cr_pI h hw (fun S M h hw => ?_)
    refine cr_I h hw (fun a4 hw => ?_)
    refine cr_I h hw (fun a5 hw => ?_)
    refine ⟨fun c6 => ?_, fun c6 => ?_⟩
    · have hw := hw.1 c6
      exact rX2_add_41 hp _ _ _ _ h hw
    · have hw := hw.2 c6
      refine cr_I h hw (fun a7 hw => ?_)
      refine cr_pI h hw (fun S M h hw => ?_)
      exact rX2_add_41 hp _ _ _ _ h hw
  · have hw := hw.2 c2
    exact hp _ _ h hw
-- X2_knownAt
set_option maxRecDepth 100000 in
set_option maxHeartbeats 4000000 in
theorem rX2_knownAt_5 {g : Nat → Nat} {post post' : Int32 → Pool → Prop} (hp : ∀ v S M, CR g S M → post' v M → post v S) : ∀ (n : Nat) (v0 : Option Nat) (v1 : Int32) (v2 : Int32) (S M : Pool), CR g S M → wX2_knownAt_5 post' n v0 v1 v2 M → wX2_knownAt_5 post n (v0.map g) v1 v2 S := by
  intro n
  induction n with
  | zero => intro v0 v1 v2 S M h hw; exact False.elim hw
  | succ n ih =>
    intro v0 v1 v2 S M h hw
    unfold wX2_knownAt_5 at hw ⊢
    refine ⟨fun c1 => ?_, fun c1 => ?_⟩
    · have hw := hw.1 c1
      exact hp _ _ _ h hw
    · have hw := hw.2 c1
      refine cr_R h hw (fun a2 hw => ?_)
      refine cr_aR h hw (fun a3 hw => ?_)
      refine cr_I h hw (fun a4 hw => ?_)
      refine ⟨fun c5 => ?_, fun c5 => ?_⟩
      · have hw := hw.1 c5
        exact hp _ _ _ h hw
      · have hw := hw.2 c5
        exact ih _ _ _ _ _ h hw
set_option maxRecDepth 100000 in
set_option maxHeartbeats 4000000 in
theorem rX2_knownAt {g : Nat → Nat} {post post' : Int32 → Pool → Prop} (hp : ∀ v S M, CR g S M → post' v M → post v S) : ∀ (v0 : Option Nat) (v1 : Int32) (S M : Pool), CR g S M → wX2_knownAt post' v0 v1 M → wX2_knownAt post (v0.map g) v1 S := by
  intro v0 v1 S M h hw
  unfold wX2_knownAt at hw ⊢
  refine cr_I h hw (fun a1 hw => ?_)
  obtain ⟨n1, hw⟩ := hw
  exact ⟨n1, rX2_knownAt_5 hp n1 _ _ _ _ _ h hw⟩
-- X1_clear
set_option maxRecDepth 100000 in
set_option maxHeartbeats 4000000 in
theorem rX1_clear_71 {g : Nat → Nat} {post post' : Pool → Prop} (hp : ∀ S M, CR g S M → post' M → post S) : ∀ (n : Nat) (v0 : Option Nat) (v1 : Int32) (S M : Pool), CR g S M → wX1_clear_71 post' n v0 v1 M → wX1_clear_71 post n (v0.map g) v1 S := by
  intro n
  induction n with
  | zero => intro v0 v1 S M h hw; exact False.elim hw
  | succ n ih =>
    intro v0 v1 S M h hw
    unfold wX1_clear_71 at hw ⊢
    refine ⟨fun c1 => ?_, fun c1 => ?_⟩
    · have hw := hw.1 c1
      exact hp _ _ h hw
    · have hw := hw.2 c1
      refine cr_R h hw (fun a2 hw => ?_)
      refine cr_sR (v := none) h hw (fun S M h hw => ?_)
      exact ih _ _ _ _ h hw
set_option maxRecDepth 100000 in
set_option maxHeartbeats 4000000 in
theorem rX1_clear_50 {g : Nat → Nat} {post post' : Pool → Prop} (hp : ∀ S M, CR g S M → post' M → post S) : ∀ (n : Nat) (v0 : Option Nat) (v1 : Int32) (S M : Pool), CR g S M → wX1_clear_50 post' n v0 v1 M → wX1_clear_50 post n (v0.map g) v1 S := by
  intro n
  induction n with
  | zero => intro v0 v1 S M h hw; exact False.elim hw
  | succ n ih =>
    intro v0 v1 S M h hw
    unfold wX1_clear_50 at hw ⊢
    refine ⟨fun c1 => ?_, fun c1 => ?_⟩
    · have hw := hw.1 c1
      obtain ⟨n1, hw⟩ := hw
      exact ⟨n1, rX1_clear_71 hp n1 _ _ _ _ h hw⟩
    · have hw := hw.2 c1
      refine cr_R h hw (fun a2 hw => ?_)
      refine cr_sR (v := none) h hw (fun S M h hw => ?_)
      exact ih _ _ _ _ h hw
set_option maxRecDepth 100000 in
set_option maxHeartbeats 4000000 in
theorem rX1_clear_28 {g : Nat → Nat} {post post' : Pool → Prop} (hp : ∀ S M, CR g S M → post' M → post S) : ∀ (n : Nat) (v0 : Option Nat) (v1 : Int32) (S M : Pool), CR g S M → wX1_clear_28 post' n v0 v1 M → wX1_clear_28 post n (v0.map g) v1 S := by
  intro n
  induction n with
  | zero => intro v0 v1 S M h hw; exact False.elim hw
  | succ n ih =>
    intro v0 v1 S M h hw
    unfold wX1_clear_28 at hw ⊢
    refine ⟨fun c1 => ?_, fun c1 => ?_⟩
    · have hw := hw.1 c1
      obtain ⟨n1, hw⟩ := hw
      exact ⟨n1, rX1_clear_50 hp n1 _ _ _ _ h hw⟩
    · have hw := hw.2 c1
      refine cr_R h hw (fun a2 hw => ?_)
      refine cr_sI h hw (fun S M h hw => ?_)
      exact ih _ _ _ _ h hw
set_option maxRecDepth 100000 in
set_option maxHeartbeats 4000000 in
theorem rX1_clear {g : Nat → Nat} {post post' : Pool → Prop} (hp : ∀ S M, CR g S M → post' M → post S) : ∀ (v0 : Option Nat) (S M : Pool), CR g S M → wX1_clear post' v0 M → wX1_clear post (v0.map g) S := by
  intro v0 S M h hw
  unfold wX1_clear at hw ⊢
  refine cr_pI h hw (fun S M h hw => ?_)
  refine cr_pI h hw (fun S M h hw => ?_)
  refine cr_R h hw (fun a1 hw => ?_)
  refine rJ7_fill_53178 (fun S M h hw => ?_) _ _ _ _ h hw
  refine cr_R h hw (fun a2 hw => ?_)
  refine rJ7_fill_53178 (fun S M h hw => ?_) _ _ _ _ h hw
  obtain ⟨n1, hw⟩ := hw
  exact ⟨n1, rX1_clear_28 hp n1 _ _ _ _ h hw⟩
-- X1_add
set_option maxRecDepth 100000 in
set_option maxHeartbeats 4000000 in
theorem rX1_add {g : Nat → Nat} {post post' : Pool → Prop} (hp : ∀ S M, CR g S M → post' M → post S) : ∀ (v0 : Option Nat) (v1 : Option Nat) (v2 : Int32) (S M : Pool), CR g S M → wX1_add post' v0 v1 v2 M → wX1_add post (v0.map g) (v1.map g) v2 S := by
  intro v0 v1 v2 S M h hw
  unfold wX1_add at hw ⊢
  refine cr_I h hw (fun a1 hw => ?_)
  refine cr_pI h hw (fun S M h hw => ?_)
  refine ⟨fun c2 => ?_, fun c2 => ?_⟩
  · have hw := hw.1 c2
    refine cr_R h hw (fun a3 hw => ?_)
    refine cr_I h hw (fun a4 hw => ?_)
    refine cr_aI h hw (fun a5 hw => ?_)
    refine cr_sI h hw (fun S M h hw => ?_)
    exact hp _ _ h hw
  · have hw := hw.2 c2
    exact hp _ _ h hw
-- X1_rootOf
set_option maxRecDepth 100000 in
set_option maxHeartbeats 4000000 in
theorem rX1_rootOf_4 {g : Nat → Nat} {post post' : Int32 → Pool → Prop} (hp : ∀ v S M, CR g S M → post' v M → post v S) : ∀ (n : Nat) (v0 : Option Nat) (v2 : Int32) (v3 : Int32) (S M : Pool), CR g S M → wX1_rootOf_4 post' n v0 v2 v3 M → wX1_rootOf_4 post n (v0.map g) v2 v3 S := by
  intro n
  induction n with
  | zero => intro v0 v2 v3 S M h hw; exact False.elim hw
  | succ n ih =>
    intro v0 v2 v3 S M h hw
    unfold wX1_rootOf_4 at hw ⊢
    refine ⟨fun c1 => ?_, fun c1 => ?_⟩
    · have hw := hw.1 c1
      exact hp _ _ _ h hw
    · have hw := hw.2 c1
      refine cr_R h hw (fun a2 hw => ?_)
      refine cr_aI h hw (fun a3 hw => ?_)
      refine ⟨fun c4 => ?_, fun c4 => ?_⟩
      · have hw := hw.1 c4
        exact hp _ _ _ h hw
      · have hw := hw.2 c4
        refine cr_R h hw (fun a5 hw => ?_)
        refine cr_R h hw (fun a6 hw => ?_)
        refine cr_R h hw (fun a7 hw => ?_)
        refine cr_aI h hw (fun a8 hw => ?_)
        refine cr_aI h hw (fun a9 hw => ?_)
        refine cr_sI h hw (fun S M h hw => ?_)
        refine cr_R h hw (fun a10 hw => ?_)
        refine cr_aI h hw (fun a11 hw => ?_)
        exact ih _ _ _ _ _ h hw
set_option maxRecDepth 100000 in
set_option maxHeartbeats 4000000 in
theorem rX1_rootOf {g : Nat → Nat} {post post' : Int32 → Pool → Prop} (hp : ∀ v S M, CR g S M → post' v M → post v S) : ∀ (v0 : Option Nat) (v1 : Int32) (S M : Pool), CR g S M → wX1_rootOf post' v0 v1 M → wX1_rootOf post (v0.map g) v1 S := by
  intro v0 v1 S M h hw
  unfold wX1_rootOf at hw ⊢
  obtain ⟨n1, hw⟩ := hw
  exact ⟨n1, rX1_rootOf_4 hp n1 _ _ _ _ _ h hw⟩
-- X1_link
set_option maxRecDepth 100000 in
set_option maxHeartbeats 4000000 in
theorem rX1_link {g : Nat → Nat} {post post' : Pool → Prop} (hp : ∀ S M, CR g S M → post' M → post S) : ∀ (v0 : Option Nat) (v1 : Option Nat) (v2 : Option Nat) (v3 : Int32) (S M : Pool), CR g S M → wX1_link post' v0 v1 v2 v3 M → wX1_link post (v0.map g) (v1.map g) (v2.map g) v3 S := by
  intro v0 v1 v2 v3 S M h hw
  unfold wX1_link at hw ⊢
  refine ⟨fun c1 => ?_, fun c1 => ?_⟩
  · have hw := cr_n (B := True) hw.1 c1
    exact hp _ _ h hw
  · have hw := cr_nn hw.2 c1
    refine cr_I h hw (fun a2 hw => ?_)
    refine cr_I h hw (fun a3 hw => ?_)
    refine ⟨fun c4 => ?_, fun c4 => ?_⟩
    · have hw := hw.1 c4
      exact hp _ _ h hw
    · have hw := hw.2 c4
      refine cr_R h hw (fun a5 hw => ?_)
      refine cr_I h hw (fun a6 hw => ?_)
      refine cr_rc h hw (fun hw => ?_)
      refine rX1_rootOf (fun a7 S M h hw => ?_) _ _ _ _ h hw
      refine cr_I h hw (fun a8 hw => ?_)
      refine cr_rc h hw (fun hw => ?_)
      refine rX1_rootOf (fun a9 S M h hw => ?_) _ _ _ _ h hw
      refine cr_sI h hw (fun S M h hw => ?_)
      exact hp _ _ h hw
-- X1_join
set_option maxRecDepth 100000 in
set_option maxHeartbeats 4000000 in
theorem rX1_join_133 {g : Nat → Nat} {K93 K93' : Option Nat → Int32 → Pool → Prop} {post post' : Pool → Prop} (hp : ∀ S M, CR g S M → post' M → post S) (hK93 : ∀ (v0 : Option Nat) (v2 : Int32) (S M : Pool), CR g S M → K93' v0 v2 M → K93 (v0.map g) v2 S) : ∀ (v0 : Option Nat) (v2 : Int32) (S M : Pool), CR g S M → wX1_join_133 K93' post' v0 v2 M → wX1_join_133 K93 post (v0.map g) v2 S := by
  intro v0 v2 S M h hw
  unfold wX1_join_133 at hw ⊢
  refine cr_R h hw (fun a1 hw => ?_)
  refine cr_rc h hw (fun hw => ?_)
  refine rX1_rootOf (fun a2 S M h hw => ?_) _ _ _ _ h hw
  refine cr_aI h hw (fun a3 hw => ?_)
  refine cr_R h hw (fun a4 hw => ?_)
  refine cr_aI h hw (fun a5 hw => ?_)
  refine cr_sI h hw (fun S M h hw => ?_)
  exact hK93 _ _ _ _ h hw
set_option maxRecDepth 100000 in
set_option maxHeartbeats 4000000 in
theorem rX1_join_93 {g : Nat → Nat} {post post' : Pool → Prop} (hp : ∀ S M, CR g S M → post' M → post S) : ∀ (n : Nat) (v0 : Option Nat) (v2 : Int32) (S M : Pool), CR g S M → wX1_join_93 post' n v0 v2 M → wX1_join_93 post n (v0.map g) v2 S := by
  intro n
  induction n with
  | zero => intro v0 v2 S M h hw; exact False.elim hw
  | succ n ih =>
    intro v0 v2 S M h hw
    unfold wX1_join_93 at hw ⊢
    refine cr_R h hw (fun a1 hw => ?_)
    refine cr_I h hw (fun a2 hw => ?_)
    refine ⟨fun c3 => ?_, fun c3 => ?_⟩
    · have hw := hw.1 c3
      exact hp _ _ h hw
    · have hw := hw.2 c3
      refine cr_R h hw (fun a4 hw => ?_)
      refine cr_aI h hw (fun a5 hw => ?_)
      refine ⟨fun c6 => ?_, fun c6 => ?_⟩
      · have hw := hw.1 c6
        exact rX1_join_133 hp ih _ _ _ _ h hw
      · have hw := hw.2 c6
        refine cr_R h hw (fun a7 hw => ?_)
        refine cr_aI h hw (fun a8 hw => ?_)
        refine ⟨fun c9 => ?_, fun c9 => ?_⟩
        · have hw := hw.1 c9
          refine cr_I h hw (fun a10 hw => ?_)
          refine cr_pI h hw (fun S M h hw => ?_)
          exact rX1_join_133 hp ih _ _ _ _ h hw
        · have hw := hw.2 c9
          exact rX1_join_133 hp ih _ _ _ _ h hw
set_option maxRecDepth 100000 in
set_option maxHeartbeats 4000000 in
theorem rX1_join_85 {g : Nat → Nat} {K2 K2' : Option Nat → Int32 → Int32 → Pool → Prop} {post post' : Pool → Prop} (hp : ∀ S M, CR g S M → post' M → post S) (hK2 : ∀ (v0 : Option Nat) (v1 : Int32) (v2 : Int32) (S M : Pool), CR g S M → K2' v0 v1 v2 M → K2 (v0.map g) v1 v2 S) : ∀ (v0 : Option Nat) (v1 : Int32) (v2 : Int32) (S M : Pool), CR g S M → wX1_join_85 K2' post' v0 v1 v2 M → wX1_join_85 K2 post (v0.map g) v1 v2 S := by
  intro v0 v1 v2 S M h hw
  unfold wX1_join_85 at hw ⊢
  exact hK2 _ _ _ _ _ h hw
set_option maxRecDepth 100000 in
set_option maxHeartbeats 4000000 in
theorem rX1_join_2 {g : Nat → Nat} {post post' : Pool → Prop} (hp : ∀ S M, CR g S M → post' M → post S) : ∀ (n : Nat) (v0 : Option Nat) (v1 : Int32) (v2 : Int32) (S M : Pool), CR g S M → wX1_join_2 post' n v0 v1 v2 M → wX1_join_2 post n (v0.map g) v1 v2 S := by
  intro n
  induction n with
  | zero => intro v0 v1 v2 S M h hw; exact False.elim hw
  | succ n ih =>
    intro v0 v1 v2 S M h hw
    unfold wX1_join_2 at hw ⊢
    refine cr_R h hw (fun a1 hw => ?_)
    refine cr_I h hw (fun a2 hw => ?_)
    refine ⟨fun c3 => ?_, fun c3 => ?_⟩
    · have hw := hw.1 c3
      obtain ⟨n1, hw⟩ := hw
      exact ⟨n1, rX1_join_93 hp n1 _ _ _ _ h hw⟩
    · have hw := hw.2 c3
      refine cr_R h hw (fun a4 hw => ?_)
      refine cr_R h hw (fun a5 hw => ?_)
      refine cr_aR h hw (fun a6 hw => ?_)
      refine cr_R h hw (fun a7 hw => ?_)
      refine cr_I h hw (fun a8 hw => ?_)
      refine cr_aI h hw (fun a9 hw => ?_)
      refine ⟨fun c10 => ?_, fun c10 => ?_⟩
      · have hw := hw.1 c10
        exact rX1_join_85 hp ih _ _ _ _ _ h hw
      · have hw := hw.2 c10
        refine cr_R h hw (fun a11 hw => ?_)
        refine cr_I h hw (fun a12 hw => ?_)
        refine cr_aR h hw (fun a13 hw => ?_)
        refine cr_rc h hw (fun hw => ?_)
        refine rX1_link (fun S M h hw => ?_) _ _ _ _ _ _ h hw
        refine cr_R h hw (fun a14 hw => ?_)
        refine cr_I h hw (fun a15 hw => ?_)
        refine cr_aR h hw (fun a16 hw => ?_)
        refine cr_rc h hw (fun hw => ?_)
        refine rX1_link (fun S M h hw => ?_) _ _ _ _ _ _ h hw
        refine cr_R h hw (fun a17 hw => ?_)
        refine cr_I h hw (fun a18 hw => ?_)
        refine cr_sR h hw (fun S M h hw => ?_)
        refine cr_R h hw (fun a19 hw => ?_)
        refine cr_I h hw (fun a20 hw => ?_)
        refine cr_sR h hw (fun S M h hw => ?_)
        exact rX1_join_85 hp ih _ _ _ _ _ h hw
set_option maxRecDepth 100000 in
set_option maxHeartbeats 4000000 in
theorem rX1_join {g : Nat → Nat} {post post' : Pool → Prop} (hp : ∀ S M, CR g S M → post' M → post S) : ∀ (v0 : Option Nat) (v1 : Int32) (S M : Pool), CR g S M → wX1_join post' v0 v1 M → wX1_join post (v0.map g) v1 S := by
  intro v0 v1 S M h hw
  unfold wX1_join at hw ⊢
  obtain ⟨n1, hw⟩ := hw
  exact ⟨n1, rX1_join_2 hp n1 _ _ _ _ _ h hw⟩
-- X1_findsBeside
set_option maxRecDepth 100000 in
set_option maxHeartbeats 4000000 in
theorem rX1_findsBeside {g : Nat → Nat} {post post' : Int32 → Pool → Prop} (hp : ∀ v S M, CR g S M → post' v M → post v S) : ∀ (v0 : Option Nat) (v1 : Option Nat) (S M : Pool), CR g S M → wX1_findsBeside post' v0 v1 M → wX1_findsBeside post (v0.map g) (v1.map g) S := by
  intro v0 v1 S M h hw
  unfold wX1_findsBeside at hw ⊢
  refine cr_R h hw (fun a1 hw => ?_)
  refine cr_I h hw (fun a2 hw => ?_)
  refine cr_rc h hw (fun hw => ?_)
  refine rX1_rootOf (fun a3 S M h hw => ?_) _ _ _ _ h hw
  refine cr_aI h hw (fun a4 hw => ?_)
  exact hp _ _ _ h hw
-- X6_clear
set_option maxRecDepth 100000 in
set_option maxHeartbeats 4000000 in
theorem rX6_clear_78 {g : Nat → Nat} {post post' : Pool → Prop} (hp : ∀ S M, CR g S M → post' M → post S) : ∀ (n : Nat) (v0 : Option Nat) (v1 : Int32) (S M : Pool), CR g S M → wX6_clear_78 post' n v0 v1 M → wX6_clear_78 post n (v0.map g) v1 S := by
  intro n
  induction n with
  | zero => intro v0 v1 S M h hw; exact False.elim hw
  | succ n ih =>
    intro v0 v1 S M h hw
    unfold wX6_clear_78 at hw ⊢
    refine ⟨fun c1 => ?_, fun c1 => ?_⟩
    · have hw := hw.1 c1
      exact hp _ _ h hw
    · have hw := hw.2 c1
      refine cr_R h hw (fun a2 hw => ?_)
      refine cr_I h hw (fun a3 hw => ?_)
      refine ⟨fun c4 => ?_, fun c4 => ?_⟩
      · have hw := hw.1 c4
        exact hp _ _ h hw
      · have hw := hw.2 c4
        refine cr_R h hw (fun a5 hw => ?_)
        refine cr_aR h hw (fun a6 hw => ?_)
        refine rJ7_fill_53178 (fun S M h hw => ?_) _ _ _ _ h hw
        exact ih _ _ _ _ h hw
set_option maxRecDepth 100000 in
set_option maxHeartbeats 4000000 in
theorem rX6_clear_23 {g : Nat → Nat} {post post' : Pool → Prop} (hp : ∀ S M, CR g S M → post' M → post S) : ∀ (n : Nat) (v0 : Option Nat) (v1 : Int32) (S M : Pool), CR g S M → wX6_clear_23 post' n v0 v1 M → wX6_clear_23 post n (v0.map g) v1 S := by
  intro n
  induction n with
  | zero => intro v0 v1 S M h hw; exact False.elim hw
  | succ n ih =>
    intro v0 v1 S M h hw
    unfold wX6_clear_23 at hw ⊢
    refine ⟨fun c1 => ?_, fun c1 => ?_⟩
    · have hw := hw.1 c1
      obtain ⟨n1, hw⟩ := hw
      exact ⟨n1, rX6_clear_78 hp n1 _ _ _ _ h hw⟩
    · have hw := hw.2 c1
      refine cr_R h hw (fun a2 hw => ?_)
      refine cr_aR h hw (fun a3 hw => ?_)
      refine rJ7_fill_53178 (fun S M h hw => ?_) _ _ _ _ h hw
      refine cr_R h hw (fun a4 hw => ?_)
      refine cr_aR h hw (fun a5 hw => ?_)
      refine rJ7_fill_53178 (fun S M h hw => ?_) _ _ _ _ h hw
      refine cr_R h hw (fun a6 hw => ?_)
      refine cr_aR h hw (fun a7 hw => ?_)
      refine rJ7_fill_53178 (fun S M h hw => ?_) _ _ _ _ h hw
      refine cr_R h hw (fun a8 hw => ?_)
      refine cr_aR h hw (fun a9 hw => ?_)
      refine rJ7_fill_53178 (fun S M h hw => ?_) _ _ _ _ h hw
      exact ih _ _ _ _ h hw
set_option maxRecDepth 100000 in
set_option maxHeartbeats 4000000 in
theorem rX6_clear {g : Nat → Nat} {post post' : Pool → Prop} (hp : ∀ S M, CR g S M → post' M → post S) : ∀ (v0 : Option Nat) (S M : Pool), CR g S M → wX6_clear post' v0 M → wX6_clear post (v0.map g) S := by
  intro v0 S M h hw
  unfold wX6_clear at hw ⊢
  refine cr_pI h hw (fun S M h hw => ?_)
  refine cr_R h hw (fun a1 hw => ?_)
  refine rJ7_fill_53178 (fun S M h hw => ?_) _ _ _ _ h hw
  refine cr_R h hw (fun a2 hw => ?_)
  refine rJ7_fill_53178 (fun S M h hw => ?_) _ _ _ _ h hw
  obtain ⟨n1, hw⟩ := hw
  exact ⟨n1, rX6_clear_23 hp n1 _ _ _ _ h hw⟩
-- X6_actAhead
set_option maxRecDepth 100000 in
set_option maxHeartbeats 4000000 in
theorem rX6_actAhead_64 {g : Nat → Nat} {post post' : Int32 → Pool → Prop} (hp : ∀ v S M, CR g S M → post' v M → post v S) : ∀ (v0 : Option Nat) (v1 : Option Nat) (v3 : Int32) (z0 : Int32) (S M : Pool), CR g S M → wX6_actAhead_64 post' v0 v1 v3 z0 M → wX6_actAhead_64 post (v0.map g) (v1.map g) v3 z0 S := by
  intro v0 v1 v3 z0 S M h hw
  unfold wX6_actAhead_64 at hw ⊢
  refine ⟨fun c1 => ?_, fun c1 => ?_⟩
  · have hw := hw.1 c1
    refine cr_R h hw (fun a2 hw => ?_)
    refine cr_I h hw (fun a3 hw => ?_)
    refine cr_aR h hw (fun a4 hw => ?_)
    refine cr_aI h hw (fun a5 hw => ?_)
    exact hp _ _ _ h hw
  · have hw := hw.2 c1
    exact hp _ _ _ h hw
set_option maxRecDepth 100000 in
set_option maxHeartbeats 4000000 in
theorem rX6_actAhead_63 {g : Nat → Nat} {post post' : Int32 → Pool → Prop} (hp : ∀ v S M, CR g S M → post' v M → post v S) : ∀ (v0 : Option Nat) (v1 : Option Nat) (v3 : Int32) (S M : Pool), CR g S M → wX6_actAhead_63 post' v0 v1 v3 M → wX6_actAhead_63 post (v0.map g) (v1.map g) v3 S := by
  intro v0 v1 v3 S M h hw
  unfold wX6_actAhead_63 at hw ⊢
  exact rX6_actAhead_64 hp _ _ _ _ _ _ h hw
set_option maxRecDepth 100000 in
set_option maxHeartbeats 4000000 in
theorem rX6_actAhead_37 {g : Nat → Nat} {post post' : Int32 → Pool → Prop} (hp : ∀ v S M, CR g S M → post' v M → post v S) : ∀ (S M : Pool), CR g S M → wX6_actAhead_37 post' M → wX6_actAhead_37 post S := by
  intro S M h hw
  unfold wX6_actAhead_37 at hw ⊢
  exact hp _ _ _ h hw
set_option maxRecDepth 100000 in
set_option maxHeartbeats 4000000 in
theorem rX6_actAhead {g : Nat → Nat} {post post' : Int32 → Pool → Prop} (hp : ∀ v S M, CR g S M → post' v M → post v S) : ∀ (v0 : Option Nat) (v1 : Option Nat) (v2 : Int32) (v3 : Int32) (S M : Pool), CR g S M → wX6_actAhead post' v0 v1 v2 v3 M → wX6_actAhead post (v0.map g) (v1.map g) v2 v3 S := by
  intro v0 v1 v2 v3 S M h hw
  unfold wX6_actAhead at hw ⊢
  refine cr_R h hw (fun a1 hw => ?_)
  refine cr_I h hw (fun a2 hw => ?_)
  refine cr_aR h hw (fun a3 hw => ?_)
  refine cr_aI h hw (fun a4 hw => ?_)
  refine ⟨fun c5 => ?_, fun c5 => ?_⟩
  · have hw := hw.1 c5
    exact rX6_actAhead_37 hp _ _ h hw
  · have hw := hw.2 c5
    refine cr_R h hw (fun a6 hw => ?_)
    refine cr_I h hw (fun a7 hw => ?_)
    refine cr_aR h hw (fun a8 hw => ?_)
    refine cr_aI h hw (fun a9 hw => ?_)
    refine ⟨fun c10 => ?_, fun c10 => ?_⟩
    · have hw := hw.1 c10
      refine cr_I h hw (fun a11 hw => ?_)
      refine ⟨fun c12 => ?_, fun c12 => ?_⟩
      · have hw := hw.1 c12
        exact rX6_actAhead_63 hp _ _ _ _ _ h hw
      · have hw := hw.2 c12
        refine cr_I h hw (fun a13 hw => ?_)
        refine ⟨fun c14 => ?_, fun c14 => ?_⟩
        · have hw := hw.1 c14
          exact rX6_actAhead_63 hp _ _ _ _ _ h hw
        · have hw := hw.2 c14
          exact rX6_actAhead_64 hp _ _ _ _ _ _ h hw
    · have hw := hw.2 c10
      exact rX6_actAhead_37 hp _ _ h hw
-- X6_reachAt
set_option maxRecDepth 100000 in
set_option maxHeartbeats 4000000 in
theorem rX6_reachAt_108 {g : Nat → Nat} {post post' : Int32 → Pool → Prop} (hp : ∀ v S M, CR g S M → post' v M → post v S) : ∀ (v0 : Option Nat) (v1 : Option Nat) (v2 : Option Nat) (v3 : Int32) (S M : Pool), CR g S M → wX6_reachAt_108 post' v0 v1 v2 v3 M → wX6_reachAt_108 post (v0.map g) (v1.map g) (v2.map g) v3 S := by
  intro v0 v1 v2 v3 S M h hw
  unfold wX6_reachAt_108 at hw ⊢
  refine cr_I h hw (fun a1 hw => ?_)
  refine ⟨fun c2 => ?_, fun c2 => ?_⟩
  · have hw := hw.1 c2
    exact hp _ _ _ h hw
  · have hw := hw.2 c2
    refine cr_I h hw (fun a3 hw => ?_)
    refine cr_rc h hw (fun hw => ?_)
    refine rX6_actAhead (fun a4 S M h hw => ?_) _ _ _ _ _ _ h hw
    exact hp _ _ _ h hw
set_option maxRecDepth 100000 in
set_option maxHeartbeats 4000000 in
theorem rX6_reachAt_34 {g : Nat → Nat} {post post' : Int32 → Pool → Prop} (hp : ∀ v S M, CR g S M → post' v M → post v S) : ∀ (v0 : Option Nat) (v1 : Option Nat) (v2 : Option Nat) (S M : Pool), CR g S M → wX6_reachAt_34 post' v0 v1 v2 M → wX6_reachAt_34 post (v0.map g) (v1.map g) (v2.map g) S := by
  intro v0 v1 v2 S M h hw
  unfold wX6_reachAt_34 at hw ⊢
  refine cr_R h hw (fun a1 hw => ?_)
  refine cr_I h hw (fun a2 hw => ?_)
  refine cr_aI h hw (fun a3 hw => ?_)
  refine cr_sI h hw (fun S M h hw => ?_)
  refine cr_R h hw (fun a4 hw => ?_)
  refine cr_I h hw (fun a5 hw => ?_)
  refine cr_rc h hw (fun hw => ?_)
  refine rX0_valueIn (fun a6 S M h hw => ?_) _ _ _ _ h hw
  refine cr_I h hw (fun a7 hw => ?_)
  refine cr_R h hw (fun a8 hw => ?_)
  refine cr_I h hw (fun a9 hw => ?_)
  refine ⟨fun c10 => ?_, fun c10 => ?_⟩
  · have hw := hw.1 c10
    refine cr_R h hw (fun a11 hw => ?_)
    refine cr_I h hw (fun a12 hw => ?_)
    refine ⟨fun c13 => ?_, fun c13 => ?_⟩
    · have hw := hw.1 c13
      exact rX6_reachAt_108 hp _ _ _ _ _ _ h hw
    · have hw := hw.2 c13
      refine cr_R h hw (fun a14 hw => ?_)
      refine cr_aR h hw (fun a15 hw => ?_)
      refine cr_R h hw (fun a16 hw => ?_)
      refine cr_I h hw (fun a17 hw => ?_)
      refine cr_rc h hw (fun hw => ?_)
      refine rX0_valueIn (fun a18 S M h hw => ?_) _ _ _ _ h hw
      refine cr_I h hw (fun a19 hw => ?_)
      refine cr_sI h hw (fun S M h hw => ?_)
      exact rX6_reachAt_108 hp _ _ _ _ _ _ h hw
  · have hw := hw.2 c10
    exact rX6_reachAt_108 hp _ _ _ _ _ _ h hw
set_option maxRecDepth 100000 in
set_option maxHeartbeats 4000000 in
theorem rX6_reachAt_31 {g : Nat → Nat} {post post' : Int32 → Pool → Prop} (hp : ∀ v S M, CR g S M → post' v M → post v S) : ∀ (S M : Pool), CR g S M → wX6_reachAt_31 post' M → wX6_reachAt_31 post S := by
  intro S M h hw
  unfold wX6_reachAt_31 at hw ⊢
  exact hp _ _ _ h hw
set_option maxRecDepth 100000 in
set_option maxHeartbeats 4000000 in
theorem rX6_reachAt {g : Nat → Nat} {post post' : Int32 → Pool → Prop} (hp : ∀ v S M, CR g S M → post' v M → post v S) : ∀ (v0 : Option Nat) (v1 : Option Nat) (v2 : Option Nat) (S M : Pool), CR g S M → wX6_reachAt post' v0 v1 v2 M → wX6_reachAt post (v0.map g) (v1.map g) (v2.map g) S := by
  intro v0 v1 v2 S M h hw
  unfold wX6_reachAt at hw ⊢
  refine cr_rc h hw (fun hw => ?_)
  refine rX5_admits (fun a1 S M h hw => ?_) _ _ _ _ h hw
  refine ⟨fun c2 => ?_, fun c2 => ?_⟩
  · have hw := hw.1 c2
    exact rX6_reachAt_31 hp _ _ h hw
  · have hw := hw.2 c2
    refine cr_I h hw (fun a3 hw => ?_)
    refine ⟨fun c4 => ?_, fun c4 => ?_⟩
    · have hw := hw.1 c4
      exact rX6_reachAt_34 hp _ _ _ _ _ h hw
    · have hw := hw.2 c4
      refine cr_R h hw (fun a5 hw => ?_)
      refine cr_I h hw (fun a6 hw => ?_)
      refine cr_aI h hw (fun a7 hw => ?_)
      refine cr_I h hw (fun a8 hw => ?_)
      refine ⟨fun c9 => ?_, fun c9 => ?_⟩
      · have hw := hw.1 c9
        exact rX6_reachAt_34 hp _ _ _ _ _ h hw
      · have hw := hw.2 c9
        exact rX6_reachAt_31 hp _ _ h hw
-- X6_reach
set_option maxRecDepth 100000 in
set_option maxHeartbeats 4000000 in
theorem rX6_reach_76 {g : Nat → Nat} {K28 K28' : Option Nat → Option Nat → Int32 → Pool → Prop} {post post' : Pool → Prop} (hp : ∀ S M, CR g S M → post' M → post S) (hK28 : ∀ (v0 : Option Nat) (v1 : Option Nat) (v2 : Int32) (S M : Pool), CR g S M → K28' v0 v1 v2 M → K28 (v0.map g) (v1.map g) v2 S) : ∀ (v0 : Option Nat) (v1 : Option Nat) (v2 : Int32) (S M : Pool), CR g S M → wX6_reach_76 K28' post' v0 v1 v2 M → wX6_reach_76 K28 post (v0.map g) (v1.map g) v2 S := by
  intro v0 v1 v2 S M h hw
  unfold wX6_reach_76 at hw ⊢
  exact hK28 _ _ _ _ _ h hw
set_option maxRecDepth 100000 in
set_option maxHeartbeats 4000000 in
theorem rX6_reach_28 {g : Nat → Nat} {post post' : Pool → Prop} (hp : ∀ S M, CR g S M → post' M → post S) : ∀ (n : Nat) (v0 : Option Nat) (v1 : Option Nat) (v2 : Int32) (S M : Pool), CR g S M → wX6_reach_28 post' n v0 v1 v2 M → wX6_reach_28 post n (v0.map g) (v1.map g) v2 S := by
  intro n
  induction n with
  | zero => intro v0 v1 v2 S M h hw; exact False.elim hw
  | succ n ih =>
    intro v0 v1 v2 S M h hw
    unfold wX6_reach_28 at hw ⊢
    refine cr_R h hw (fun a1 hw => ?_)
    refine cr_I h hw (fun a2 hw => ?_)
    refine ⟨fun c3 => ?_, fun c3 => ?_⟩
    · have hw := hw.1 c3
      exact hp _ _ h hw
    · have hw := hw.2 c3
      refine cr_R h hw (fun a4 hw => ?_)
      refine cr_R h hw (fun a5 hw => ?_)
      refine cr_aR h hw (fun a6 hw => ?_)
      refine cr_I h hw (fun a7 hw => ?_)
      refine ⟨fun c8 => ?_, fun c8 => ?_⟩
      · have hw := hw.1 c8
        refine cr_R h hw (fun a9 hw => ?_)
        refine cr_I h hw (fun a10 hw => ?_)
        refine cr_aR h hw (fun a11 hw => ?_)
        refine cr_I h hw (fun a12 hw => ?_)
        refine cr_rc h hw (fun hw => ?_)
        refine rX6_reachAt (fun a13 S M h hw => ?_) _ _ _ _ _ h hw
        refine cr_sI h hw (fun S M h hw => ?_)
        exact rX6_reach_76 hp ih _ _ _ _ _ h hw
      · have hw := hw.2 c8
        exact rX6_reach_76 hp ih _ _ _ _ _ h hw
set_option maxRecDepth 100000 in
set_option maxHeartbeats 4000000 in
theorem rX6_reach_26 {g : Nat → Nat} {post post' : Pool → Prop} (hp : ∀ S M, CR g S M → post' M → post S) : ∀ (v0 : Option Nat) (v1 : Option Nat) (S M : Pool), CR g S M → wX6_reach_26 post' v0 v1 M → wX6_reach_26 post (v0.map g) (v1.map g) S := by
  intro v0 v1 S M h hw
  unfold wX6_reach_26 at hw ⊢
  obtain ⟨n1, hw⟩ := hw
  exact ⟨n1, rX6_reach_28 hp n1 _ _ _ _ _ h hw⟩
set_option maxRecDepth 100000 in
set_option maxHeartbeats 4000000 in
theorem rX6_reach {g : Nat → Nat} {post post' : Pool → Prop} (hp : ∀ S M, CR g S M → post' M → post S) : ∀ (v0 : Option Nat) (v1 : Option Nat) (S M : Pool), CR g S M → wX6_reach post' v0 v1 M → wX6_reach post (v0.map g) (v1.map g) S := by
  intro v0 v1 S M h hw
  unfold wX6_reach at hw ⊢
  refine cr_R h hw (fun a1 hw => ?_)
  refine cr_I h hw (fun a2 hw => ?_)
  refine cr_aI h hw (fun a3 hw => ?_)
  refine ⟨fun c4 => ?_, fun c4 => ?_⟩
  · have hw := hw.1 c4
    refine cr_R h hw (fun a5 hw => ?_)
    refine cr_I h hw (fun a6 hw => ?_)
    refine cr_I h hw (fun a7 hw => ?_)
    refine cr_sI h hw (fun S M h hw => ?_)
    exact rX6_reach_26 hp _ _ _ _ h hw
  · have hw := hw.2 c4
    exact rX6_reach_26 hp _ _ _ _ h hw
-- X6_settleSteps
set_option maxRecDepth 100000 in
set_option maxHeartbeats 4000000 in
theorem rX6_settleSteps_124 {g : Nat → Nat} {K14 K14' : Option Nat → Option Nat → Int32 → Int32 → Pool → Prop} {post post' : Pool → Prop} (hp : ∀ S M, CR g S M → post' M → post S) (hK14 : ∀ (v0 : Option Nat) (v1 : Option Nat) (v2 : Int32) (v3 : Int32) (S M : Pool), CR g S M → K14' v0 v1 v2 v3 M → K14 (v0.map g) (v1.map g) v2 v3 S) : ∀ (v0 : Option Nat) (v1 : Option Nat) (v2 : Int32) (v3 : Int32) (S M : Pool), CR g S M → wX6_settleSteps_124 K14' post' v0 v1 v2 v3 M → wX6_settleSteps_124 K14 post (v0.map g) (v1.map g) v2 v3 S := by
  intro v0 v1 v2 v3 S M h hw
  unfold wX6_settleSteps_124 at hw ⊢
  exact hK14 _ _ _ _ _ _ h hw
set_option maxRecDepth 100000 in
set_option maxHeartbeats 4000000 in
theorem rX6_settleSteps_14 {g : Nat → Nat} {post post' : Pool → Prop} (hp : ∀ S M, CR g S M → post' M → post S) : ∀ (n : Nat) (v0 : Option Nat) (v1 : Option Nat) (v2 : Int32) (v3 : Int32) (S M : Pool), CR g S M → wX6_settleSteps_14 post' n v0 v1 v2 v3 M → wX6_settleSteps_14 post n (v0.map g) (v1.map g) v2 v3 S := by
  intro n
  induction n with
  | zero => intro v0 v1 v2 v3 S M h hw; exact False.elim hw
  | succ n ih =>
    intro v0 v1 v2 v3 S M h hw
    unfold wX6_settleSteps_14 at hw ⊢
    refine cr_R h hw (fun a1 hw => ?_)
    refine cr_I h hw (fun a2 hw => ?_)
    refine ⟨fun c3 => ?_, fun c3 => ?_⟩
    · have hw := hw.1 c3
      exact hp _ _ h hw
    · have hw := hw.2 c3
      refine cr_R h hw (fun a4 hw => ?_)
      refine cr_R h hw (fun a5 hw => ?_)
      refine cr_aR h hw (fun a6 hw => ?_)
      refine cr_I h hw (fun a7 hw => ?_)
      refine ⟨fun c8 => ?_, fun c8 => ?_⟩
      · have hw := hw.1 c8
        refine cr_R h hw (fun a9 hw => ?_)
        refine cr_I h hw (fun a10 hw => ?_)
        refine cr_aR h hw (fun a11 hw => ?_)
        refine cr_I h hw (fun a12 hw => ?_)
        refine cr_aI h hw (fun a13 hw => ?_)
        refine ⟨fun c14 => ?_, fun c14 => ?_⟩
        · have hw := hw.1 c14
          exact rX6_settleSteps_124 hp ih _ _ _ _ _ _ h hw
        · have hw := hw.2 c14
          refine cr_R h hw (fun a15 hw => ?_)
          refine cr_I h hw (fun a16 hw => ?_)
          refine cr_aR h hw (fun a17 hw => ?_)
          refine cr_I h hw (fun a18 hw => ?_)
          refine cr_sI h hw (fun S M h hw => ?_)
          refine cr_R h hw (fun a19 hw => ?_)
          refine cr_I h hw (fun a20 hw => ?_)
          refine cr_aR h hw (fun a21 hw => ?_)
          refine cr_I h hw (fun a22 hw => ?_)
          refine cr_sI h hw (fun S M h hw => ?_)
          exact rX6_settleSteps_124 hp ih _ _ _ _ _ _ h hw
      · have hw := hw.2 c8
        refine cr_rc h hw (fun hw => ?_)
        refine rX5_admits (fun a23 S M h hw => ?_) _ _ _ _ h hw
        refine ⟨fun c24 => ?_, fun c24 => ?_⟩
        · have hw := hw.1 c24
          exact rX6_settleSteps_124 hp ih _ _ _ _ _ _ h hw
        · have hw := hw.2 c24
          refine cr_R h hw (fun a25 hw => ?_)
          refine cr_I h hw (fun a26 hw => ?_)
          refine cr_aR h hw (fun a27 hw => ?_)
          refine cr_I h hw (fun a28 hw => ?_)
          refine cr_sI h hw (fun S M h hw => ?_)
          exact rX6_settleSteps_124 hp ih _ _ _ _ _ _ h hw
set_option maxRecDepth 100000 in
set_option maxHeartbeats 4000000 in
theorem rX6_settleSteps {g : Nat → Nat} {post post' : Pool → Prop} (hp : ∀ S M, CR g S M → post' M → post S) : ∀ (v0 : Option Nat) (v1 : Option Nat) (S M : Pool), CR g S M → wX6_settleSteps post' v0 v1 M → wX6_settleSteps post (v0.map g) (v1.map g) S := by
  intro v0 v1 S M h hw
  unfold wX6_settleSteps at hw ⊢
  refine cr_R h hw (fun a1 hw => ?_)
  refine cr_I h hw (fun a2 hw => ?_)
  refine cr_rc h hw (fun hw => ?_)
  refine rX0_valueIn (fun a3 S M h hw => ?_) _ _ _ _ h hw
  obtain ⟨n1, hw⟩ := hw
  exact ⟨n1, rX6_settleSteps_14 hp n1 _ _ _ _ _ _ h hw⟩
-- X6_isSpread
set_option maxRecDepth 100000 in
set_option maxHeartbeats 4000000 in
theorem rX6_isSpread_49 {g : Nat → Nat} {K18 K18' : Option Nat → Int32 → Int32 → Int32 → Int32 → Pool → Prop} {post post' : Int32 → Pool → Prop} (hp : ∀ v S M, CR g S M → post' v M → post v S) (hK18 : ∀ (v0 : Option Nat) (v1 : Int32) (v2 : Int32) (v3 : Int32) (v4 : Int32) (S M : Pool), CR g S M → K18' v0 v1 v2 v3 v4 M → K18 (v0.map g) v1 v2 v3 v4 S) : ∀ (v0 : Option Nat) (v1 : Int32) (v2 : Int32) (v3 : Int32) (v4 : Int32) (S M : Pool), CR g S M → wX6_isSpread_49 K18' post' v0 v1 v2 v3 v4 M → wX6_isSpread_49 K18 post (v0.map g) v1 v2 v3 v4 S := by
  intro v0 v1 v2 v3 v4 S M h hw
  unfold wX6_isSpread_49 at hw ⊢
  exact hK18 _ _ _ _ _ _ _ h hw
set_option maxRecDepth 100000 in
set_option maxHeartbeats 4000000 in
theorem rX6_isSpread_18 {g : Nat → Nat} {post post' : Int32 → Pool → Prop} (hp : ∀ v S M, CR g S M → post' v M → post v S) : ∀ (n : Nat) (v0 : Option Nat) (v1 : Int32) (v2 : Int32) (v3 : Int32) (v4 : Int32) (S M : Pool), CR g S M → wX6_isSpread_18 post' n v0 v1 v2 v3 v4 M → wX6_isSpread_18 post n (v0.map g) v1 v2 v3 v4 S := by
  intro n
  induction n with
  | zero => intro v0 v1 v2 v3 v4 S M h hw; exact False.elim hw
  | succ n ih =>
    intro v0 v1 v2 v3 v4 S M h hw
    unfold wX6_isSpread_18 at hw ⊢
    refine ⟨fun c1 => ?_, fun c1 => ?_⟩
    · have hw := hw.1 c1
      refine cr_R h hw (fun a2 hw => ?_)
      refine cr_I h hw (fun a3 hw => ?_)
      refine ⟨fun c4 => ?_, fun c4 => ?_⟩
      · have hw := hw.1 c4
        exact ⟨hw.1, hp _ _ _ h hw.2⟩
      · have hw := hw.2 c4
        exact ⟨hw.1, hp _ _ _ h hw.2⟩
    · have hw := hw.2 c1
      refine cr_R h hw (fun a5 hw => ?_)
      refine cr_aR h hw (fun a6 hw => ?_)
      refine cr_aI h hw (fun a7 hw => ?_)
      refine cr_R h hw (fun a8 hw => ?_)
      refine cr_I h hw (fun a9 hw => ?_)
      refine ⟨fun c10 => ?_, fun c10 => ?_⟩
      · have hw := hw.1 c10
        exact rX6_isSpread_49 hp ih _ _ _ _ _ _ _ h hw
      · have hw := hw.2 c10
        exact rX6_isSpread_49 hp ih _ _ _ _ _ _ _ h hw
set_option maxRecDepth 100000 in
set_option maxHeartbeats 4000000 in
theorem rX6_isSpread {g : Nat → Nat} {post post' : Int32 → Pool → Prop} (hp : ∀ v S M, CR g S M → post' v M → post v S) : ∀ (v0 : Option Nat) (v1 : Int32) (v2 : Int32) (S M : Pool), CR g S M → wX6_isSpread post' v0 v1 v2 M → wX6_isSpread post (v0.map g) v1 v2 S := by
  intro v0 v1 v2 S M h hw
  unfold wX6_isSpread at hw ⊢
  refine cr_R h hw (fun a1 hw => ?_)
  refine cr_I h hw (fun a2 hw => ?_)
  refine ⟨fun c3 => ?_, fun c3 => ?_⟩
  · have hw := hw.1 c3
    exact ⟨hw.1, hp _ _ _ h hw.2⟩
  · have hw := hw.2 c3
    obtain ⟨n1, hw⟩ := hw
    exact ⟨n1, rX6_isSpread_18 hp n1 _ _ _ _ _ _ _ h hw⟩
-- X6_settleEnd
set_option maxRecDepth 100000 in
set_option maxHeartbeats 4000000 in
theorem rX6_settleEnd_35 {g : Nat → Nat} {post post' : Pool → Prop} (hp : ∀ S M, CR g S M → post' M → post S) : ∀ (v0 : Option Nat) (v1 : Option Nat) (z0 : Int32) (S M : Pool), CR g S M → wX6_settleEnd_35 post' v0 v1 z0 M → wX6_settleEnd_35 post (v0.map g) (v1.map g) z0 S := by
  intro v0 v1 z0 S M h hw
  unfold wX6_settleEnd_35 at hw ⊢
  refine ⟨fun c1 => ?_, fun c1 => ?_⟩
  · have hw := hw.1 c1
    exact hp _ _ h hw
  · have hw := hw.2 c1
    refine cr_I h hw (fun a2 hw => ?_)
    refine cr_R h hw (fun a3 hw => ?_)
    refine cr_I h hw (fun a4 hw => ?_)
    refine cr_rc h hw (fun hw => ?_)
    refine rX0_valueIn (fun a5 S M h hw => ?_) _ _ _ _ h hw
    refine cr_rc h hw (fun hw => ?_)
    refine rX6_isSpread (fun a6 S M h hw => ?_) _ _ _ _ _ h hw
    refine ⟨fun c7 => ?_, fun c7 => ?_⟩
    · have hw := hw.1 c7
      exact hp _ _ h hw
    · have hw := hw.2 c7
      refine cr_I h hw (fun a8 hw => ?_)
      refine ⟨fun c9 => ?_, fun c9 => ?_⟩
      · have hw := hw.1 c9
        exact hp _ _ h hw
      · have hw := hw.2 c9
        refine cr_R h hw (fun a10 hw => ?_)
        refine cr_I h hw (fun a11 hw => ?_)
        refine cr_sR h hw (fun S M h hw => ?_)
        refine cr_I h hw (fun a12 hw => ?_)
        refine cr_pI h hw (fun S M h hw => ?_)
        exact hp _ _ h hw
set_option maxRecDepth 100000 in
set_option maxHeartbeats 4000000 in
theorem rX6_settleEnd_34 {g : Nat → Nat} {post post' : Pool → Prop} (hp : ∀ S M, CR g S M → post' M → post S) : ∀ (v0 : Option Nat) (v1 : Option Nat) (S M : Pool), CR g S M → wX6_settleEnd_34 post' v0 v1 M → wX6_settleEnd_34 post (v0.map g) (v1.map g) S := by
  intro v0 v1 S M h hw
  unfold wX6_settleEnd_34 at hw ⊢
  exact rX6_settleEnd_35 hp _ _ _ _ _ h hw
set_option maxRecDepth 100000 in
set_option maxHeartbeats 4000000 in
theorem rX6_settleEnd {g : Nat → Nat} {post post' : Pool → Prop} (hp : ∀ S M, CR g S M → post' M → post S) : ∀ (v0 : Option Nat) (v1 : Option Nat) (S M : Pool), CR g S M → wX6_settleEnd post' v0 v1 M → wX6_settleEnd post (v0.map g) (v1.map g) S := by
  intro v0 v1 S M h hw
  unfold wX6_settleEnd at hw ⊢
  refine cr_R h hw (fun a1 hw => ?_)
  refine cr_I h hw (fun a2 hw => ?_)
  refine ⟨fun c3 => ?_, fun c3 => ?_⟩
  · have hw := hw.1 c3
    exact rX6_settleEnd_34 hp _ _ _ _ h hw
  · have hw := hw.2 c3
    refine cr_R h hw (fun a4 hw => ?_)
    refine cr_aR h hw (fun a5 hw => ?_)
    refine cr_I h hw (fun a6 hw => ?_)
    refine cr_aI h hw (fun a7 hw => ?_)
    refine ⟨fun c8 => ?_, fun c8 => ?_⟩
    · have hw := hw.1 c8
      exact rX6_settleEnd_34 hp _ _ _ _ h hw
    · have hw := hw.2 c8
      exact rX6_settleEnd_35 hp _ _ _ _ _ h hw
-- X6_settle
set_option maxRecDepth 100000 in
set_option maxHeartbeats 4000000 in
theorem rX6_settle_42 {g : Nat → Nat} {K2 K2' : Option Nat → Int32 → Int32 → Pool → Prop} {post post' : Pool → Prop} (hp : ∀ S M, CR g S M → post' M → post S) (hK2 : ∀ (v0 : Option Nat) (v2 : Int32) (v3 : Int32) (S M : Pool), CR g S M → K2' v0 v2 v3 M → K2 (v0.map g) v2 v3 S) : ∀ (v0 : Option Nat) (v2 : Int32) (v3 : Int32) (S M : Pool), CR g S M → wX6_settle_42 K2' post' v0 v2 v3 M → wX6_settle_42 K2 post (v0.map g) v2 v3 S := by
  intro v0 v2 v3 S M h hw
  unfold wX6_settle_42 at hw ⊢
  exact hK2 _ _ _ _ _ h hw
set_option maxRecDepth 100000 in
set_option maxHeartbeats 4000000 in
theorem rX6_settle_2 {g : Nat → Nat} {post post' : Pool → Prop} (hp : ∀ S M, CR g S M → post' M → post S) : ∀ (n : Nat) (v0 : Option Nat) (v2 : Int32) (v3 : Int32) (S M : Pool), CR g S M → wX6_settle_2 post' n v0 v2 v3 M → wX6_settle_2 post n (v0.map g) v2 v3 S := by
  intro n
  induction n with
  | zero => intro v0 v2 v3 S M h hw; exact False.elim hw
  | succ n ih =>
    intro v0 v2 v3 S M h hw
    unfold wX6_settle_2 at hw ⊢
    refine ⟨fun c1 => ?_, fun c1 => ?_⟩
    · have hw := hw.1 c1
      exact hp _ _ h hw
    · have hw := hw.2 c1
      refine cr_R h hw (fun a2 hw => ?_)
      refine cr_R h hw (fun a3 hw => ?_)
      refine cr_aR h hw (fun a4 hw => ?_)
      refine cr_I h hw (fun a5 hw => ?_)
      refine cr_I h hw (fun a6 hw => ?_)
      refine ⟨fun c7 => ?_, fun c7 => ?_⟩
      · have hw := hw.1 c7
        exact rX6_settle_42 hp ih _ _ _ _ _ h hw
      · have hw := hw.2 c7
        refine cr_rc h hw (fun hw => ?_)
        refine rX6_settleSteps (fun S M h hw => ?_) _ _ _ _ h hw
        refine cr_rc h hw (fun hw => ?_)
        refine rX6_settleEnd (fun S M h hw => ?_) _ _ _ _ h hw
        exact rX6_settle_42 hp ih _ _ _ _ _ h hw
set_option maxRecDepth 100000 in
set_option maxHeartbeats 4000000 in
theorem rX6_settle {g : Nat → Nat} {post post' : Pool → Prop} (hp : ∀ S M, CR g S M → post' M → post S) : ∀ (v0 : Option Nat) (v1 : Int32) (v2 : Int32) (S M : Pool), CR g S M → wX6_settle post' v0 v1 v2 M → wX6_settle post (v0.map g) v1 v2 S := by
  intro v0 v1 v2 S M h hw
  unfold wX6_settle at hw ⊢
  obtain ⟨n1, hw⟩ := hw
  exact ⟨n1, rX6_settle_2 hp n1 _ _ _ _ _ h hw⟩
-- X6_isBehindRow
set_option maxRecDepth 100000 in
set_option maxHeartbeats 4000000 in
theorem rX6_isBehindRow {g : Nat → Nat} {post post' : Int32 → Pool → Prop} (hp : ∀ v S M, CR g S M → post' v M → post v S) : ∀ (v0 : Option Nat) (v1 : Option Nat) (S M : Pool), CR g S M → wX6_isBehindRow post' v0 v1 M → wX6_isBehindRow post (v0.map g) (v1.map g) S := by
  intro v0 v1 S M h hw
  unfold wX6_isBehindRow at hw ⊢
  refine cr_I h hw (fun a1 hw => ?_)
  refine ⟨fun c2 => ?_, fun c2 => ?_⟩
  · have hw := hw.1 c2
    exact ⟨hw.1, hp _ _ _ h hw.2⟩
  · have hw := hw.2 c2
    refine cr_I h hw (fun a3 hw => ?_)
    refine cr_R h hw (fun a4 hw => ?_)
    refine cr_I h hw (fun a5 hw => ?_)
    refine ⟨fun c6 => ?_, fun c6 => ?_⟩
    · have hw := hw.1 c6
      exact ⟨hw.1, hp _ _ _ h hw.2⟩
    · have hw := hw.2 c6
      exact ⟨hw.1, hp _ _ _ h hw.2⟩
-- X6_isUndisturbed
set_option maxRecDepth 100000 in
set_option maxHeartbeats 4000000 in
theorem rX6_isUndisturbed_81 {g : Nat → Nat} {K14 K14' : Option Nat → Option Nat → Int32 → Int32 → Pool → Prop} {post post' : Int32 → Pool → Prop} (hp : ∀ v S M, CR g S M → post' v M → post v S) (hK14 : ∀ (v0 : Option Nat) (v1 : Option Nat) (v2 : Int32) (v3 : Int32) (S M : Pool), CR g S M → K14' v0 v1 v2 v3 M → K14 (v0.map g) (v1.map g) v2 v3 S) : ∀ (v0 : Option Nat) (v1 : Option Nat) (v2 : Int32) (v3 : Int32) (S M : Pool), CR g S M → wX6_isUndisturbed_81 K14' post' v0 v1 v2 v3 M → wX6_isUndisturbed_81 K14 post (v0.map g) (v1.map g) v2 v3 S := by
  intro v0 v1 v2 v3 S M h hw
  unfold wX6_isUndisturbed_81 at hw ⊢
  exact hK14 _ _ _ _ _ _ h hw
set_option maxRecDepth 100000 in
set_option maxHeartbeats 4000000 in
theorem rX6_isUndisturbed_14 {g : Nat → Nat} {post post' : Int32 → Pool → Prop} (hp : ∀ v S M, CR g S M → post' v M → post v S) : ∀ (n : Nat) (v0 : Option Nat) (v1 : Option Nat) (v2 : Int32) (v3 : Int32) (S M : Pool), CR g S M → wX6_isUndisturbed_14 post' n v0 v1 v2 v3 M → wX6_isUndisturbed_14 post n (v0.map g) (v1.map g) v2 v3 S := by
  intro n
  induction n with
  | zero => intro v0 v1 v2 v3 S M h hw; exact False.elim hw
  | succ n ih =>
    intro v0 v1 v2 v3 S M h hw
    unfold wX6_isUndisturbed_14 at hw ⊢
    refine cr_R h hw (fun a1 hw => ?_)
    refine cr_I h hw (fun a2 hw => ?_)
    refine ⟨fun c3 => ?_, fun c3 => ?_⟩
    · have hw := hw.1 c3
      exact ⟨hw.1, hp _ _ _ h hw.2⟩
    · have hw := hw.2 c3
      refine cr_R h hw (fun a4 hw => ?_)
      refine cr_R h hw (fun a5 hw => ?_)
      refine cr_aR h hw (fun a6 hw => ?_)
      refine cr_I h hw (fun a7 hw => ?_)
      refine cr_I h hw (fun a8 hw => ?_)
      refine cr_rc h hw (fun hw => ?_)
      refine rX6_isBehindRow (fun a9 S M h hw => ?_) _ _ _ _ h hw
      refine ⟨fun c10 => ?_, fun c10 => ?_⟩
      · have hw := hw.1 c10
        exact rX6_isUndisturbed_81 hp ih _ _ _ _ _ _ h hw
      · have hw := hw.2 c10
        refine cr_I h hw (fun a11 hw => ?_)
        refine ⟨fun c12 => ?_, fun c12 => ?_⟩
        · have hw := hw.1 c12
          exact ⟨hw.1, hp _ _ _ h hw.2⟩
        · have hw := hw.2 c12
          refine cr_R h hw (fun a13 hw => ?_)
          refine cr_aR h hw (fun a14 hw => ?_)
          refine cr_aI h hw (fun a15 hw => ?_)
          refine ⟨fun c16 => ?_, fun c16 => ?_⟩
          · have hw := hw.1 c16
            exact rX6_isUndisturbed_81 hp ih _ _ _ _ _ _ h hw
          · have hw := hw.2 c16
            exact ⟨hw.1, hp _ _ _ h hw.2⟩
set_option maxRecDepth 100000 in
set_option maxHeartbeats 4000000 in
theorem rX6_isUndisturbed {g : Nat → Nat} {post post' : Int32 → Pool → Prop} (hp : ∀ v S M, CR g S M → post' v M → post v S) : ∀ (v0 : Option Nat) (v1 : Option Nat) (S M : Pool), CR g S M → wX6_isUndisturbed post' v0 v1 M → wX6_isUndisturbed post (v0.map g) (v1.map g) S := by
  intro v0 v1 S M h hw
  unfold wX6_isUndisturbed at hw ⊢
  refine cr_R h hw (fun a1 hw => ?_)
  refine cr_I h hw (fun a2 hw => ?_)
  refine cr_rc h hw (fun hw => ?_)
  refine rX0_valueIn (fun a3 S M h hw => ?_) _ _ _ _ h hw
  obtain ⟨n1, hw⟩ := hw
  exact ⟨n1, rX6_isUndisturbed_14 hp n1 _ _ _ _ _ _ h hw⟩
-- X6_noteNot
set_option maxRecDepth 100000 in
set_option maxHeartbeats 4000000 in
theorem rX6_noteNot_66 {g : Nat → Nat} {K14 K14' : Option Nat → Option Nat → Int32 → Int32 → Pool → Prop} {post post' : Pool → Prop} (hp : ∀ S M, CR g S M → post' M → post S) (hK14 : ∀ (v0 : Option Nat) (v1 : Option Nat) (v2 : Int32) (v3 : Int32) (S M : Pool), CR g S M → K14' v0 v1 v2 v3 M → K14 (v0.map g) (v1.map g) v2 v3 S) : ∀ (v0 : Option Nat) (v1 : Option Nat) (v2 : Int32) (v3 : Int32) (S M : Pool), CR g S M → wX6_noteNot_66 K14' post' v0 v1 v2 v3 M → wX6_noteNot_66 K14 post (v0.map g) (v1.map g) v2 v3 S := by
  intro v0 v1 v2 v3 S M h hw
  unfold wX6_noteNot_66 at hw ⊢
  exact hK14 _ _ _ _ _ _ h hw
set_option maxRecDepth 100000 in
set_option maxHeartbeats 4000000 in
theorem rX6_noteNot_14 {g : Nat → Nat} {post post' : Pool → Prop} (hp : ∀ S M, CR g S M → post' M → post S) : ∀ (n : Nat) (v0 : Option Nat) (v1 : Option Nat) (v2 : Int32) (v3 : Int32) (S M : Pool), CR g S M → wX6_noteNot_14 post' n v0 v1 v2 v3 M → wX6_noteNot_14 post n (v0.map g) (v1.map g) v2 v3 S := by
  intro n
  induction n with
  | zero => intro v0 v1 v2 v3 S M h hw; exact False.elim hw
  | succ n ih =>
    intro v0 v1 v2 v3 S M h hw
    unfold wX6_noteNot_14 at hw ⊢
    refine cr_R h hw (fun a1 hw => ?_)
    refine cr_I h hw (fun a2 hw => ?_)
    refine ⟨fun c3 => ?_, fun c3 => ?_⟩
    · have hw := hw.1 c3
      exact hp _ _ h hw
    · have hw := hw.2 c3
      refine cr_R h hw (fun a4 hw => ?_)
      refine cr_R h hw (fun a5 hw => ?_)
      refine cr_aR h hw (fun a6 hw => ?_)
      refine cr_rc h hw (fun hw => ?_)
      refine rX6_isBehindRow (fun a7 S M h hw => ?_) _ _ _ _ h hw
      refine ⟨fun c8 => ?_, fun c8 => ?_⟩
      · have hw := hw.1 c8
        exact rX6_noteNot_66 hp ih _ _ _ _ _ _ h hw
      · have hw := hw.2 c8
        refine cr_rc h hw (fun hw => ?_)
        refine rX5_admits (fun a9 S M h hw => ?_) _ _ _ _ h hw
        refine ⟨fun c10 => ?_, fun c10 => ?_⟩
        · have hw := hw.1 c10
          exact rX6_noteNot_66 hp ih _ _ _ _ _ _ h hw
        · have hw := hw.2 c10
          refine cr_R h hw (fun a11 hw => ?_)
          refine cr_aR h hw (fun a12 hw => ?_)
          refine cr_I h hw (fun a13 hw => ?_)
          refine cr_sI h hw (fun S M h hw => ?_)
          exact rX6_noteNot_66 hp ih _ _ _ _ _ _ h hw
set_option maxRecDepth 100000 in
set_option maxHeartbeats 4000000 in
theorem rX6_noteNot {g : Nat → Nat} {post post' : Pool → Prop} (hp : ∀ S M, CR g S M → post' M → post S) : ∀ (v0 : Option Nat) (v1 : Option Nat) (S M : Pool), CR g S M → wX6_noteNot post' v0 v1 M → wX6_noteNot post (v0.map g) (v1.map g) S := by
  intro v0 v1 S M h hw
  unfold wX6_noteNot at hw ⊢
  refine cr_R h hw (fun a1 hw => ?_)
  refine cr_I h hw (fun a2 hw => ?_)
  refine cr_rc h hw (fun hw => ?_)
  refine rX0_valueIn (fun a3 S M h hw => ?_) _ _ _ _ h hw
  obtain ⟨n1, hw⟩ := hw
  exact ⟨n1, rX6_noteNot_14 hp n1 _ _ _ _ _ _ h hw⟩
-- X6_dropDisturbed
set_option maxRecDepth 100000 in
set_option maxHeartbeats 4000000 in
theorem rX6_dropDisturbed_156 {g : Nat → Nat} {post post' : Pool → Prop} (hp : ∀ S M, CR g S M → post' M → post S) : ∀ (n : Nat) (v0 : Option Nat) (v3 : Int32) (v4 : Int32) (S M : Pool), CR g S M → wX6_dropDisturbed_156 post' n v0 v3 v4 M → wX6_dropDisturbed_156 post n (v0.map g) v3 v4 S := by
  intro n
  induction n with
  | zero => intro v0 v3 v4 S M h hw; exact False.elim hw
  | succ n ih =>
    intro v0 v3 v4 S M h hw
    unfold wX6_dropDisturbed_156 at hw ⊢
    refine cr_I h hw (fun a1 hw => ?_)
    refine ⟨fun c2 => ?_, fun c2 => ?_⟩
    · have hw := hw.1 c2
      refine cr_I h hw (fun a3 hw => ?_)
      refine cr_pI h hw (fun S M h hw => ?_)
      exact hp _ _ h hw
    · have hw := hw.2 c2
      refine cr_R h hw (fun a4 hw => ?_)
      refine cr_R h hw (fun a5 hw => ?_)
      refine cr_aR h hw (fun a6 hw => ?_)
      refine cr_sR h hw (fun S M h hw => ?_)
      exact ih _ _ _ _ _ h hw
set_option maxRecDepth 100000 in
set_option maxHeartbeats 4000000 in
theorem rX6_dropDisturbed_147 {g : Nat → Nat} {K51 K51' : Option Nat → Int32 → Int32 → Int32 → Pool → Prop} {post post' : Pool → Prop} (hp : ∀ S M, CR g S M → post' M → post S) (hK51 : ∀ (v0 : Option Nat) (v2 : Int32) (v3 : Int32) (v4 : Int32) (S M : Pool), CR g S M → K51' v0 v2 v3 v4 M → K51 (v0.map g) v2 v3 v4 S) : ∀ (v0 : Option Nat) (v2 : Int32) (v3 : Int32) (v4 : Int32) (S M : Pool), CR g S M → wX6_dropDisturbed_147 K51' post' v0 v2 v3 v4 M → wX6_dropDisturbed_147 K51 post (v0.map g) v2 v3 v4 S := by
  intro v0 v2 v3 v4 S M h hw
  unfold wX6_dropDisturbed_147 at hw ⊢
  exact hK51 _ _ _ _ _ _ h hw
set_option maxRecDepth 100000 in
set_option maxHeartbeats 4000000 in
theorem rX6_dropDisturbed_129 {g : Nat → Nat} {K51 K51' : Option Nat → Int32 → Int32 → Int32 → Pool → Prop} {post post' : Pool → Prop} (hp : ∀ S M, CR g S M → post' M → post S) (hK51 : ∀ (v0 : Option Nat) (v2 : Int32) (v3 : Int32) (v4 : Int32) (S M : Pool), CR g S M → K51' v0 v2 v3 v4 M → K51 (v0.map g) v2 v3 v4 S) : ∀ (v0 : Option Nat) (v2 : Int32) (v3 : Int32) (v4 : Int32) (v5 : Option Nat) (S M : Pool), CR g S M → wX6_dropDisturbed_129 K51' post' v0 v2 v3 v4 v5 M → wX6_dropDisturbed_129 K51 post (v0.map g) v2 v3 v4 (v5.map g) S := by
  intro v0 v2 v3 v4 v5 S M h hw
  unfold wX6_dropDisturbed_129 at hw ⊢
  refine cr_I h hw (fun a1 hw => ?_)
  refine cr_I h hw (fun a2 hw => ?_)
  refine ⟨fun c3 => ?_, fun c3 => ?_⟩
  · have hw := hw.1 c3
    exact rX6_dropDisturbed_147 hp hK51 _ _ _ _ _ _ h hw
  · have hw := hw.2 c3
    refine cr_rc h hw (fun hw => ?_)
    refine rX6_noteNot (fun S M h hw => ?_) _ _ _ _ h hw
    exact rX6_dropDisturbed_147 hp hK51 _ _ _ _ _ _ h hw
set_option maxRecDepth 100000 in
set_option maxHeartbeats 4000000 in
theorem rX6_dropDisturbed_123 {g : Nat → Nat} {K51 K51' : Option Nat → Int32 → Int32 → Int32 → Pool → Prop} {K68 K68' : Option Nat → Int32 → Int32 → Int32 → Option Nat → Pool → Prop} {post post' : Pool → Prop} (hp : ∀ S M, CR g S M → post' M → post S) (hK51 : ∀ (v0 : Option Nat) (v2 : Int32) (v3 : Int32) (v4 : Int32) (S M : Pool), CR g S M → K51' v0 v2 v3 v4 M → K51 (v0.map g) v2 v3 v4 S) (hK68 : ∀ (v0 : Option Nat) (v2 : Int32) (v3 : Int32) (v4 : Int32) (v5 : Option Nat) (S M : Pool), CR g S M → K68' v0 v2 v3 v4 v5 M → K68 (v0.map g) v2 v3 v4 (v5.map g) S) : ∀ (v0 : Option Nat) (v2 : Int32) (v3 : Int32) (v4 : Int32) (v5 : Option Nat) (S M : Pool), CR g S M → wX6_dropDisturbed_123 K51' K68' post' v0 v2 v3 v4 v5 M → wX6_dropDisturbed_123 K51 K68 post (v0.map g) v2 v3 v4 (v5.map g) S := by
  intro v0 v2 v3 v4 v5 S M h hw
  unfold wX6_dropDisturbed_123 at hw ⊢
  exact hK68 _ _ _ _ _ _ _ h hw
set_option maxRecDepth 100000 in
set_option maxHeartbeats 4000000 in
theorem rX6_dropDisturbed_68 {g : Nat → Nat} {K51 K51' : Option Nat → Int32 → Int32 → Int32 → Pool → Prop} {post post' : Pool → Prop} (hp : ∀ S M, CR g S M → post' M → post S) (hK51 : ∀ (v0 : Option Nat) (v2 : Int32) (v3 : Int32) (v4 : Int32) (S M : Pool), CR g S M → K51' v0 v2 v3 v4 M → K51 (v0.map g) v2 v3 v4 S) : ∀ (n : Nat) (v0 : Option Nat) (v2 : Int32) (v3 : Int32) (v4 : Int32) (v5 : Option Nat) (S M : Pool), CR g S M → wX6_dropDisturbed_68 K51' post' n v0 v2 v3 v4 v5 M → wX6_dropDisturbed_68 K51 post n (v0.map g) v2 v3 v4 (v5.map g) S := by
  intro n
  induction n with
  | zero => intro v0 v2 v3 v4 v5 S M h hw; exact False.elim hw
  | succ n ih =>
    intro v0 v2 v3 v4 v5 S M h hw
    unfold wX6_dropDisturbed_68 at hw ⊢
    refine ⟨fun c1 => ?_, fun c1 => ?_⟩
    · have hw := hw.1 c1
      exact rX6_dropDisturbed_129 hp hK51 _ _ _ _ _ _ _ h hw
    · have hw := hw.2 c1
      refine cr_R h hw (fun a2 hw => ?_)
      refine cr_aR h hw (fun a3 hw => ?_)
      refine cr_I h hw (fun a4 hw => ?_)
      refine cr_I h hw (fun a5 hw => ?_)
      refine ⟨fun c6 => ?_, fun c6 => ?_⟩
      · have hw := hw.1 c6
        exact rX6_dropDisturbed_129 hp hK51 _ _ _ _ _ _ _ h hw
      · have hw := hw.2 c6
        refine cr_R h hw (fun a7 hw => ?_)
        refine cr_aR h hw (fun a8 hw => ?_)
        refine cr_rc h hw (fun hw => ?_)
        refine rX6_isUndisturbed (fun a9 S M h hw => ?_) _ _ _ _ h hw
        refine ⟨fun c10 => ?_, fun c10 => ?_⟩
        · have hw := hw.1 c10
          exact rX6_dropDisturbed_123 hp hK51 ih _ _ _ _ _ _ _ h hw
        · have hw := hw.2 c10
          refine cr_R h hw (fun a11 hw => ?_)
          refine cr_R h hw (fun a12 hw => ?_)
          refine cr_aR h hw (fun a13 hw => ?_)
          refine cr_sR h hw (fun S M h hw => ?_)
          exact rX6_dropDisturbed_123 hp hK51 ih _ _ _ _ _ _ _ h hw
set_option maxRecDepth 100000 in
set_option maxHeartbeats 4000000 in
theorem rX6_dropDisturbed_51 {g : Nat → Nat} {post post' : Pool → Prop} (hp : ∀ S M, CR g S M → post' M → post S) : ∀ (n : Nat) (v0 : Option Nat) (v2 : Int32) (v3 : Int32) (v4 : Int32) (S M : Pool), CR g S M → wX6_dropDisturbed_51 post' n v0 v2 v3 v4 M → wX6_dropDisturbed_51 post n (v0.map g) v2 v3 v4 S := by
  intro n
  induction n with
  | zero => intro v0 v2 v3 v4 S M h hw; exact False.elim hw
  | succ n ih =>
    intro v0 v2 v3 v4 S M h hw
    unfold wX6_dropDisturbed_51 at hw ⊢
    refine ⟨fun c1 => ?_, fun c1 => ?_⟩
    · have hw := hw.1 c1
      obtain ⟨n1, hw⟩ := hw
      exact ⟨n1, rX6_dropDisturbed_156 hp n1 _ _ _ _ _ h hw⟩
    · have hw := hw.2 c1
      refine cr_R h hw (fun a2 hw => ?_)
      refine cr_R h hw (fun a3 hw => ?_)
      refine cr_aR h hw (fun a4 hw => ?_)
      obtain ⟨n1, hw⟩ := hw
      exact ⟨n1, rX6_dropDisturbed_68 hp ih n1 _ _ _ _ _ _ _ h hw⟩
set_option maxRecDepth 100000 in
set_option maxHeartbeats 4000000 in
theorem rX6_dropDisturbed {g : Nat → Nat} {post post' : Pool → Prop} (hp : ∀ S M, CR g S M → post' M → post S) : ∀ (v0 : Option Nat) (S M : Pool), CR g S M → wX6_dropDisturbed post' v0 M → wX6_dropDisturbed post (v0.map g) S := by
  intro v0 S M h hw
  unfold wX6_dropDisturbed at hw ⊢
  refine cr_R h hw (fun a1 hw => ?_)
  refine cr_I h hw (fun a2 hw => ?_)
  refine ⟨fun c3 => ?_, fun c3 => ?_⟩
  · have hw := hw.1 c3
    exact hp _ _ h hw
  · have hw := hw.2 c3
    refine cr_R h hw (fun a4 hw => ?_)
    refine cr_R h hw (fun a5 hw => ?_)
    refine cr_aR h hw (fun a6 hw => ?_)
    refine cr_I h hw (fun a7 hw => ?_)
    refine ⟨fun c8 => ?_, fun c8 => ?_⟩
    · have hw := hw.1 c8
      exact hp _ _ h hw
    · have hw := hw.2 c8
      refine cr_I h hw (fun a9 hw => ?_)
      refine cr_I h hw (fun a10 hw => ?_)
      refine cr_R h hw (fun a11 hw => ?_)
      refine cr_I h hw (fun a12 hw => ?_)
      obtain ⟨n1, hw⟩ := hw
      exact ⟨n1, rX6_dropDisturbed_51 hp n1 _ _ _ _ _ _ h hw⟩
-- X6_goOver
set_option maxRecDepth 100000 in
set_option maxHeartbeats 4000000 in
theorem rX6_goOver_154 {g : Nat → Nat} {K79 K79' : Option Nat → Int32 → Int32 → Pool → Prop} {post post' : Pool → Prop} (hp : ∀ S M, CR g S M → post' M → post S) (hK79 : ∀ (v0 : Option Nat) (v4 : Int32) (v5 : Int32) (S M : Pool), CR g S M → K79' v0 v4 v5 M → K79 (v0.map g) v4 v5 S) : ∀ (v0 : Option Nat) (v4 : Int32) (v5 : Int32) (S M : Pool), CR g S M → wX6_goOver_154 K79' post' v0 v4 v5 M → wX6_goOver_154 K79 post (v0.map g) v4 v5 S := by
  intro v0 v4 v5 S M h hw
  unfold wX6_goOver_154 at hw ⊢
  exact hK79 _ _ _ _ _ h hw
set_option maxRecDepth 100000 in
set_option maxHeartbeats 4000000 in
theorem rX6_goOver_136 {g : Nat → Nat} {K79 K79' : Option Nat → Int32 → Int32 → Pool → Prop} {post post' : Pool → Prop} (hp : ∀ S M, CR g S M → post' M → post S) (hK79 : ∀ (v0 : Option Nat) (v4 : Int32) (v5 : Int32) (S M : Pool), CR g S M → K79' v0 v4 v5 M → K79 (v0.map g) v4 v5 S) : ∀ (v0 : Option Nat) (v4 : Int32) (v5 : Int32) (v6 : Option Nat) (S M : Pool), CR g S M → wX6_goOver_136 K79' post' v0 v4 v5 v6 M → wX6_goOver_136 K79 post (v0.map g) v4 v5 (v6.map g) S := by
  intro v0 v4 v5 v6 S M h hw
  unfold wX6_goOver_136 at hw ⊢
  refine cr_I h hw (fun a1 hw => ?_)
  refine cr_I h hw (fun a2 hw => ?_)
  refine ⟨fun c3 => ?_, fun c3 => ?_⟩
  · have hw := hw.1 c3
    exact rX6_goOver_154 hp hK79 _ _ _ _ _ h hw
  · have hw := hw.2 c3
    refine cr_rc h hw (fun hw => ?_)
    refine rX6_reach (fun S M h hw => ?_) _ _ _ _ h hw
    exact rX6_goOver_154 hp hK79 _ _ _ _ _ h hw
set_option maxRecDepth 100000 in
set_option maxHeartbeats 4000000 in
theorem rX6_goOver_79 {g : Nat → Nat} {post post' : Pool → Prop} (hp : ∀ S M, CR g S M → post' M → post S) : ∀ (n : Nat) (v0 : Option Nat) (v4 : Int32) (v5 : Int32) (S M : Pool), CR g S M → wX6_goOver_79 post' n v0 v4 v5 M → wX6_goOver_79 post n (v0.map g) v4 v5 S := by
  intro n
  induction n with
  | zero => intro v0 v4 v5 S M h hw; exact False.elim hw
  | succ n ih =>
    intro v0 v4 v5 S M h hw
    unfold wX6_goOver_79 at hw ⊢
    refine cr_R h hw (fun a1 hw => ?_)
    refine cr_I h hw (fun a2 hw => ?_)
    refine ⟨fun c3 => ?_, fun c3 => ?_⟩
    · have hw := hw.1 c3
      refine cr_R h hw (fun a4 hw => ?_)
      refine cr_I h hw (fun a5 hw => ?_)
      refine cr_rc h hw (fun hw => ?_)
      refine rX6_settle (fun S M h hw => ?_) _ _ _ _ _ h hw
      refine cr_rc h hw (fun hw => ?_)
      refine rX6_dropDisturbed (fun S M h hw => ?_) _ _ _ h hw
      exact hp _ _ h hw
    · have hw := hw.2 c3
      refine cr_R h hw (fun a6 hw => ?_)
      refine cr_R h hw (fun a7 hw => ?_)
      refine cr_aR h hw (fun a8 hw => ?_)
      refine cr_I h hw (fun a9 hw => ?_)
      refine cr_R h hw (fun a10 hw => ?_)
      refine cr_R h hw (fun a11 hw => ?_)
      refine cr_aR h hw (fun a12 hw => ?_)
      refine cr_I h hw (fun a13 hw => ?_)
      refine ⟨fun c14 => ?_, fun c14 => ?_⟩
      · have hw := hw.1 c14
        exact rX6_goOver_136 hp ih _ _ _ _ _ _ h hw
      · have hw := hw.2 c14
        refine cr_rc h hw (fun hw => ?_)
        refine rX6_settle (fun S M h hw => ?_) _ _ _ _ _ h hw
        exact rX6_goOver_136 hp ih _ _ _ _ _ _ h hw
set_option maxRecDepth 100000 in
set_option maxHeartbeats 4000000 in
theorem rX6_goOver_31 {g : Nat → Nat} {post post' : Pool → Prop} (hp : ∀ S M, CR g S M → post' M → post S) : ∀ (v0 : Option Nat) (v1 : Option Nat) (v2 : Int32) (v3 : Int32) (S M : Pool), CR g S M → wX6_goOver_31 post' v0 v1 v2 v3 M → wX6_goOver_31 post (v0.map g) (v1.map g) v2 v3 S := by
  intro v0 v1 v2 v3 S M h hw
  unfold wX6_goOver_31 at hw ⊢
  refine cr_pR h hw (fun S M h hw => ?_)
  refine cr_pI h hw (fun S M h hw => ?_)
  refine cr_pI h hw (fun S M h hw => ?_)
  refine cr_R h hw (fun a1 hw => ?_)
  refine cr_I h hw (fun a2 hw => ?_)
  refine cr_pI h hw (fun S M h hw => ?_)
  refine cr_R h hw (fun a3 hw => ?_)
  refine cr_rc h hw (fun hw => ?_)
  refine rX2_knownAt (fun a4 S M h hw => ?_) _ _ _ _ h hw
  refine cr_pI h hw (fun S M h hw => ?_)
  refine cr_rc h hw (fun hw => ?_)
  refine rX6_clear (fun S M h hw => ?_) _ _ _ h hw
  obtain ⟨n1, hw⟩ := hw
  exact ⟨n1, rX6_goOver_79 hp n1 _ _ _ _ _ h hw⟩
set_option maxRecDepth 100000 in
set_option maxHeartbeats 4000000 in
theorem rX6_goOver {g : Nat → Nat} {post post' : Pool → Prop} (hp : ∀ S M, CR g S M → post' M → post S) : ∀ (v0 : Option Nat) (v1 : Option Nat) (v2 : Int32) (v3 : Int32) (S M : Pool), CR g S M → wX6_goOver post' v0 v1 v2 v3 M → wX6_goOver post (v0.map g) (v1.map g) v2 v3 S := by
  intro v0 v1 v2 v3 S M h hw
  unfold wX6_goOver at hw ⊢
  refine cr_I h hw (fun a1 hw => ?_)
  refine ⟨fun c2 => ?_, fun c2 => ?_⟩
  · have hw := hw.1 c2
    refine cr_I h hw (fun a3 hw => ?_)
    refine ⟨fun c4 => ?_, fun c4 => ?_⟩
    · have hw := hw.1 c4
      refine cr_R h hw (fun a5 hw => ?_)
      refine cr_I h hw (fun a6 hw => ?_)
      refine cr_I h hw (fun a7 hw => ?_)
      refine ⟨fun c8 => ?_, fun c8 => ?_⟩
      · have hw := hw.1 c8
        exact hp _ _ h hw
      · have hw := hw.2 c8
        exact rX6_goOver_31 hp _ _ _ _ _ _ h hw
    · have hw := hw.2 c4
      exact rX6_goOver_31 hp _ _ _ _ _ _ h hw
  · have hw := hw.2 c2
    exact rX6_goOver_31 hp _ _ _ _ _ _ h hw
-- X6_findAt
set_option maxRecDepth 100000 in
set_option maxHeartbeats 4000000 in
theorem rX6_findAt_21 {g : Nat → Nat} {post post' : Option Nat → Pool → Prop} (hp : ∀ (v : Option Nat) S M, CR g S M → post' v M → post (v.map g) S) : ∀ (S M : Pool), CR g S M → wX6_findAt_21 post' M → wX6_findAt_21 post S := by
  intro S M h hw
  unfold wX6_findAt_21 at hw ⊢
  exact hp none _ _ h hw
set_option maxRecDepth 100000 in
set_option maxHeartbeats 4000000 in
theorem rX6_findAt {g : Nat → Nat} {post post' : Option Nat → Pool → Prop} (hp : ∀ (v : Option Nat) S M, CR g S M → post' v M → post (v.map g) S) : ∀ (v0 : Option Nat) (v1 : Int32) (S M : Pool), CR g S M → wX6_findAt post' v0 v1 M → wX6_findAt post (v0.map g) v1 S := by
  intro v0 v1 S M h hw
  unfold wX6_findAt at hw ⊢
  refine ⟨fun c1 => ?_, fun c1 => ?_⟩
  · have hw := hw.1 c1
    exact rX6_findAt_21 hp _ _ h hw
  · have hw := hw.2 c1
    refine cr_I h hw (fun a2 hw => ?_)
    refine ⟨fun c3 => ?_, fun c3 => ?_⟩
    · have hw := hw.1 c3
      exact rX6_findAt_21 hp _ _ h hw
    · have hw := hw.2 c3
      refine cr_R h hw (fun a4 hw => ?_)
      refine cr_aR h hw (fun a5 hw => ?_)
      exact hp _ _ _ h hw
-- X6_isFind
set_option maxRecDepth 100000 in
set_option maxHeartbeats 4000000 in
theorem rX6_isFind_2 {g : Nat → Nat} {post post' : Int32 → Pool → Prop} (hp : ∀ v S M, CR g S M → post' v M → post v S) : ∀ (n : Nat) (v0 : Option Nat) (v1 : Option Nat) (v2 : Int32) (S M : Pool), CR g S M → wX6_isFind_2 post' n v0 v1 v2 M → wX6_isFind_2 post n (v0.map g) (v1.map g) v2 S := by
  intro n
  induction n with
  | zero => intro v0 v1 v2 S M h hw; exact False.elim hw
  | succ n ih =>
    intro v0 v1 v2 S M h hw
    unfold wX6_isFind_2 at hw ⊢
    refine cr_I h hw (fun a1 hw => ?_)
    refine ⟨fun c2 => ?_, fun c2 => ?_⟩
    · have hw := hw.1 c2
      exact ⟨hw.1, hp _ _ _ h hw.2⟩
    · have hw := hw.2 c2
      refine cr_R h hw (fun a3 hw => ?_)
      refine cr_aR h hw (fun a4 hw => ?_)
      refine cr_I h hw (fun a5 hw => ?_)
      refine cr_I h hw (fun a6 hw => ?_)
      refine ⟨fun c7 => ?_, fun c7 => ?_⟩
      · have hw := hw.1 c7
        exact ⟨hw.1, hp _ _ _ h hw.2⟩
      · have hw := hw.2 c7
        exact ih _ _ _ _ _ h hw
set_option maxRecDepth 100000 in
set_option maxHeartbeats 4000000 in
theorem rX6_isFind {g : Nat → Nat} {post post' : Int32 → Pool → Prop} (hp : ∀ v S M, CR g S M → post' v M → post v S) : ∀ (v0 : Option Nat) (v1 : Option Nat) (S M : Pool), CR g S M → wX6_isFind post' v0 v1 M → wX6_isFind post (v0.map g) (v1.map g) S := by
  intro v0 v1 S M h hw
  unfold wX6_isFind at hw ⊢
  obtain ⟨n1, hw⟩ := hw
  exact ⟨n1, rX6_isFind_2 hp n1 _ _ _ _ _ h hw⟩
-- X6_proofAct
set_option maxRecDepth 100000 in
set_option maxHeartbeats 4000000 in
theorem rX6_proofAct_44 {g : Nat → Nat} {post post' : Int32 → Pool → Prop} (hp : ∀ v S M, CR g S M → post' v M → post v S) : ∀ (n : Nat) (v0 : Option Nat) (v2 : Int32) (v4 : Int32) (v5 : Int32) (S M : Pool), CR g S M → wX6_proofAct_44 post' n v0 v2 v4 v5 M → wX6_proofAct_44 post n (v0.map g) v2 v4 v5 S := by
  intro n
  induction n with
  | zero => intro v0 v2 v4 v5 S M h hw; exact False.elim hw
  | succ n ih =>
    intro v0 v2 v4 v5 S M h hw
    unfold wX6_proofAct_44 at hw ⊢
    refine ⟨fun c1 => ?_, fun c1 => ?_⟩
    · have hw := hw.1 c1
      exact hp _ _ _ h hw
    · have hw := hw.2 c1
      refine ⟨fun c2 => ?_, fun c2 => ?_⟩
      · have hw := hw.1 c2
        exact hp _ _ _ h hw
      · have hw := hw.2 c2
        refine cr_R h hw (fun a3 hw => ?_)
        refine cr_aR h hw (fun a4 hw => ?_)
        refine cr_aI h hw (fun a5 hw => ?_)
        exact ih _ _ _ _ _ _ h hw
set_option maxRecDepth 100000 in
set_option maxHeartbeats 4000000 in
theorem rX6_proofAct {g : Nat → Nat} {post post' : Int32 → Pool → Prop} (hp : ∀ v S M, CR g S M → post' v M → post v S) : ∀ (v0 : Option Nat) (v1 : Int32) (v2 : Int32) (S M : Pool), CR g S M → wX6_proofAct post' v0 v1 v2 M → wX6_proofAct post (v0.map g) v1 v2 S := by
  intro v0 v1 v2 S M h hw
  unfold wX6_proofAct at hw ⊢
  refine cr_rc h hw (fun hw => ?_)
  refine rX6_findAt (fun a1 S M h hw => ?_) _ _ _ _ h hw
  refine ⟨fun c2 => ?_, fun c2 => ?_⟩
  · have hw := cr_n (B := True) hw.1 c2
    exact hp _ _ _ h hw
  · have hw := cr_nn hw.2 c2
    refine ⟨fun c3 => ?_, fun c3 => ?_⟩
    · have hw := hw.1 c3
      exact hp _ _ _ h hw
    · have hw := hw.2 c3
      refine cr_R h hw (fun a4 hw => ?_)
      refine cr_I h hw (fun a5 hw => ?_)
      refine ⟨fun c6 => ?_, fun c6 => ?_⟩
      · have hw := hw.1 c6
        refine cr_I h hw (fun a7 hw => ?_)
        refine cr_R h hw (fun a8 hw => ?_)
        refine cr_I h hw (fun a9 hw => ?_)
        obtain ⟨n1, hw⟩ := hw
        exact ⟨n1, rX6_proofAct_44 hp n1 _ _ _ _ _ _ h hw⟩
      · have hw := hw.2 c6
        exact hp _ _ _ h hw
-- X6_fewestFits
set_option maxRecDepth 100000 in
set_option maxHeartbeats 4000000 in
theorem rX6_fewestFits_6 {g : Nat → Nat} {post post' : Int32 → Pool → Prop} (hp : ∀ v S M, CR g S M → post' v M → post v S) : ∀ (n : Nat) (v0 : Option Nat) (v1 : Int32) (v2 : Int32) (S M : Pool), CR g S M → wX6_fewestFits_6 post' n v0 v1 v2 M → wX6_fewestFits_6 post n (v0.map g) v1 v2 S := by
  intro n
  induction n with
  | zero => intro v0 v1 v2 S M h hw; exact False.elim hw
  | succ n ih =>
    intro v0 v1 v2 S M h hw
    unfold wX6_fewestFits_6 at hw ⊢
    refine cr_R h hw (fun a1 hw => ?_)
    refine cr_I h hw (fun a2 hw => ?_)
    refine ⟨fun c3 => ?_, fun c3 => ?_⟩
    · have hw := hw.1 c3
      exact hp _ _ _ h hw
    · have hw := hw.2 c3
      refine cr_R h hw (fun a4 hw => ?_)
      refine cr_aI h hw (fun a5 hw => ?_)
      exact ih _ _ _ _ _ h hw
set_option maxRecDepth 100000 in
set_option maxHeartbeats 4000000 in
theorem rX6_fewestFits {g : Nat → Nat} {post post' : Int32 → Pool → Prop} (hp : ∀ v S M, CR g S M → post' v M → post v S) : ∀ (v0 : Option Nat) (S M : Pool), CR g S M → wX6_fewestFits post' v0 M → wX6_fewestFits post (v0.map g) S := by
  intro v0 S M h hw
  unfold wX6_fewestFits at hw ⊢
  obtain ⟨n1, hw⟩ := hw
  exact ⟨n1, rX6_fewestFits_6 hp n1 _ _ _ _ _ h hw⟩
-- X6_widestField
set_option maxRecDepth 100000 in
set_option maxHeartbeats 4000000 in
theorem rX6_widestField_67 {g : Nat → Nat} {K6 K6' : Option Nat → Int32 → Int32 → Int32 → Pool → Prop} {post post' : Int32 → Pool → Prop} (hp : ∀ v S M, CR g S M → post' v M → post v S) (hK6 : ∀ (v0 : Option Nat) (v1 : Int32) (v2 : Int32) (v3 : Int32) (S M : Pool), CR g S M → K6' v0 v1 v2 v3 M → K6 (v0.map g) v1 v2 v3 S) : ∀ (v0 : Option Nat) (v1 : Int32) (v2 : Int32) (v3 : Int32) (S M : Pool), CR g S M → wX6_widestField_67 K6' post' v0 v1 v2 v3 M → wX6_widestField_67 K6 post (v0.map g) v1 v2 v3 S := by
  intro v0 v1 v2 v3 S M h hw
  unfold wX6_widestField_67 at hw ⊢
  exact hK6 _ _ _ _ _ _ h hw
set_option maxRecDepth 100000 in
set_option maxHeartbeats 4000000 in
theorem rX6_widestField_17 {g : Nat → Nat} {K6 K6' : Option Nat → Int32 → Int32 → Int32 → Pool → Prop} {post post' : Int32 → Pool → Prop} (hp : ∀ v S M, CR g S M → post' v M → post v S) (hK6 : ∀ (v0 : Option Nat) (v1 : Int32) (v2 : Int32) (v3 : Int32) (S M : Pool), CR g S M → K6' v0 v1 v2 v3 M → K6 (v0.map g) v1 v2 v3 S) : ∀ (n : Nat) (v0 : Option Nat) (v1 : Int32) (v2 : Int32) (v3 : Int32) (v4 : Int32) (v5 : Int32) (S M : Pool), CR g S M → wX6_widestField_17 K6' post' n v0 v1 v2 v3 v4 v5 M → wX6_widestField_17 K6 post n (v0.map g) v1 v2 v3 v4 v5 S := by
  intro n
  induction n with
  | zero => intro v0 v1 v2 v3 v4 v5 S M h hw; exact False.elim hw
  | succ n ih =>
    intro v0 v1 v2 v3 v4 v5 S M h hw
    unfold wX6_widestField_17 at hw ⊢
    refine cr_I h hw (fun a1 hw => ?_)
    refine ⟨fun c2 => ?_, fun c2 => ?_⟩
    · have hw := hw.1 c2
      refine rJ6_bitCount_0f7a4 (fun a3 S M h hw => ?_) _ _ _ h hw
      refine ⟨fun c4 => ?_, fun c4 => ?_⟩
      · have hw := hw.1 c4
        exact rX6_widestField_67 hp hK6 _ _ _ _ _ _ h hw
      · have hw := hw.2 c4
        refine rJ6_bitCount_0f7a4 (fun a5 S M h hw => ?_) _ _ _ h hw
        exact rX6_widestField_67 hp hK6 _ _ _ _ _ _ h hw
    · have hw := hw.2 c2
      refine cr_R h hw (fun a6 hw => ?_)
      refine cr_aR h hw (fun a7 hw => ?_)
      refine cr_rc h hw (fun hw => ?_)
      refine rX0_valueIn (fun a8 S M h hw => ?_) _ _ _ _ h hw
      exact ih _ _ _ _ _ _ _ _ h hw
set_option maxRecDepth 100000 in
set_option maxHeartbeats 4000000 in
theorem rX6_widestField_6 {g : Nat → Nat} {post post' : Int32 → Pool → Prop} (hp : ∀ v S M, CR g S M → post' v M → post v S) : ∀ (n : Nat) (v0 : Option Nat) (v1 : Int32) (v2 : Int32) (v3 : Int32) (S M : Pool), CR g S M → wX6_widestField_6 post' n v0 v1 v2 v3 M → wX6_widestField_6 post n (v0.map g) v1 v2 v3 S := by
  intro n
  induction n with
  | zero => intro v0 v1 v2 v3 S M h hw; exact False.elim hw
  | succ n ih =>
    intro v0 v1 v2 v3 S M h hw
    unfold wX6_widestField_6 at hw ⊢
    refine ⟨fun c1 => ?_, fun c1 => ?_⟩
    · have hw := hw.1 c1
      exact hp _ _ _ h hw
    · have hw := hw.2 c1
      obtain ⟨n1, hw⟩ := hw
      exact ⟨n1, rX6_widestField_17 hp ih n1 _ _ _ _ _ _ _ _ h hw⟩
set_option maxRecDepth 100000 in
set_option maxHeartbeats 4000000 in
theorem rX6_widestField {g : Nat → Nat} {post post' : Int32 → Pool → Prop} (hp : ∀ v S M, CR g S M → post' v M → post v S) : ∀ (v0 : Option Nat) (S M : Pool), CR g S M → wX6_widestField post' v0 M → wX6_widestField post (v0.map g) S := by
  intro v0 S M h hw
  unfold wX6_widestField at hw ⊢
  obtain ⟨n1, hw⟩ := hw
  exact ⟨n1, rX6_widestField_6 hp n1 _ _ _ _ _ _ h hw⟩
