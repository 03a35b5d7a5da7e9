-- X4_sortAt
set_option maxRecDepth 100000 in
set_option maxHeartbeats 4000000 in
theorem rX4_sortAt_55 {g : Nat → Nat} {post post' : Int32 → Pool → Prop} (hp : ∀ v S M, CR g S M → post' v M → post v S) : ∀ (v2 : Int32) (S M : Pool), CR g S M → wX4_sortAt_55 post' v2 M → wX4_sortAt_55 post v2 S := by
  intro v2 S M h hw
  unfold wX4_sortAt_55 at hw ⊢
  refine ⟨fun c1 => ?_, fun c1 => ?_⟩
  · have hw := hw.1 c1
    exact hp _ _ _ h hw
  · have hw := hw.2 c1
    exact hp _ _ _ h hw
set_option maxRecDepth 100000 in
set_option maxHeartbeats 4000000 in
theorem rX4_sortAt_41 {g : Nat → Nat} {post post' : Int32 → Pool → Prop} (hp : ∀ v S M, CR g S M → post' v M → post v S) : ∀ (v2 : Int32) (S M : Pool), CR g S M → wX4_sortAt_41 post' v2 M → wX4_sortAt_41 post v2 S := by
  intro v2 S M h hw
  unfold wX4_sortAt_41 at hw ⊢
  refine ⟨fun c1 => ?_, fun c1 => ?_⟩
  · have hw := hw.1 c1
    exact rX4_sortAt_55 hp _ _ _ h hw
  · have hw := hw.2 c1
    refine ⟨fun c2 => ?_, fun c2 => ?_⟩
    · have hw := hw.1 c2
      exact rX4_sortAt_55 hp _ _ _ h hw
    · have hw := hw.2 c2
      exact hp _ _ _ h hw
set_option maxRecDepth 100000 in
set_option maxHeartbeats 4000000 in
theorem rX4_sortAt {g : Nat → Nat} {post post' : Int32 → Pool → Prop} (hp : ∀ v S M, CR g S M → post' v M → post v S) : ∀ (v0 : Option Nat) (v1 : Int32) (S M : Pool), CR g S M → wX4_sortAt post' v0 v1 M → wX4_sortAt post (v0.map g) v1 S := by
  intro v0 v1 S M h hw
  unfold wX4_sortAt at hw ⊢
  refine ⟨fun c1 => ?_, fun c1 => ?_⟩
  · have hw := hw.1 c1
    exact hp _ _ _ h hw
  · have hw := hw.2 c1
    refine cr_R h hw (fun a2 hw => ?_)
    refine cr_I h hw (fun a3 hw => ?_)
    refine ⟨fun c4 => ?_, fun c4 => ?_⟩
    · have hw := hw.1 c4
      refine cr_R h hw (fun a5 hw => ?_)
      refine cr_R h hw (fun a6 hw => ?_)
      refine cr_aI h hw (fun a7 hw => ?_)
      refine ⟨fun c8 => ?_, fun c8 => ?_⟩
      · have hw := hw.1 c8
        exact rX4_sortAt_41 hp _ _ _ h hw
      · have hw := hw.2 c8
        refine ⟨fun c9 => ?_, fun c9 => ?_⟩
        · have hw := hw.1 c9
          exact rX4_sortAt_41 hp _ _ _ h hw
        · have hw := hw.2 c9
          exact hp _ _ _ h hw
    · have hw := hw.2 c4
      exact hp _ _ _ h hw
-- X4_advance
set_option maxRecDepth 100000 in
set_option maxHeartbeats 4000000 in
theorem rX4_advance_108 {g : Nat → Nat} {post post' : Pool → Prop} (hp : ∀ S M, CR g S M → post' M → post S) : ∀ (v0 : Option Nat) (v1 : Int32) (S M : Pool), CR g S M → wX4_advance_108 post' v0 v1 M → wX4_advance_108 post (v0.map g) v1 S := by
  intro v0 v1 S M h hw
  unfold wX4_advance_108 at hw ⊢
  refine cr_R h hw (fun a1 hw => ?_)
  refine cr_I h hw (fun a2 hw => ?_)
  refine cr_pI h hw (fun S M h hw => ?_)
  exact hp _ _ h hw
set_option maxRecDepth 100000 in
set_option maxHeartbeats 4000000 in
theorem rX4_advance_75 {g : Nat → Nat} {post post' : Pool → Prop} (hp : ∀ S M, CR g S M → post' M → post S) : ∀ (n : Nat) (v0 : Option Nat) (v1 : Int32) (v2 : Int32) (S M : Pool), CR g S M → wX4_advance_75 post' n v0 v1 v2 M → wX4_advance_75 post n (v0.map g) v1 v2 S := by
  intro n
  induction n with
  | zero => intro v0 v1 v2 S M h hw; exact False.elim hw
  | succ n ih =>
    intro v0 v1 v2 S M h hw
    unfold wX4_advance_75 at hw ⊢
    refine ⟨fun c1 => ?_, fun c1 => ?_⟩
    · have hw := hw.1 c1
      exact rX4_advance_108 hp _ _ _ _ h hw
    · have hw := hw.2 c1
      refine cr_R h hw (fun a2 hw => ?_)
      refine cr_I h hw (fun a3 hw => ?_)
      refine ⟨fun c4 => ?_, fun c4 => ?_⟩
      · have hw := hw.1 c4
        exact rX4_advance_108 hp _ _ _ _ h hw
      · have hw := hw.2 c4
        refine cr_rc h hw (fun hw => ?_)
        refine rX4_sortAt (fun a5 S M h hw => ?_) _ _ _ _ h hw
        refine cr_I h hw (fun a6 hw => ?_)
        refine ⟨fun c7 => ?_, fun c7 => ?_⟩
        · have hw := hw.1 c7
          exact ih _ _ _ _ _ h hw
        · have hw := hw.2 c7
          exact rX4_advance_108 hp _ _ _ _ h hw
set_option maxRecDepth 100000 in
set_option maxHeartbeats 4000000 in
theorem rX4_advance_71 {g : Nat → Nat} {post post' : Pool → Prop} (hp : ∀ S M, CR g S M → post' M → post S) : ∀ (v0 : Option Nat) (v1 : Int32) (z0 : Int32) (S M : Pool), CR g S M → wX4_advance_71 post' v0 v1 z0 M → wX4_advance_71 post (v0.map g) v1 z0 S := by
  intro v0 v1 z0 S M h hw
  unfold wX4_advance_71 at hw ⊢
  obtain ⟨n1, hw⟩ := hw
  exact ⟨n1, rX4_advance_75 hp n1 _ _ _ _ _ h hw⟩
set_option maxRecDepth 100000 in
set_option maxHeartbeats 4000000 in
theorem rX4_advance_66 {g : Nat → Nat} {post post' : Pool → Prop} (hp : ∀ S M, CR g S M → post' M → post S) : ∀ (v0 : Option Nat) (v1 : Int32) (S M : Pool), CR g S M → wX4_advance_66 post' v0 v1 M → wX4_advance_66 post (v0.map g) v1 S := by
  intro v0 v1 S M h hw
  unfold wX4_advance_66 at hw ⊢
  exact rX4_advance_71 hp _ _ _ _ _ h hw
set_option maxRecDepth 100000 in
set_option maxHeartbeats 4000000 in
theorem rX4_advance_36 {g : Nat → Nat} {post post' : Pool → Prop} (hp : ∀ S M, CR g S M → post' M → post S) : ∀ (v0 : Option Nat) (v1 : Int32) (S M : Pool), CR g S M → wX4_advance_36 post' v0 v1 M → wX4_advance_36 post (v0.map g) v1 S := by
  intro v0 v1 S M h hw
  unfold wX4_advance_36 at hw ⊢
  refine cr_pI h hw (fun S M h hw => ?_)
  refine cr_rc h hw (fun hw => ?_)
  refine rX4_sortAt (fun a1 S M h hw => ?_) _ _ _ _ h hw
  refine cr_pI h hw (fun S M h hw => ?_)
  refine cr_I h hw (fun a2 hw => ?_)
  refine ⟨fun c3 => ?_, fun c3 => ?_⟩
  · have hw := hw.1 c3
    exact rX4_advance_66 hp _ _ _ _ h hw
  · have hw := hw.2 c3
    refine cr_I h hw (fun a4 hw => ?_)
    refine ⟨fun c5 => ?_, fun c5 => ?_⟩
    · have hw := hw.1 c5
      exact rX4_advance_66 hp _ _ _ _ h hw
    · have hw := hw.2 c5
      exact rX4_advance_71 hp _ _ _ _ _ h hw
set_option maxRecDepth 100000 in
set_option maxHeartbeats 4000000 in
theorem rX4_advance_5 {g : Nat → Nat} {post post' : Pool → Prop} (hp : ∀ S M, CR g S M → post' M → post S) : ∀ (n : Nat) (v0 : Option Nat) (v1 : Int32) (S M : Pool), CR g S M → wX4_advance_5 post' n v0 v1 M → wX4_advance_5 post n (v0.map g) v1 S := by
  intro n
  induction n with
  | zero => intro v0 v1 S M h hw; exact False.elim hw
  | succ n ih =>
    intro v0 v1 S M h hw
    unfold wX4_advance_5 at hw ⊢
    refine cr_R h hw (fun a1 hw => ?_)
    refine cr_I h hw (fun a2 hw => ?_)
    refine ⟨fun c3 => ?_, fun c3 => ?_⟩
    · have hw := hw.1 c3
      exact rX4_advance_36 hp _ _ _ _ h hw
    · have hw := hw.2 c3
      refine cr_R h hw (fun a4 hw => ?_)
      refine cr_R h hw (fun a5 hw => ?_)
      refine cr_aI h hw (fun a6 hw => ?_)
      refine ⟨fun c7 => ?_, fun c7 => ?_⟩
      · have hw := hw.1 c7
        exact ih _ _ _ _ h hw
      · have hw := hw.2 c7
        exact rX4_advance_36 hp _ _ _ _ h hw
set_option maxRecDepth 100000 in
set_option maxHeartbeats 4000000 in
theorem rX4_advance {g : Nat → Nat} {post post' : Pool → Prop} (hp : ∀ S M, CR g S M → post' M → post S) : ∀ (v0 : Option Nat) (S M : Pool), CR g S M → wX4_advance post' v0 M → wX4_advance post (v0.map g) S := by
  intro v0 S M h hw
  unfold wX4_advance at hw ⊢
  refine cr_I h hw (fun a1 hw => ?_)
  obtain ⟨n1, hw⟩ := hw
  exact ⟨n1, rX4_advance_5 hp n1 _ _ _ _ h hw⟩
-- X4_isAt
set_option maxRecDepth 100000 in
set_option maxHeartbeats 4000000 in
theorem rX4_isAt_30 {g : Nat → Nat} {post post' : Int32 → Pool → Prop} (hp : ∀ v S M, CR g S M → post' v M → post v S) : ∀ (n : Nat) (v0 : Option Nat) (v1 : Nat) (v2 : Int32) (v3 : Int32) (S M : Pool), CR g S M → wX4_isAt_30 post' n v0 v1 v2 v3 M → wX4_isAt_30 post n (v0.map g) v1 v2 v3 S := by
  intro n
  induction n with
  | zero => intro v0 v1 v2 v3 S M h hw; exact False.elim hw
  | succ n ih =>
    intro v0 v1 v2 v3 S M h hw
    unfold wX4_isAt_30 at hw ⊢
    refine ⟨fun c1 => ?_, fun c1 => ?_⟩
    · have hw := hw.1 c1
      exact ⟨hw.1, hp _ _ _ h hw.2⟩
    · have hw := hw.2 c1
      refine cr_I h hw (fun a2 hw => ?_)
      refine cr_R h hw (fun a3 hw => ?_)
      refine cr_I h hw (fun a4 hw => ?_)
      refine ⟨fun c5 => ?_, fun c5 => ?_⟩
      · have hw := hw.1 c5
        exact ⟨hw.1, hp _ _ _ h hw.2⟩
      · have hw := hw.2 c5
        refine cr_R h hw (fun a6 hw => ?_)
        refine cr_R h hw (fun a7 hw => ?_)
        refine cr_I h hw (fun a8 hw => ?_)
        refine cr_aI h hw (fun a9 hw => ?_)
        refine xsc_m hw (fun a10 hw => ?_)
        refine ⟨fun c11 => ?_, fun c11 => ?_⟩
        · have hw := hw.1 c11
          exact ih _ _ _ _ _ _ h hw
        · have hw := hw.2 c11
          exact ⟨hw.1, hp _ _ _ h hw.2⟩
set_option maxRecDepth 100000 in
set_option maxHeartbeats 4000000 in
theorem rX4_isAt {g : Nat → Nat} {post post' : Int32 → Pool → Prop} (hp : ∀ v S M, CR g S M → post' v M → post v S) : ∀ (v0 : Option Nat) (v1 : Nat) (S M : Pool), CR g S M → wX4_isAt post' v0 v1 M → wX4_isAt post (v0.map g) v1 S := by
  intro v0 v1 S M h hw
  unfold wX4_isAt at hw ⊢
  refine xsl_m hw (fun a1 hw => ?_)
  refine cr_I h hw (fun a2 hw => ?_)
  refine ⟨fun c3 => ?_, fun c3 => ?_⟩
  · have hw := hw.1 c3
    refine cr_I h hw (fun a4 hw => ?_)
    refine cr_I h hw (fun a5 hw => ?_)
    refine ⟨fun c6 => ?_, fun c6 => ?_⟩
    · have hw := hw.1 c6
      obtain ⟨n1, hw⟩ := hw
      exact ⟨n1, rX4_isAt_30 hp n1 _ _ _ _ _ _ h hw⟩
    · have hw := hw.2 c6
      exact ⟨hw.1, hp _ _ _ h hw.2⟩
  · have hw := hw.2 c3
    exact ⟨hw.1, hp _ _ _ h hw.2⟩
-- X4_fieldHere
set_option maxRecDepth 100000 in
set_option maxHeartbeats 4000000 in
theorem rX4_fieldHere {g : Nat → Nat} {post post' : Int32 → Pool → Prop} (hp : ∀ v S M, CR g S M → post' v M → post v S) : ∀ (v0 : Option Nat) (S M : Pool), CR g S M → wX4_fieldHere post' v0 M → wX4_fieldHere post (v0.map g) S := by
  intro v0 S M h hw
  unfold wX4_fieldHere at hw ⊢
  refine cr_rc h hw (fun hw => ?_)
  refine rX4_isAt (fun a1 S M h hw => ?_) _ _ _ _ h hw
  refine ⟨fun c2 => ?_, fun c2 => ?_⟩
  · have hw := hw.1 c2
    refine cr_rc h hw (fun hw => ?_)
    refine rX4_isAt (fun a3 S M h hw => ?_) _ _ _ _ h hw
    refine ⟨fun c4 => ?_, fun c4 => ?_⟩
    · have hw := hw.1 c4
      refine cr_rc h hw (fun hw => ?_)
      refine rX4_isAt (fun a5 S M h hw => ?_) _ _ _ _ h hw
      refine ⟨fun c6 => ?_, fun c6 => ?_⟩
      · have hw := hw.1 c6
        exact hp _ _ _ h hw
      · have hw := hw.2 c6
        exact hp _ _ _ h hw
    · have hw := hw.2 c4
      exact hp _ _ _ h hw
  · have hw := hw.2 c2
    exact hp _ _ _ h hw
-- X4_readsBy
set_option maxRecDepth 100000 in
set_option maxHeartbeats 4000000 in
theorem rX4_readsBy {g : Nat → Nat} {post post' : Int32 → Pool → Prop} (hp : ∀ v S M, CR g S M → post' v M → post v S) : ∀ (v0 : Option Nat) (v1 : Option Nat) (S M : Pool), CR g S M → wX4_readsBy post' v0 v1 M → wX4_readsBy post (v0.map g) (v1.map g) S := by
  intro v0 v1 S M h hw
  unfold wX4_readsBy at hw ⊢
  refine cr_rc h hw (fun hw => ?_)
  refine rX3_clear (fun S M h hw => ?_) _ _ _ h hw
  refine cr_pZ h hw (fun S M h hw => ?_)
  refine cr_pZ h hw (fun S M h hw => ?_)
  refine cr_pI h hw (fun S M h hw => ?_)
  refine cr_rc h hw (fun hw => ?_)
  refine rX4_advance (fun S M h hw => ?_) _ _ _ h hw
  refine cr_rc h hw (fun hw => ?_)
  refine rX4_isAt (fun a1 S M h hw => ?_) _ _ _ _ h hw
  refine ⟨fun c2 => ?_, fun c2 => ?_⟩
  · have hw := hw.1 c2
    exact ⟨hw.1, hp _ _ _ h hw.2⟩
  · have hw := hw.2 c2
    refine cr_rc h hw (fun hw => ?_)
    refine rX4_advance (fun S M h hw => ?_) _ _ _ h hw
    refine cr_rc h hw (fun hw => ?_)
    refine rX4_fieldHere (fun a3 S M h hw => ?_) _ _ _ h hw
    refine cr_pI h hw (fun S M h hw => ?_)
    refine cr_I h hw (fun a4 hw => ?_)
    refine ⟨fun c5 => ?_, fun c5 => ?_⟩
    · have hw := hw.1 c5
      exact ⟨hw.1, hp _ _ _ h hw.2⟩
    · have hw := hw.2 c5
      refine cr_I h hw (fun a6 hw => ?_)
      refine cr_rc h hw (fun hw => ?_)
      refine rX3_note (fun S M h hw => ?_) _ _ _ _ h hw
      refine cr_rc h hw (fun hw => ?_)
      refine rX4_advance (fun S M h hw => ?_) _ _ _ h hw
      exact ⟨hw.1, hp _ _ _ h hw.2⟩
-- X4_numberHere
set_option maxRecDepth 100000 in
set_option maxHeartbeats 4000000 in
theorem rX4_numberHere_78 {g : Nat → Nat} {post post' : Int32 → Pool → Prop} (hp : ∀ v S M, CR g S M → post' v M → post v S) : ∀ (v1 : Int32) (v2 : Int32) (v3 : Int32) (S M : Pool), CR g S M → wX4_numberHere_78 post' v1 v2 v3 M → wX4_numberHere_78 post v1 v2 v3 S := by
  intro v1 v2 v3 S M h hw
  unfold wX4_numberHere_78 at hw ⊢
  refine ⟨fun c1 => ?_, fun c1 => ?_⟩
  · have hw := hw.1 c1
    exact hp _ _ _ h hw
  · have hw := hw.2 c1
    refine ⟨fun c2 => ?_, fun c2 => ?_⟩
    · have hw := hw.1 c2
      exact hp _ _ _ h hw
    · have hw := hw.2 c2
      exact hp _ _ _ h hw
set_option maxRecDepth 100000 in
set_option maxHeartbeats 4000000 in
theorem rX4_numberHere_32 {g : Nat → Nat} {post post' : Int32 → Pool → Prop} (hp : ∀ v S M, CR g S M → post' v M → post v S) : ∀ (n : Nat) (v0 : Option Nat) (v1 : Int32) (v2 : Int32) (v3 : Int32) (v4 : Int32) (S M : Pool), CR g S M → wX4_numberHere_32 post' n v0 v1 v2 v3 v4 M → wX4_numberHere_32 post n (v0.map g) v1 v2 v3 v4 S := by
  intro n
  induction n with
  | zero => intro v0 v1 v2 v3 v4 S M h hw; exact False.elim hw
  | succ n ih =>
    intro v0 v1 v2 v3 v4 S M h hw
    unfold wX4_numberHere_32 at hw ⊢
    refine cr_I h hw (fun a1 hw => ?_)
    refine ⟨fun c2 => ?_, fun c2 => ?_⟩
    · have hw := hw.1 c2
      exact rX4_numberHere_78 hp _ _ _ _ _ h hw
    · have hw := hw.2 c2
      refine cr_R h hw (fun a3 hw => ?_)
      refine cr_I h hw (fun a4 hw => ?_)
      refine ⟨fun c5 => ?_, fun c5 => ?_⟩
      · have hw := hw.1 c5
        exact rX4_numberHere_78 hp _ _ _ _ _ h hw
      · have hw := hw.2 c5
        refine cr_R h hw (fun a6 hw => ?_)
        refine cr_R h hw (fun a7 hw => ?_)
        refine cr_aI h hw (fun a8 hw => ?_)
        exact ih _ _ _ _ _ _ _ h hw
set_option maxRecDepth 100000 in
set_option maxHeartbeats 4000000 in
theorem rX4_numberHere {g : Nat → Nat} {post post' : Int32 → Pool → Prop} (hp : ∀ v S M, CR g S M → post' v M → post v S) : ∀ (v0 : Option Nat) (v1 : Int32) (v2 : Int32) (S M : Pool), CR g S M → wX4_numberHere post' v0 v1 v2 M → wX4_numberHere post (v0.map g) v1 v2 S := by
  intro v0 v1 v2 S M h hw
  unfold wX4_numberHere at hw ⊢
  refine cr_I h hw (fun a1 hw => ?_)
  refine ⟨fun c2 => ?_, fun c2 => ?_⟩
  · have hw := hw.1 c2
    refine cr_I h hw (fun a3 hw => ?_)
    refine cr_I h hw (fun a4 hw => ?_)
    refine ⟨fun c5 => ?_, fun c5 => ?_⟩
    · have hw := hw.1 c5
      refine cr_I h hw (fun a6 hw => ?_)
      obtain ⟨n1, hw⟩ := hw
      exact ⟨n1, rX4_numberHere_32 hp n1 _ _ _ _ _ _ _ h hw⟩
    · have hw := hw.2 c5
      exact hp _ _ _ h hw
  · have hw := hw.2 c2
    exact hp _ _ _ h hw
-- X4_readsSpread
set_option maxRecDepth 100000 in
set_option maxHeartbeats 4000000 in
theorem rX4_readsSpread {g : Nat → Nat} {post post' : Int32 → Pool → Prop} (hp : ∀ v S M, CR g S M → post' v M → post v S) : ∀ (v0 : Option Nat) (v1 : Option Nat) (S M : Pool), CR g S M → wX4_readsSpread post' v0 v1 M → wX4_readsSpread post (v0.map g) (v1.map g) S := by
  intro v0 v1 S M h hw
  unfold wX4_readsSpread at hw ⊢
  refine cr_rc h hw (fun hw => ?_)
  refine rX4_advance (fun S M h hw => ?_) _ _ _ h hw
  refine cr_rc h hw (fun hw => ?_)
  refine rX4_fieldHere (fun a1 S M h hw => ?_) _ _ _ h hw
  refine cr_pI h hw (fun S M h hw => ?_)
  refine cr_I h hw (fun a2 hw => ?_)
  refine ⟨fun c3 => ?_, fun c3 => ?_⟩
  · have hw := hw.1 c3
    exact ⟨hw.1, hp _ _ _ h hw.2⟩
  · have hw := hw.2 c3
    refine cr_I h hw (fun a4 hw => ?_)
    refine cr_rc h hw (fun hw => ?_)
    refine rX3_note (fun S M h hw => ?_) _ _ _ _ h hw
    refine cr_rc h hw (fun hw => ?_)
    refine rX4_advance (fun S M h hw => ?_) _ _ _ h hw
    refine cr_rc h hw (fun hw => ?_)
    refine rX4_numberHere (fun a5 S M h hw => ?_) _ _ _ _ _ h hw
    refine cr_pI h hw (fun S M h hw => ?_)
    refine cr_I h hw (fun a6 hw => ?_)
    refine ⟨fun c7 => ?_, fun c7 => ?_⟩
    · have hw := hw.1 c7
      exact ⟨hw.1, hp _ _ _ h hw.2⟩
    · have hw := hw.2 c7
      refine cr_rc h hw (fun hw => ?_)
      refine rX4_advance (fun S M h hw => ?_) _ _ _ h hw
      refine cr_rc h hw (fun hw => ?_)
      refine rX4_isAt (fun a8 S M h hw => ?_) _ _ _ _ h hw
      refine ⟨fun c9 => ?_, fun c9 => ?_⟩
      · have hw := hw.1 c9
        exact ⟨hw.1, hp _ _ _ h hw.2⟩
      · have hw := hw.2 c9
        refine cr_rc h hw (fun hw => ?_)
        refine rX4_advance (fun S M h hw => ?_) _ _ _ h hw
        refine cr_rc h hw (fun hw => ?_)
        refine rX4_numberHere (fun a10 S M h hw => ?_) _ _ _ _ _ h hw
        refine cr_pI h hw (fun S M h hw => ?_)
        refine cr_I h hw (fun a11 hw => ?_)
        refine ⟨fun c12 => ?_, fun c12 => ?_⟩
        · have hw := hw.1 c12
          exact ⟨hw.1, hp _ _ _ h hw.2⟩
        · have hw := hw.2 c12
          refine cr_rc h hw (fun hw => ?_)
          refine rX4_advance (fun S M h hw => ?_) _ _ _ h hw
          refine cr_I h hw (fun a13 hw => ?_)
          refine ⟨fun c14 => ?_, fun c14 => ?_⟩
          · have hw := hw.1 c14
            exact ⟨hw.1, hp _ _ _ h hw.2⟩
          · have hw := hw.2 c14
            exact ⟨hw.1, hp _ _ _ h hw.2⟩
-- X4_readsConds
set_option maxRecDepth 100000 in
set_option maxHeartbeats 4000000 in
theorem rX4_readsConds_49 {g : Nat → Nat} {K2 K2' : Option Nat → Option Nat → Option Nat → Int32 → Pool → Prop} {post post' : Int32 → Pool → Prop} (hp : ∀ v S M, CR g S M → post' v M → post v S) (hK2 : ∀ (v0 : Option Nat) (v1 : Option Nat) (v2 : Option Nat) (v3 : Int32) (S M : Pool), CR g S M → K2' v0 v1 v2 v3 M → K2 (v0.map g) (v1.map g) (v2.map g) v3 S) : ∀ (v0 : Option Nat) (v1 : Option Nat) (v2 : Option Nat) (v3 : Int32) (v4 : Int32) (z0 : Int32) (z1 : Int32) (z2 : Option Nat) (S M : Pool), CR g S M → wX4_readsConds_49 K2' post' v0 v1 v2 v3 v4 z0 z1 z2 M → wX4_readsConds_49 K2 post (v0.map g) (v1.map g) (v2.map g) v3 v4 z0 z1 (z2.map g) S := by
  intro v0 v1 v2 v3 v4 z0 z1 z2 S M h hw
  unfold wX4_readsConds_49 at hw ⊢
  refine cr_rc h hw (fun hw => ?_)
  refine rX4_numberHere (fun a1 S M h hw => ?_) _ _ _ _ _ h hw
  refine ⟨fun c2 => ?_, fun c2 => ?_⟩
  · have hw := hw.1 c2
    exact ⟨hw.1, hp _ _ _ h hw.2⟩
  · have hw := hw.2 c2
    refine cr_rc h hw (fun hw => ?_)
    refine rX5_tell (fun S M h hw => ?_) _ _ _ _ _ h hw
    refine cr_rc h hw (fun hw => ?_)
    refine rX3_note (fun S M h hw => ?_) _ _ _ _ h hw
    refine cr_rc h hw (fun hw => ?_)
    refine rX4_advance (fun S M h hw => ?_) _ _ _ h hw
    exact hK2 _ _ _ _ _ _ h hw
set_option maxRecDepth 100000 in
set_option maxHeartbeats 4000000 in
theorem rX4_readsConds_2 {g : Nat → Nat} {post post' : Int32 → Pool → Prop} (hp : ∀ v S M, CR g S M → post' v M → post v S) : ∀ (n : Nat) (v0 : Option Nat) (v1 : Option Nat) (v2 : Option Nat) (v3 : Int32) (S M : Pool), CR g S M → wX4_readsConds_2 post' n v0 v1 v2 v3 M → wX4_readsConds_2 post n (v0.map g) (v1.map g) (v2.map g) v3 S := by
  intro n
  induction n with
  | zero => intro v0 v1 v2 v3 S M h hw; exact False.elim hw
  | succ n ih =>
    intro v0 v1 v2 v3 S M h hw
    unfold wX4_readsConds_2 at hw ⊢
    refine ⟨fun c1 => ?_, fun c1 => ?_⟩
    · have hw := hw.1 c1
      exact ⟨hw.1, hp _ _ _ h hw.2⟩
    · have hw := hw.2 c1
      refine cr_rc h hw (fun hw => ?_)
      refine rX4_fieldHere (fun a2 S M h hw => ?_) _ _ _ h hw
      refine ⟨fun c3 => ?_, fun c3 => ?_⟩
      · have hw := hw.1 c3
        exact ⟨hw.1, hp _ _ _ h hw.2⟩
      · have hw := hw.2 c3
        refine cr_rc h hw (fun hw => ?_)
        refine rX5_tells (fun a4 S M h hw => ?_) _ _ _ _ h hw
        refine ⟨fun c5 => ?_, fun c5 => ?_⟩
        · have hw := hw.1 c5
          refine cr_rc h hw (fun hw => ?_)
          refine rX4_advance (fun S M h hw => ?_) _ _ _ h hw
          refine ⟨fun c6 => ?_, fun c6 => ?_⟩
          · have hw := hw.1 c6
            exact rX4_readsConds_49 hp ih _ _ _ _ _ _ _ _ _ _ h hw
          · have hw := hw.2 c6
            exact rX4_readsConds_49 hp ih _ _ _ _ _ _ _ _ _ _ h hw
        · have hw := hw.2 c5
          exact ⟨hw.1, hp _ _ _ h hw.2⟩
set_option maxRecDepth 100000 in
set_option maxHeartbeats 4000000 in
theorem rX4_readsConds {g : Nat → Nat} {post post' : Int32 → Pool → Prop} (hp : ∀ v S M, CR g S M → post' v M → post v S) : ∀ (v0 : Option Nat) (v1 : Option Nat) (v2 : Option Nat) (S M : Pool), CR g S M → wX4_readsConds post' v0 v1 v2 M → wX4_readsConds post (v0.map g) (v1.map g) (v2.map g) S := by
  intro v0 v1 v2 S M h hw
  unfold wX4_readsConds at hw ⊢
  obtain ⟨n1, hw⟩ := hw
  exact ⟨n1, rX4_readsConds_2 hp n1 _ _ _ _ _ _ h hw⟩
-- X4_readsTail
set_option maxRecDepth 100000 in
set_option maxHeartbeats 4000000 in
theorem rX4_readsTail_126 {g : Nat → Nat} {post post' : Int32 → Pool → Prop} (hp : ∀ v S M, CR g S M → post' v M → post v S) : ∀ (z0 : Int32) (z1 : Option Nat) (S M : Pool), CR g S M → wX4_readsTail_126 post' z0 z1 M → wX4_readsTail_126 post z0 (z1.map g) S := by
  intro z0 z1 S M h hw
  unfold wX4_readsTail_126 at hw ⊢
  refine cr_pZ h hw (fun S M h hw => ?_)
  exact ⟨hw.1, hp _ _ _ h hw.2⟩
set_option maxRecDepth 100000 in
set_option maxHeartbeats 4000000 in
theorem rX4_readsTail_125 {g : Nat → Nat} {post post' : Int32 → Pool → Prop} (hp : ∀ v S M, CR g S M → post' v M → post v S) : ∀ (z0 : Option Nat) (S M : Pool), CR g S M → wX4_readsTail_125 post' z0 M → wX4_readsTail_125 post (z0.map g) S := by
  intro z0 S M h hw
  unfold wX4_readsTail_125 at hw ⊢
  exact rX4_readsTail_126 hp _ _ _ _ h hw
set_option maxRecDepth 100000 in
set_option maxHeartbeats 4000000 in
theorem rX4_readsTail_121 {g : Nat → Nat} {post post' : Int32 → Pool → Prop} (hp : ∀ v S M, CR g S M → post' v M → post v S) : ∀ (z0 : Option Nat) (S M : Pool), CR g S M → wX4_readsTail_121 post' z0 M → wX4_readsTail_121 post (z0.map g) S := by
  intro z0 S M h hw
  unfold wX4_readsTail_121 at hw ⊢
  exact rX4_readsTail_126 hp _ _ _ _ h hw
set_option maxRecDepth 100000 in
set_option maxHeartbeats 4000000 in
theorem rX4_readsTail_95 {g : Nat → Nat} {post post' : Int32 → Pool → Prop} (hp : ∀ v S M, CR g S M → post' v M → post v S) : ∀ (v0 : Option Nat) (v1 : Option Nat) (z0 : Int32) (z1 : Option Nat) (S M : Pool), CR g S M → wX4_readsTail_95 post' v0 v1 z0 z1 M → wX4_readsTail_95 post (v0.map g) (v1.map g) z0 (z1.map g) S := by
  intro v0 v1 z0 z1 S M h hw
  unfold wX4_readsTail_95 at hw ⊢
  refine cr_pZ h hw (fun S M h hw => ?_)
  refine cr_I h hw (fun a1 hw => ?_)
  refine ⟨fun c2 => ?_, fun c2 => ?_⟩
  · have hw := hw.1 c2
    exact rX4_readsTail_125 hp _ _ _ h hw
  · have hw := hw.2 c2
    refine cr_I h hw (fun a3 hw => ?_)
    refine ⟨fun c4 => ?_, fun c4 => ?_⟩
    · have hw := hw.1 c4
      refine cr_I h hw (fun a5 hw => ?_)
      refine ⟨fun c6 => ?_, fun c6 => ?_⟩
      · have hw := hw.1 c6
        exact rX4_readsTail_121 hp _ _ _ h hw
      · have hw := hw.2 c6
        exact rX4_readsTail_125 hp _ _ _ h hw
    · have hw := hw.2 c4
      exact rX4_readsTail_121 hp _ _ _ h hw
set_option maxRecDepth 100000 in
set_option maxHeartbeats 4000000 in
theorem rX4_readsTail_94 {g : Nat → Nat} {post post' : Int32 → Pool → Prop} (hp : ∀ v S M, CR g S M → post' v M → post v S) : ∀ (v0 : Option Nat) (v1 : Option Nat) (z0 : Option Nat) (S M : Pool), CR g S M → wX4_readsTail_94 post' v0 v1 z0 M → wX4_readsTail_94 post (v0.map g) (v1.map g) (z0.map g) S := by
  intro v0 v1 z0 S M h hw
  unfold wX4_readsTail_94 at hw ⊢
  exact rX4_readsTail_95 hp _ _ _ _ _ _ h hw
set_option maxRecDepth 100000 in
set_option maxHeartbeats 4000000 in
theorem rX4_readsTail_90 {g : Nat → Nat} {post post' : Int32 → Pool → Prop} (hp : ∀ v S M, CR g S M → post' v M → post v S) : ∀ (v0 : Option Nat) (v1 : Option Nat) (z0 : Option Nat) (S M : Pool), CR g S M → wX4_readsTail_90 post' v0 v1 z0 M → wX4_readsTail_90 post (v0.map g) (v1.map g) (z0.map g) S := by
  intro v0 v1 z0 S M h hw
  unfold wX4_readsTail_90 at hw ⊢
  exact rX4_readsTail_95 hp _ _ _ _ _ _ h hw
set_option maxRecDepth 100000 in
set_option maxHeartbeats 4000000 in
theorem rX4_readsTail_67 {g : Nat → Nat} {post post' : Int32 → Pool → Prop} (hp : ∀ v S M, CR g S M → post' v M → post v S) : ∀ (v0 : Option Nat) (v1 : Option Nat) (S M : Pool), CR g S M → wX4_readsTail_67 post' v0 v1 M → wX4_readsTail_67 post (v0.map g) (v1.map g) S := by
  intro v0 v1 S M h hw
  unfold wX4_readsTail_67 at hw ⊢
  refine cr_I h hw (fun a1 hw => ?_)
  refine ⟨fun c2 => ?_, fun c2 => ?_⟩
  · have hw := hw.1 c2
    exact rX4_readsTail_94 hp _ _ _ _ _ h hw
  · have hw := hw.2 c2
    refine cr_I h hw (fun a3 hw => ?_)
    refine ⟨fun c4 => ?_, fun c4 => ?_⟩
    · have hw := hw.1 c4
      refine cr_I h hw (fun a5 hw => ?_)
      refine ⟨fun c6 => ?_, fun c6 => ?_⟩
      · have hw := hw.1 c6
        exact rX4_readsTail_94 hp _ _ _ _ _ h hw
      · have hw := hw.2 c6
        exact rX4_readsTail_90 hp _ _ _ _ _ h hw
    · have hw := hw.2 c4
      exact rX4_readsTail_90 hp _ _ _ _ _ h hw
set_option maxRecDepth 100000 in
set_option maxHeartbeats 4000000 in
theorem rX4_readsTail_25 {g : Nat → Nat} {post post' : Int32 → Pool → Prop} (hp : ∀ v S M, CR g S M → post' v M → post v S) : ∀ (v0 : Option Nat) (v1 : Option Nat) (v2 : Int32) (S M : Pool), CR g S M → wX4_readsTail_25 post' v0 v1 v2 M → wX4_readsTail_25 post (v0.map g) (v1.map g) v2 S := by
  intro v0 v1 v2 S M h hw
  unfold wX4_readsTail_25 at hw ⊢
  refine ⟨fun c1 => ?_, fun c1 => ?_⟩
  · have hw := hw.1 c1
    refine cr_rc h hw (fun hw => ?_)
    refine rX4_isAt (fun a2 S M h hw => ?_) _ _ _ _ h hw
    refine ⟨fun c3 => ?_, fun c3 => ?_⟩
    · have hw := hw.1 c3
      exact rX4_readsTail_67 hp _ _ _ _ h hw
    · have hw := hw.2 c3
      refine cr_rc h hw (fun hw => ?_)
      refine rX4_advance (fun S M h hw => ?_) _ _ _ h hw
      refine cr_rc h hw (fun hw => ?_)
      refine rX4_numberHere (fun a4 S M h hw => ?_) _ _ _ _ _ h hw
      refine cr_pI h hw (fun S M h hw => ?_)
      refine cr_I h hw (fun a5 hw => ?_)
      refine ⟨fun c6 => ?_, fun c6 => ?_⟩
      · have hw := hw.1 c6
        exact ⟨hw.1, hp _ _ _ h hw.2⟩
      · have hw := hw.2 c6
        refine cr_rc h hw (fun hw => ?_)
        refine rX4_advance (fun S M h hw => ?_) _ _ _ h hw
        exact rX4_readsTail_67 hp _ _ _ _ h hw
  · have hw := hw.2 c1
    exact rX4_readsTail_67 hp _ _ _ _ h hw
set_option maxRecDepth 100000 in
set_option maxHeartbeats 4000000 in
theorem rX4_readsTail {g : Nat → Nat} {post post' : Int32 → Pool → Prop} (hp : ∀ v S M, CR g S M → post' v M → post v S) : ∀ (v0 : Option Nat) (v1 : Option Nat) (v2 : Int32) (S M : Pool), CR g S M → wX4_readsTail post' v0 v1 v2 M → wX4_readsTail post (v0.map g) (v1.map g) v2 S := by
  intro v0 v1 v2 S M h hw
  unfold wX4_readsTail at hw ⊢
  refine cr_I h hw (fun a1 hw => ?_)
  refine ⟨fun c2 => ?_, fun c2 => ?_⟩
  · have hw := hw.1 c2
    refine cr_rc h hw (fun hw => ?_)
    refine rX4_isAt (fun a3 S M h hw => ?_) _ _ _ _ h hw
    refine ⟨fun c4 => ?_, fun c4 => ?_⟩
    · have hw := hw.1 c4
      exact rX4_readsTail_25 hp _ _ _ _ _ h hw
    · have hw := hw.2 c4
      refine cr_pZ h hw (fun S M h hw => ?_)
      refine cr_rc h hw (fun hw => ?_)
      refine rX4_advance (fun S M h hw => ?_) _ _ _ h hw
      exact rX4_readsTail_25 hp _ _ _ _ _ h hw
  · have hw := hw.2 c2
    exact rX4_readsTail_25 hp _ _ _ _ _ h hw
-- X4_readsStep
set_option maxRecDepth 100000 in
set_option maxHeartbeats 4000000 in
theorem rX4_readsStep_43 {g : Nat → Nat} {post post' : Int32 → Pool → Prop} (hp : ∀ v S M, CR g S M → post' v M → post v S) : ∀ (v0 : Option Nat) (v1 : Option Nat) (v2 : Int32) (v3 : Int32) (S M : Pool), CR g S M → wX4_readsStep_43 post' v0 v1 v2 v3 M → wX4_readsStep_43 post (v0.map g) (v1.map g) v2 v3 S := by
  intro v0 v1 v2 v3 S M h hw
  unfold wX4_readsStep_43 at hw ⊢
  refine cr_rc h hw (fun hw => ?_)
  refine rX3_addStep (fun a1 S M h hw => ?_) _ _ _ _ h hw
  refine ⟨fun c2 => ?_, fun c2 => ?_⟩
  · have hw := cr_n (B := True) hw.1 c2
    exact ⟨hw.1, hp _ _ _ h hw.2⟩
  · have hw := cr_nn hw.2 c2
    refine cr_rc h hw (fun hw => ?_)
    refine rX4_advance (fun S M h hw => ?_) _ _ _ h hw
    refine cr_rc h hw (fun hw => ?_)
    refine rX4_numberHere (fun a3 S M h hw => ?_) _ _ _ _ _ h hw
    refine cr_pI h hw (fun S M h hw => ?_)
    refine cr_I h hw (fun a4 hw => ?_)
    refine ⟨fun c5 => ?_, fun c5 => ?_⟩
    · have hw := hw.1 c5
      exact ⟨hw.1, hp _ _ _ h hw.2⟩
    · have hw := hw.2 c5
      refine cr_rc h hw (fun hw => ?_)
      refine rX4_advance (fun S M h hw => ?_) _ _ _ h hw
      refine cr_rc h hw (fun hw => ?_)
      refine rX4_readsConds (fun a6 S M h hw => ?_) _ _ _ _ _ h hw
      refine ⟨fun c7 => ?_, fun c7 => ?_⟩
      · have hw := hw.1 c7
        exact ⟨hw.1, hp _ _ _ h hw.2⟩
      · have hw := hw.2 c7
        refine cr_rc h hw (fun hw => ?_)
        refine rX4_readsTail (fun a8 S M h hw => ?_) _ _ _ _ _ h hw
        refine ⟨fun c9 => ?_, fun c9 => ?_⟩
        · have hw := hw.1 c9
          exact ⟨hw.1, hp _ _ _ h hw.2⟩
        · have hw := hw.2 c9
          exact ⟨hw.1, hp _ _ _ h hw.2⟩
set_option maxRecDepth 100000 in
set_option maxHeartbeats 4000000 in
theorem rX4_readsStep_21 {g : Nat → Nat} {post post' : Int32 → Pool → Prop} (hp : ∀ v S M, CR g S M → post' v M → post v S) : ∀ (v0 : Option Nat) (v1 : Option Nat) (v2 : Int32) (v3 : Int32) (S M : Pool), CR g S M → wX4_readsStep_21 post' v0 v1 v2 v3 M → wX4_readsStep_21 post (v0.map g) (v1.map g) v2 v3 S := by
  intro v0 v1 v2 v3 S M h hw
  unfold wX4_readsStep_21 at hw ⊢
  refine cr_rc h hw (fun hw => ?_)
  refine rX4_isAt (fun a1 S M h hw => ?_) _ _ _ _ h hw
  refine ⟨fun c2 => ?_, fun c2 => ?_⟩
  · have hw := hw.1 c2
    exact ⟨hw.1, hp _ _ _ h hw.2⟩
  · have hw := hw.2 c2
    refine ⟨fun c3 => ?_, fun c3 => ?_⟩
    · have hw := hw.1 c3
      refine cr_I h hw (fun a4 hw => ?_)
      refine ⟨fun c5 => ?_, fun c5 => ?_⟩
      · have hw := hw.1 c5
        exact rX4_readsStep_43 hp _ _ _ _ _ _ h hw
      · have hw := hw.2 c5
        exact ⟨hw.1, hp _ _ _ h hw.2⟩
    · have hw := hw.2 c3
      exact rX4_readsStep_43 hp _ _ _ _ _ _ h hw
set_option maxRecDepth 100000 in
set_option maxHeartbeats 4000000 in
theorem rX4_readsStep {g : Nat → Nat} {post post' : Int32 → Pool → Prop} (hp : ∀ v S M, CR g S M → post' v M → post v S) : ∀ (v0 : Option Nat) (v1 : Option Nat) (v2 : Int32) (S M : Pool), CR g S M → wX4_readsStep post' v0 v1 v2 M → wX4_readsStep post (v0.map g) (v1.map g) v2 S := by
  intro v0 v1 v2 S M h hw
  unfold wX4_readsStep at hw ⊢
  refine cr_rc h hw (fun hw => ?_)
  refine rX4_isAt (fun a1 S M h hw => ?_) _ _ _ _ h hw
  refine ⟨fun c2 => ?_, fun c2 => ?_⟩
  · have hw := hw.1 c2
    exact rX4_readsStep_21 hp _ _ _ _ _ _ h hw
  · have hw := hw.2 c2
    refine ⟨fun c3 => ?_, fun c3 => ?_⟩
    · have hw := hw.1 c3
      refine cr_rc h hw (fun hw => ?_)
      refine rX4_advance (fun S M h hw => ?_) _ _ _ h hw
      exact rX4_readsStep_21 hp _ _ _ _ _ _ h hw
    · have hw := hw.2 c3
      exact ⟨hw.1, hp _ _ _ h hw.2⟩
-- X4_reads
set_option maxRecDepth 100000 in
set_option maxHeartbeats 4000000 in
theorem rX4_reads_144 {g : Nat → Nat} {K12 K12' : Option Nat → Option Nat → Int32 → Pool → Prop} {post post' : Int32 → Pool → Prop} (hp : ∀ v S M, CR g S M → post' v M → post v S) (hK12 : ∀ (v0 : Option Nat) (v1 : Option Nat) (v2 : Int32) (S M : Pool), CR g S M → K12' v0 v1 v2 M → K12 (v0.map g) (v1.map g) v2 S) : ∀ (v0 : Option Nat) (v1 : Option Nat) (v2 : Int32) (z0 : Int32) (z1 : Option Nat) (z2 : Option Nat) (S M : Pool), CR g S M → wX4_reads_144 K12' post' v0 v1 v2 z0 z1 z2 M → wX4_reads_144 K12 post (v0.map g) (v1.map g) v2 z0 (z1.map g) (z2.map g) S := by
  intro v0 v1 v2 z0 z1 z2 S M h hw
  unfold wX4_reads_144 at hw ⊢
  refine cr_rc h hw (fun hw => ?_)
  refine rX4_readsStep (fun a1 S M h hw => ?_) _ _ _ _ _ h hw
  refine ⟨fun c2 => ?_, fun c2 => ?_⟩
  · have hw := hw.1 c2
    exact ⟨hw.1, hp _ _ _ h hw.2⟩
  · have hw := hw.2 c2
    exact hK12 _ _ _ _ _ h hw
set_option maxRecDepth 100000 in
set_option maxHeartbeats 4000000 in
theorem rX4_reads_128 {g : Nat → Nat} {post post' : Int32 → Pool → Prop} (hp : ∀ v S M, CR g S M → post' v M → post v S) : ∀ (z0 : Int32) (z1 : Option Nat) (S M : Pool), CR g S M → wX4_reads_128 post' z0 z1 M → wX4_reads_128 post z0 (z1.map g) S := by
  intro z0 z1 S M h hw
  unfold wX4_reads_128 at hw ⊢
  refine cr_pI h hw (fun S M h hw => ?_)
  exact ⟨hw.1, hp _ _ _ h hw.2⟩
set_option maxRecDepth 100000 in
set_option maxHeartbeats 4000000 in
theorem rX4_reads_120 {g : Nat → Nat} {post post' : Int32 → Pool → Prop} (hp : ∀ v S M, CR g S M → post' v M → post v S) : ∀ (v3 : Int32) (z0 : Option Nat) (S M : Pool), CR g S M → wX4_reads_120 post' v3 z0 M → wX4_reads_120 post v3 (z0.map g) S := by
  intro v3 z0 S M h hw
  unfold wX4_reads_120 at hw ⊢
  exact rX4_reads_128 hp _ _ _ _ h hw
set_option maxRecDepth 100000 in
set_option maxHeartbeats 4000000 in
theorem rX4_reads_95 {g : Nat → Nat} {K12 K12' : Option Nat → Option Nat → Int32 → Pool → Prop} {post post' : Int32 → Pool → Prop} (hp : ∀ v S M, CR g S M → post' v M → post v S) (hK12 : ∀ (v0 : Option Nat) (v1 : Option Nat) (v2 : Int32) (S M : Pool), CR g S M → K12' v0 v1 v2 M → K12 (v0.map g) (v1.map g) v2 S) : ∀ (v0 : Option Nat) (v1 : Option Nat) (v2 : Int32) (v3 : Int32) (S M : Pool), CR g S M → wX4_reads_95 K12' post' v0 v1 v2 v3 M → wX4_reads_95 K12 post (v0.map g) (v1.map g) v2 v3 S := by
  intro v0 v1 v2 v3 S M h hw
  unfold wX4_reads_95 at hw ⊢
  refine ⟨fun c1 => ?_, fun c1 => ?_⟩
  · have hw := hw.1 c1
    refine cr_rc h hw (fun hw => ?_)
    refine rX4_isAt (fun a3 S M h hw => ?_) _ _ _ _ h hw
    refine ⟨fun c4 => ?_, fun c4 => ?_⟩
    · have hw := hw.1 c4
      refine cr_rc h hw (fun hw => ?_)
      refine rX4_isAt (fun a5 S M h hw => ?_) _ _ _ _ h hw
      refine ⟨fun c6 => ?_, fun c6 => ?_⟩
      · have hw := hw.1 c6
        refine cr_I h hw (fun a7 hw => ?_)
        exact rX4_reads_128 hp _ _ _ _ h hw
      · have hw := hw.2 c6
        exact rX4_reads_120 hp _ _ _ _ h hw
    · have hw := hw.2 c4
      exact rX4_reads_120 hp _ _ _ _ h hw
  · have hw := hw.2 c1
    refine ⟨fun c2 => ?_, fun c2 => ?_⟩
    · have hw := hw.1 c2
      exact rX4_reads_144 hp hK12 _ _ _ _ _ _ _ _ h hw
    · have hw := hw.2 c2
      exact rX4_reads_144 hp hK12 _ _ _ _ _ _ _ _ h hw
set_option maxRecDepth 100000 in
set_option maxHeartbeats 4000000 in
theorem rX4_reads_42 {g : Nat → Nat} {K12 K12' : Option Nat → Option Nat → Int32 → Pool → Prop} {post post' : Int32 → Pool → Prop} (hp : ∀ v S M, CR g S M → post' v M → post v S) (hK12 : ∀ (v0 : Option Nat) (v1 : Option Nat) (v2 : Int32) (S M : Pool), CR g S M → K12' v0 v1 v2 M → K12 (v0.map g) (v1.map g) v2 S) : ∀ (v0 : Option Nat) (v1 : Option Nat) (v2 : Int32) (S M : Pool), CR g S M → wX4_reads_42 K12' post' v0 v1 v2 M → wX4_reads_42 K12 post (v0.map g) (v1.map g) v2 S := by
  intro v0 v1 v2 S M h hw
  unfold wX4_reads_42 at hw ⊢
  refine cr_I h hw (fun a1 hw => ?_)
  refine ⟨fun c2 => ?_, fun c2 => ?_⟩
  · have hw := hw.1 c2
    refine cr_I h hw (fun a3 hw => ?_)
    refine cr_rc h hw (fun hw => ?_)
    refine rX4_advance (fun S M h hw => ?_) _ _ _ h hw
    refine ⟨fun c4 => ?_, fun c4 => ?_⟩
    · have hw := hw.1 c4
      exact rX4_reads_95 hp hK12 _ _ _ _ _ _ h hw
    · have hw := hw.2 c4
      refine cr_rc h hw (fun hw => ?_)
      refine rX4_isAt (fun a5 S M h hw => ?_) _ _ _ _ h hw
      refine ⟨fun c6 => ?_, fun c6 => ?_⟩
      · have hw := hw.1 c6
        exact rX4_reads_95 hp hK12 _ _ _ _ _ _ h hw
      · have hw := hw.2 c6
        refine cr_I h hw (fun a7 hw => ?_)
        refine ⟨fun c8 => ?_, fun c8 => ?_⟩
        · have hw := hw.1 c8
          refine cr_rc h hw (fun hw => ?_)
          refine rX4_readsSpread (fun a9 S M h hw => ?_) _ _ _ _ h hw
          refine ⟨fun c10 => ?_, fun c10 => ?_⟩
          · have hw := hw.1 c10
            exact ⟨hw.1, hp _ _ _ h hw.2⟩
          · have hw := hw.2 c10
            exact ⟨hw.1, hp _ _ _ h hw.2⟩
        · have hw := hw.2 c8
          exact ⟨hw.1, hp _ _ _ h hw.2⟩
  · have hw := hw.2 c2
    exact ⟨hw.1, hp _ _ _ h hw.2⟩
set_option maxRecDepth 100000 in
set_option maxHeartbeats 4000000 in
theorem rX4_reads_12 {g : Nat → Nat} {post post' : Int32 → Pool → Prop} (hp : ∀ v S M, CR g S M → post' v M → post v S) : ∀ (n : Nat) (v0 : Option Nat) (v1 : Option Nat) (v2 : Int32) (S M : Pool), CR g S M → wX4_reads_12 post' n v0 v1 v2 M → wX4_reads_12 post n (v0.map g) (v1.map g) v2 S := by
  intro n
  induction n with
  | zero => intro v0 v1 v2 S M h hw; exact False.elim hw
  | succ n ih =>
    intro v0 v1 v2 S M h hw
    unfold wX4_reads_12 at hw ⊢
    refine ⟨fun c1 => ?_, fun c1 => ?_⟩
    · have hw := hw.1 c1
      exact ⟨hw.1, hp _ _ _ h hw.2⟩
    · have hw := hw.2 c1
      refine ⟨fun c2 => ?_, fun c2 => ?_⟩
      · have hw := hw.1 c2
        exact rX4_reads_42 hp ih _ _ _ _ _ h hw
      · have hw := hw.2 c2
        refine cr_I h hw (fun a3 hw => ?_)
        refine ⟨fun c4 => ?_, fun c4 => ?_⟩
        · have hw := hw.1 c4
          refine cr_I h hw (fun a5 hw => ?_)
          refine ⟨fun c6 => ?_, fun c6 => ?_⟩
          · have hw := hw.1 c6
            exact ⟨hw.1, hp _ _ _ h hw.2⟩
          · have hw := hw.2 c6
            exact ⟨hw.1, hp _ _ _ h hw.2⟩
        · have hw := hw.2 c4
          exact rX4_reads_42 hp ih _ _ _ _ _ h hw
set_option maxRecDepth 100000 in
set_option maxHeartbeats 4000000 in
theorem rX4_reads {g : Nat → Nat} {post post' : Int32 → Pool → Prop} (hp : ∀ v S M, CR g S M → post' v M → post v S) : ∀ (v0 : Option Nat) (v1 : Option Nat) (S M : Pool), CR g S M → wX4_reads post' v0 v1 M → wX4_reads post (v0.map g) (v1.map g) S := by
  intro v0 v1 S M h hw
  unfold wX4_reads at hw ⊢
  refine cr_rc h hw (fun hw => ?_)
  refine rX4_readsBy (fun a1 S M h hw => ?_) _ _ _ _ h hw
  refine ⟨fun c2 => ?_, fun c2 => ?_⟩
  · have hw := hw.1 c2
    exact ⟨hw.1, hp _ _ _ h hw.2⟩
  · have hw := hw.2 c2
    obtain ⟨n1, hw⟩ := hw
    exact ⟨n1, rX4_reads_12 hp n1 _ _ _ _ _ h hw⟩
-- X8_feed
set_option maxRecDepth 100000 in
set_option maxHeartbeats 4000000 in
theorem rX8_feed {g : Nat → Nat} {post post' : Int32 → Pool → Prop} (hp : ∀ v S M, CR g S M → post' v M → post v S) : ∀ (v0 : Option Nat) (v1 : Int32) (v2 : Int32) (v3 : Int32) (v4 : Int32) (v5 : Int32) (S M : Pool), CR g S M → wX8_feed post' v0 v1 v2 v3 v4 v5 M → wX8_feed post (v0.map g) v1 v2 v3 v4 v5 S := by
  intro v0 v1 v2 v3 v4 v5 S M h hw
  unfold wX8_feed at hw ⊢
  refine cr_R h hw (fun a1 hw => ?_)
  refine cr_rc h hw (fun hw => ?_)
  refine rX7_hasRoomFor (fun a2 S M h hw => ?_) _ _ _ _ h hw
  refine ⟨fun c3 => ?_, fun c3 => ?_⟩
  · have hw := hw.1 c3
    exact hp _ _ _ h hw
  · have hw := hw.2 c3
    refine cr_R h hw (fun a4 hw => ?_)
    refine cr_rc h hw (fun hw => ?_)
    refine rX7_put (fun S M h hw => ?_) _ _ _ _ h hw
    refine cr_R h hw (fun a5 hw => ?_)
    refine cr_rc h hw (fun hw => ?_)
    refine rX7_put (fun S M h hw => ?_) _ _ _ _ h hw
    refine cr_R h hw (fun a6 hw => ?_)
    refine cr_rc h hw (fun hw => ?_)
    refine rX7_put (fun S M h hw => ?_) _ _ _ _ h hw
    refine cr_R h hw (fun a7 hw => ?_)
    refine cr_rc h hw (fun hw => ?_)
    refine rX7_put (fun S M h hw => ?_) _ _ _ _ h hw
    refine cr_R h hw (fun a8 hw => ?_)
    refine cr_rc h hw (fun hw => ?_)
    refine rX7_put (fun S M h hw => ?_) _ _ _ _ h hw
    refine cr_R h hw (fun a9 hw => ?_)
    refine cr_I h hw (fun a10 hw => ?_)
    exact hp _ _ _ h hw
-- X8_end
set_option maxRecDepth 100000 in
set_option maxHeartbeats 4000000 in
theorem rX8_end {g : Nat → Nat} {post post' : Int32 → Pool → Prop} (hp : ∀ v S M, CR g S M → post' v M → post v S) : ∀ (v0 : Option Nat) (v1 : Int32) (S M : Pool), CR g S M → wX8_end post' v0 v1 M → wX8_end post (v0.map g) v1 S := by
  intro v0 v1 S M h hw
  unfold wX8_end at hw ⊢
  refine ⟨fun c1 => ?_, fun c1 => ?_⟩
  · have hw := hw.1 c1
    exact ⟨hw.1, hp _ _ _ h hw.2⟩
  · have hw := hw.2 c1
    refine cr_R h hw (fun a2 hw => ?_)
    refine cr_I h hw (fun a3 hw => ?_)
    refine ⟨fun c4 => ?_, fun c4 => ?_⟩
    · have hw := hw.1 c4
      refine cr_R h hw (fun a5 hw => ?_)
      refine cr_pI h hw (fun S M h hw => ?_)
      exact ⟨hw.1, hp _ _ _ h hw.2⟩
    · have hw := hw.2 c4
      exact ⟨hw.1, hp _ _ _ h hw.2⟩
-- X8_ticks
set_option maxRecDepth 100000 in
set_option maxHeartbeats 4000000 in
theorem rX8_ticks_10 {g : Nat → Nat} {pox pox' : String → Pool → Prop} {post post' : Int32 → Pool → Prop} (hp : ∀ v S M, CR g S M → post' v M → post v S) (hx : ∀ E S M, CR g S M → pox' E M → pox E S) : ∀ (S M : Pool), CR g S M → wX8_ticks_10 pox' post' M → wX8_ticks_10 pox post S := by
  intro S M h hw
  unfold wX8_ticks_10 at hw ⊢
  exact hx _ _ _ h hw
set_option maxRecDepth 100000 in
set_option maxHeartbeats 4000000 in
theorem rX8_ticks {g : Nat → Nat} {pox pox' : String → Pool → Prop} {post post' : Int32 → Pool → Prop} (hp : ∀ v S M, CR g S M → post' v M → post v S) (hx : ∀ E S M, CR g S M → pox' E M → pox E S) : ∀ (v0 : Option Nat) (v1 : Int32) (S M : Pool), CR g S M → wX8_ticks pox' post' v0 v1 M → wX8_ticks pox post (v0.map g) v1 S := by
  intro v0 v1 S M h hw
  unfold wX8_ticks at hw ⊢
  refine ⟨fun c1 => ?_, fun c1 => ?_⟩
  · have hw := hw.1 c1
    exact rX8_ticks_10 hp hx _ _ h hw
  · have hw := hw.2 c1
    refine ⟨fun c2 => ?_, fun c2 => ?_⟩
    · have hw := hw.1 c2
      refine cr_I h hw (fun a3 hw => ?_)
      refine cr_pI h hw (fun S M h hw => ?_)
      refine cr_I h hw (fun a4 hw => ?_)
      refine cr_pI h hw (fun S M h hw => ?_)
      refine cr_I h hw (fun a5 hw => ?_)
      exact hp _ _ _ h hw
    · have hw := hw.2 c2
      exact rX8_ticks_10 hp hx _ _ h hw
-- X8_isBelow
set_option maxRecDepth 100000 in
set_option maxHeartbeats 4000000 in
theorem rX8_isBelow {g : Nat → Nat} {post post' : Int32 → Pool → Prop} (hp : ∀ v S M, CR g S M → post' v M → post v S) : ∀ (v0 : Int32) (v1 : Int32) (S M : Pool), CR g S M → wX8_isBelow post' v0 v1 M → wX8_isBelow post v0 v1 S := by
  intro v0 v1 S M h hw
  unfold wX8_isBelow at hw ⊢
  refine ⟨fun c1 => ?_, fun c1 => ?_⟩
  · have hw := hw.1 c1
    exact ⟨hw.1, hp _ _ _ h hw.2⟩
  · have hw := hw.2 c1
    refine ⟨fun c2 => ?_, fun c2 => ?_⟩
    · have hw := hw.1 c2
      exact ⟨hw.1, hp _ _ _ h hw.2⟩
    · have hw := hw.2 c2
      exact ⟨hw.1, hp _ _ _ h hw.2⟩
-- X8_actAt
set_option maxRecDepth 100000 in
set_option maxHeartbeats 4000000 in
theorem rX8_actAt {g : Nat → Nat} {pox pox' : String → Pool → Prop} {post post' : Option Nat → Pool → Prop} (hp : ∀ (v : Option Nat) S M, CR g S M → post' v M → post (v.map g) S) (hx : ∀ E S M, CR g S M → pox' E M → pox E S) : ∀ (v0 : Option Nat) (v1 : Int32) (S M : Pool), CR g S M → wX8_actAt pox' post' v0 v1 M → wX8_actAt pox post (v0.map g) v1 S := by
  intro v0 v1 S M h hw
  unfold wX8_actAt at hw ⊢
  refine cr_R h hw (fun a1 hw => ?_)
  refine cr_rc h hw (fun hw => ?_)
  refine rX2_actAt (fun a2 S M h hw => ?_) _ _ _ _ h hw
  refine ⟨fun c3 => ?_, fun c3 => ?_⟩
  · have hw := cr_n (B := True) hw.1 c3
    exact hx _ _ _ h hw
  · have hw := cr_nn hw.2 c3
    exact hp _ _ _ h hw
-- X8_may
set_option maxRecDepth 100000 in
set_option maxHeartbeats 4000000 in
theorem rX8_may_28 {g : Nat → Nat} {pox pox' : String → Pool → Prop} {post post' : Pool → Prop} (hp : ∀ S M, CR g S M → post' M → post S) (hx : ∀ E S M, CR g S M → pox' E M → pox E S) : ∀ (S M : Pool), CR g S M → wX8_may_28 pox' post' M → wX8_may_28 pox post S := by
  intro S M h hw
  unfold wX8_may_28 at hw ⊢
  exact hx _ _ _ h hw
set_option maxRecDepth 100000 in
set_option maxHeartbeats 4000000 in
theorem rX8_may {g : Nat → Nat} {pox pox' : String → Pool → Prop} {post post' : Pool → Prop} (hp : ∀ S M, CR g S M → post' M → post S) (hx : ∀ E S M, CR g S M → pox' E M → pox E S) : ∀ (v0 : Option Nat) (v1 : Int32) (v2 : Int32) (S M : Pool), CR g S M → wX8_may pox' post' v0 v1 v2 M → wX8_may pox post (v0.map g) v1 v2 S := by
  intro v0 v1 v2 S M h hw
  unfold wX8_may at hw ⊢
  refine rX8_isBelow (fun a1 S M h hw => ?_) _ _ _ _ h hw
  refine ⟨fun c2 => ?_, fun c2 => ?_⟩
  · have hw := hw.1 c2
    exact hx _ _ _ h hw
  · have hw := hw.2 c2
    refine ⟨fun c3 => ?_, fun c3 => ?_⟩
    · have hw := hw.1 c3
      exact rX8_may_28 hp hx _ _ h hw
    · have hw := hw.2 c3
      refine ⟨fun c4 => ?_, fun c4 => ?_⟩
      · have hw := hw.1 c4
        refine cr_R h hw (fun a5 hw => ?_)
        refine cr_sI h hw (fun S M h hw => ?_)
        exact hp _ _ h hw
      · have hw := hw.2 c4
        exact rX8_may_28 hp hx _ _ h hw
-- X8_fault
set_option maxRecDepth 100000 in
set_option maxHeartbeats 4000000 in
theorem rX8_fault {g : Nat → Nat} {post post' : Int32 → Pool → Prop} (hp : ∀ v S M, CR g S M → post' v M → post v S) : ∀ (v0 : Option Nat) (S M : Pool), CR g S M → wX8_fault post' v0 M → wX8_fault post (v0.map g) S := by
  intro v0 S M h hw
  unfold wX8_fault at hw ⊢
  refine cr_I h hw (fun a1 hw => ?_)
  exact hp _ _ _ h hw
-- X8_questionAt
set_option maxRecDepth 100000 in
set_option maxHeartbeats 4000000 in
theorem rX8_questionAt_19 {g : Nat → Nat} {pox pox' : String → Pool → Prop} {post post' : Option Nat → Pool → Prop} (hp : ∀ (v : Option Nat) S M, CR g S M → post' v M → post (v.map g) S) (hx : ∀ E S M, CR g S M → pox' E M → pox E S) : ∀ (z0 : Option Nat) (S M : Pool), CR g S M → wX8_questionAt_19 pox' post' z0 M → wX8_questionAt_19 pox post (z0.map g) S := by
  intro z0 S M h hw
  unfold wX8_questionAt_19 at hw ⊢
  refine ⟨fun c1 => ?_, fun c1 => ?_⟩
  · have hw := cr_n (B := True) hw.1 c1
    exact hx _ _ _ h hw
  · have hw := cr_nn hw.2 c1
    exact hp _ _ _ h hw
set_option maxRecDepth 100000 in
set_option maxHeartbeats 4000000 in
theorem rX8_questionAt {g : Nat → Nat} {pox pox' : String → Pool → Prop} {post post' : Option Nat → Pool → Prop} (hp : ∀ (v : Option Nat) S M, CR g S M → post' v M → post (v.map g) S) (hx : ∀ E S M, CR g S M → pox' E M → pox E S) : ∀ (v0 : Option Nat) (v1 : Int32) (S M : Pool), CR g S M → wX8_questionAt pox' post' v0 v1 M → wX8_questionAt pox post (v0.map g) v1 S := by
  intro v0 v1 S M h hw
  unfold wX8_questionAt at hw ⊢
  refine rX8_isBelow (fun a1 S M h hw => ?_) _ _ _ _ h hw
  refine ⟨fun c2 => ?_, fun c2 => ?_⟩
  · have hw := hw.1 c2
    exact rX8_questionAt_19 hp hx _ _ _ h hw
  · have hw := hw.2 c2
    refine cr_R h hw (fun a3 hw => ?_)
    refine cr_aR h hw (fun a4 hw => ?_)
    exact rX8_questionAt_19 hp hx _ _ _ h hw
-- X8_sweepOf
set_option maxRecDepth 100000 in
set_option maxHeartbeats 4000000 in
theorem rX8_sweepOf {g : Nat → Nat} {pox pox' : String → Pool → Prop} {post post' : Option Nat → Pool → Prop} (hp : ∀ (v : Option Nat) S M, CR g S M → post' v M → post (v.map g) S) (hx : ∀ E S M, CR g S M → pox' E M → pox E S) : ∀ (v0 : Option Nat) (v1 : Int32) (v2 : Int32) (S M : Pool), CR g S M → wX8_sweepOf pox' post' v0 v1 v2 M → wX8_sweepOf pox post (v0.map g) v1 v2 S := by
  intro v0 v1 v2 S M h hw
  unfold wX8_sweepOf at hw ⊢
  refine cr_R h hw (fun a1 hw => ?_)
  refine cr_rc h hw (fun hw => ?_)
  refine rX8_questionAt (fun a2 S M h hw => ?_) hx _ _ _ _ h hw
  refine cr_rc h hw (fun hw => ?_)
  refine rX6_goOver (fun S M h hw => ?_) _ _ _ _ _ _ h hw
  refine cr_R h hw (fun a3 hw => ?_)
  exact hp _ _ _ h hw
-- X8_finds
set_option maxRecDepth 100000 in
set_option maxHeartbeats 4000000 in
theorem rX8_finds {g : Nat → Nat} {pox pox' : String → Pool → Prop} {post post' : Int32 → Pool → Prop} (hp : ∀ v S M, CR g S M → post' v M → post v S) (hx : ∀ E S M, CR g S M → pox' E M → pox E S) : ∀ (v0 : Option Nat) (v1 : Int32) (v2 : Int32) (S M : Pool), CR g S M → wX8_finds pox' post' v0 v1 v2 M → wX8_finds pox post (v0.map g) v1 v2 S := by
  intro v0 v1 v2 S M h hw
  unfold wX8_finds at hw ⊢
  refine cr_rc h hw (fun hw => ?_)
  refine rX8_sweepOf (fun a1 S M h hw => ?_) hx _ _ _ _ _ h hw
  refine cr_I h hw (fun a2 hw => ?_)
  exact hp _ _ _ h hw
-- X8_found
set_option maxRecDepth 100000 in
set_option maxHeartbeats 4000000 in
theorem rX8_found {g : Nat → Nat} {pox pox' : String → Pool → Prop} {post post' : Int32 → Pool → Prop} (hp : ∀ v S M, CR g S M → post' v M → post v S) (hx : ∀ E S M, CR g S M → pox' E M → pox E S) : ∀ (v0 : Option Nat) (v1 : Int32) (v2 : Int32) (v3 : Int32) (S M : Pool), CR g S M → wX8_found pox' post' v0 v1 v2 v3 M → wX8_found pox post (v0.map g) v1 v2 v3 S := by
  intro v0 v1 v2 v3 S M h hw
  unfold wX8_found at hw ⊢
  refine cr_rc h hw (fun hw => ?_)
  refine rX8_sweepOf (fun a1 S M h hw => ?_) hx _ _ _ _ _ h hw
  refine cr_rc h hw (fun hw => ?_)
  refine rX6_findAt (fun a2 S M h hw => ?_) _ _ _ _ h hw
  refine ⟨fun c3 => ?_, fun c3 => ?_⟩
  · have hw := cr_n (B := True) hw.1 c3
    exact hp _ _ _ h hw
  · have hw := cr_nn hw.2 c3
    refine cr_I h hw (fun a4 hw => ?_)
    exact hp _ _ _ h hw
-- X8_proof
set_option maxRecDepth 100000 in
set_option maxHeartbeats 4000000 in
theorem rX8_proof {g : Nat → Nat} {pox pox' : String → Pool → Prop} {post post' : Int32 → Pool → Prop} (hp : ∀ v S M, CR g S M → post' v M → post v S) (hx : ∀ E S M, CR g S M → pox' E M → pox E S) : ∀ (v0 : Option Nat) (v1 : Int32) (v2 : Int32) (v3 : Int32) (v4 : Int32) (S M : Pool), CR g S M → wX8_proof pox' post' v0 v1 v2 v3 v4 M → wX8_proof pox post (v0.map g) v1 v2 v3 v4 S := by
  intro v0 v1 v2 v3 v4 S M h hw
  unfold wX8_proof at hw ⊢
  refine cr_rc h hw (fun hw => ?_)
  refine rX8_sweepOf (fun a1 S M h hw => ?_) hx _ _ _ _ _ h hw
  refine cr_rc h hw (fun hw => ?_)
  refine rX6_proofAct (fun a2 S M h hw => ?_) _ _ _ _ _ h hw
  exact hp _ _ _ h hw
-- X8_exempt
set_option maxRecDepth 100000 in
set_option maxHeartbeats 4000000 in
theorem rX8_exempt_25 {g : Nat → Nat} {pox pox' : String → Pool → Prop} {post post' : Int32 → Pool → Prop} (hp : ∀ v S M, CR g S M → post' v M → post v S) (hx : ∀ E S M, CR g S M → pox' E M → pox E S) : ∀ (S M : Pool), CR g S M → wX8_exempt_25 pox' post' M → wX8_exempt_25 pox post S := by
  intro S M h hw
  unfold wX8_exempt_25 at hw ⊢
  exact hx _ _ _ h hw
set_option maxRecDepth 100000 in
set_option maxHeartbeats 4000000 in
theorem rX8_exempt {g : Nat → Nat} {pox pox' : String → Pool → Prop} {post post' : Int32 → Pool → Prop} (hp : ∀ v S M, CR g S M → post' v M → post v S) (hx : ∀ E S M, CR g S M → pox' E M → pox E S) : ∀ (v0 : Option Nat) (v1 : Int32) (v2 : Int32) (v3 : Int32) (S M : Pool), CR g S M → wX8_exempt pox' post' v0 v1 v2 v3 M → wX8_exempt pox post (v0.map g) v1 v2 v3 S := by
  intro v0 v1 v2 v3 S M h hw
  unfold wX8_exempt at hw ⊢
  refine cr_rc h hw (fun hw => ?_)
  refine rX8_questionAt (fun a1 S M h hw => ?_) hx _ _ _ _ h hw
  refine rX8_isBelow (fun a2 S M h hw => ?_) _ _ _ _ h hw
  refine ⟨fun c3 => ?_, fun c3 => ?_⟩
  · have hw := hw.1 c3
    exact rX8_exempt_25 hp hx _ _ h hw
  · have hw := hw.2 c3
    refine ⟨fun c4 => ?_, fun c4 => ?_⟩
    · have hw := hw.1 c4
      exact rX8_exempt_25 hp hx _ _ h hw
    · have hw := hw.2 c4
      refine ⟨fun c5 => ?_, fun c5 => ?_⟩
      · have hw := hw.1 c5
        refine cr_I h hw (fun a6 hw => ?_)
        refine ⟨fun c7 => ?_, fun c7 => ?_⟩
        · have hw := hw.1 c7
          refine cr_R h hw (fun a8 hw => ?_)
          refine cr_aR h hw (fun a9 hw => ?_)
          refine cr_R h hw (fun a10 hw => ?_)
          refine cr_aR h hw (fun a11 hw => ?_)
          refine cr_aI h hw (fun a12 hw => ?_)
          refine cr_sI h hw (fun S M h hw => ?_)
          refine cr_I h hw (fun a13 hw => ?_)
          refine cr_pI h hw (fun S M h hw => ?_)
          refine cr_I h hw (fun a14 hw => ?_)
          refine cr_pI h hw (fun S M h hw => ?_)
          refine cr_I h hw (fun a15 hw => ?_)
          exact hp _ _ _ h hw
        · have hw := hw.2 c7
          exact hp _ _ _ h hw
      · have hw := hw.2 c5
        exact rX8_exempt_25 hp hx _ _ h hw
-- X8_isExempt
set_option maxRecDepth 100000 in
set_option maxHeartbeats 4000000 in
theorem rX8_isExempt {g : Nat → Nat} {post post' : Int32 → Pool → Prop} (hp : ∀ v S M, CR g S M → post' v M → post v S) : ∀ (v0 : Option Nat) (v1 : Int32) (v2 : Option Nat) (S M : Pool), CR g S M → wX8_isExempt post' v0 v1 v2 M → wX8_isExempt post (v0.map g) v1 (v2.map g) S := by
  intro v0 v1 v2 S M h hw
  unfold wX8_isExempt at hw ⊢
  refine ⟨fun c1 => ?_, fun c1 => ?_⟩
  · have hw := cr_n (B := True) hw.1 c1
    exact ⟨hw.1, hp _ _ _ h hw.2⟩
  · have hw := cr_nn hw.2 c1
    refine rX8_isBelow (fun a2 S M h hw => ?_) _ _ _ _ h hw
    refine ⟨fun c3 => ?_, fun c3 => ?_⟩
    · have hw := hw.1 c3
      exact ⟨hw.1, hp _ _ _ h hw.2⟩
    · have hw := hw.2 c3
      refine cr_R h hw (fun a4 hw => ?_)
      refine cr_aR h hw (fun a5 hw => ?_)
      refine cr_I h hw (fun a6 hw => ?_)
      refine cr_aI h hw (fun a7 hw => ?_)
      refine cr_I h hw (fun a8 hw => ?_)
      refine ⟨fun c9 => ?_, fun c9 => ?_⟩
      · have hw := hw.1 c9
        exact ⟨hw.1, hp _ _ _ h hw.2⟩
      · have hw := hw.2 c9
        exact ⟨hw.1, hp _ _ _ h hw.2⟩
-- X8_spared
set_option maxRecDepth 100000 in
set_option maxHeartbeats 4000000 in
theorem rX8_spared_39 {g : Nat → Nat} {K13 K13' : Option Nat → Int32 → Option Nat → Int32 → Int32 → Pool → Prop} {pox pox' : String → Pool → Prop} {post post' : Int32 → Pool → Prop} (hp : ∀ v S M, CR g S M → post' v M → post v S) (hx : ∀ E S M, CR g S M → pox' E M → pox E S) (hK13 : ∀ (v0 : Option Nat) (v1 : Int32) (v3 : Option Nat) (v4 : Int32) (v5 : Int32) (S M : Pool), CR g S M → K13' v0 v1 v3 v4 v5 M → K13 (v0.map g) v1 (v3.map g) v4 v5 S) : ∀ (v0 : Option Nat) (v1 : Int32) (v3 : Option Nat) (v4 : Int32) (v5 : Int32) (S M : Pool), CR g S M → wX8_spared_39 K13' pox' post' v0 v1 v3 v4 v5 M → wX8_spared_39 K13 pox post (v0.map g) v1 (v3.map g) v4 v5 S := by
  intro v0 v1 v3 v4 v5 S M h hw
  unfold wX8_spared_39 at hw ⊢
  exact hK13 _ _ _ _ _ _ _ h hw
set_option maxRecDepth 100000 in
set_option maxHeartbeats 4000000 in
theorem rX8_spared_13 {g : Nat → Nat} {pox pox' : String → Pool → Prop} {post post' : Int32 → Pool → Prop} (hp : ∀ v S M, CR g S M → post' v M → post v S) (hx : ∀ E S M, CR g S M → pox' E M → pox E S) : ∀ (n : Nat) (v0 : Option Nat) (v1 : Int32) (v3 : Option Nat) (v4 : Int32) (v5 : Int32) (S M : Pool), CR g S M → wX8_spared_13 pox' post' n v0 v1 v3 v4 v5 M → wX8_spared_13 pox post n (v0.map g) v1 (v3.map g) v4 v5 S := by
  intro n
  induction n with
  | zero => intro v0 v1 v3 v4 v5 S M h hw; exact False.elim hw
  | succ n ih =>
    intro v0 v1 v3 v4 v5 S M h hw
    unfold wX8_spared_13 at hw ⊢
    refine cr_I h hw (fun a1 hw => ?_)
    refine ⟨fun c2 => ?_, fun c2 => ?_⟩
    · have hw := hw.1 c2
      exact hp _ _ _ h hw
    · have hw := hw.2 c2
      refine cr_rc h hw (fun hw => ?_)
      refine rX6_findAt (fun a3 S M h hw => ?_) _ _ _ _ h hw
      refine cr_rc h hw (fun hw => ?_)
      refine rX8_isExempt (fun a4 S M h hw => ?_) _ _ _ _ _ h hw
      refine ⟨fun c5 => ?_, fun c5 => ?_⟩
      · have hw := hw.1 c5
        exact rX8_spared_39 hp hx ih _ _ _ _ _ _ _ h hw
      · have hw := hw.2 c5
        exact rX8_spared_39 hp hx ih _ _ _ _ _ _ _ h hw
set_option maxRecDepth 100000 in
set_option maxHeartbeats 4000000 in
theorem rX8_spared {g : Nat → Nat} {pox pox' : String → Pool → Prop} {post post' : Int32 → Pool → Prop} (hp : ∀ v S M, CR g S M → post' v M → post v S) (hx : ∀ E S M, CR g S M → pox' E M → pox E S) : ∀ (v0 : Option Nat) (v1 : Int32) (v2 : Int32) (S M : Pool), CR g S M → wX8_spared pox' post' v0 v1 v2 M → wX8_spared pox post (v0.map g) v1 v2 S := by
  intro v0 v1 v2 S M h hw
  unfold wX8_spared at hw ⊢
  refine cr_rc h hw (fun hw => ?_)
  refine rX8_sweepOf (fun a1 S M h hw => ?_) hx _ _ _ _ _ h hw
  obtain ⟨n1, hw⟩ := hw
  exact ⟨n1, rX8_spared_13 hp hx n1 _ _ _ _ _ _ _ h hw⟩
-- X8_gap
set_option maxRecDepth 100000 in
set_option maxHeartbeats 4000000 in
theorem rX8_gap_10 {g : Nat → Nat} {pox pox' : String → Pool → Prop} {post post' : Pool → Prop} (hp : ∀ S M, CR g S M → post' M → post S) (hx : ∀ E S M, CR g S M → pox' E M → pox E S) : ∀ (S M : Pool), CR g S M → wX8_gap_10 pox' post' M → wX8_gap_10 pox post S := by
  intro S M h hw
  unfold wX8_gap_10 at hw ⊢
  exact hx _ _ _ h hw
set_option maxRecDepth 100000 in
set_option maxHeartbeats 4000000 in
theorem rX8_gap {g : Nat → Nat} {pox pox' : String → Pool → Prop} {post post' : Pool → Prop} (hp : ∀ S M, CR g S M → post' M → post S) (hx : ∀ E S M, CR g S M → pox' E M → pox E S) : ∀ (v0 : Option Nat) (v1 : Int32) (S M : Pool), CR g S M → wX8_gap pox' post' v0 v1 M → wX8_gap pox post (v0.map g) v1 S := by
  intro v0 v1 S M h hw
  unfold wX8_gap at hw ⊢
  refine ⟨fun c1 => ?_, fun c1 => ?_⟩
  · have hw := hw.1 c1
    exact rX8_gap_10 hp hx _ _ h hw
  · have hw := hw.2 c1
    refine ⟨fun c2 => ?_, fun c2 => ?_⟩
    · have hw := hw.1 c2
      refine cr_pI h hw (fun S M h hw => ?_)
      refine cr_I h hw (fun a3 hw => ?_)
      refine cr_pI h hw (fun S M h hw => ?_)
      exact hp _ _ h hw
    · have hw := hw.2 c2
      exact rX8_gap_10 hp hx _ _ h hw
-- X8_gatherFinds
set_option maxRecDepth 100000 in
set_option maxHeartbeats 4000000 in
theorem rX8_gatherFinds_62 {g : Nat → Nat} {K20 K20' : Option Nat → Int32 → Int32 → Pool → Prop} {post post' : Pool → Prop} (hp : ∀ S M, CR g S M → post' M → post S) (hK20 : ∀ (v0 : Option Nat) (v2 : Int32) (v3 : Int32) (S M : Pool), CR g S M → K20' v0 v2 v3 M → K20 (v0.map g) v2 v3 S) : ∀ (v0 : Option Nat) (v2 : Int32) (v3 : Int32) (S M : Pool), CR g S M → wX8_gatherFinds_62 K20' post' v0 v2 v3 M → wX8_gatherFinds_62 K20 post (v0.map g) v2 v3 S := by
  intro v0 v2 v3 S M h hw
  unfold wX8_gatherFinds_62 at hw ⊢
  exact hK20 _ _ _ _ _ h hw
set_option maxRecDepth 100000 in
set_option maxHeartbeats 4000000 in
theorem rX8_gatherFinds_20 {g : Nat → Nat} {post post' : Pool → Prop} (hp : ∀ S M, CR g S M → post' M → post S) : ∀ (n : Nat) (v0 : Option Nat) (v2 : Int32) (v3 : Int32) (S M : Pool), CR g S M → wX8_gatherFinds_20 post' n v0 v2 v3 M → wX8_gatherFinds_20 post n (v0.map g) v2 v3 S := by
  intro n
  induction n with
  | zero => intro v0 v2 v3 S M h hw; exact False.elim hw
  | succ n ih =>
    intro v0 v2 v3 S M h hw
    unfold wX8_gatherFinds_20 at hw ⊢
    refine cr_R h hw (fun a1 hw => ?_)
    refine cr_I h hw (fun a2 hw => ?_)
    refine ⟨fun c3 => ?_, fun c3 => ?_⟩
    · have hw := hw.1 c3
      exact hp _ _ h hw
    · have hw := hw.2 c3
      refine cr_R h hw (fun a4 hw => ?_)
      refine cr_rc h hw (fun hw => ?_)
      refine rX6_findAt (fun a5 S M h hw => ?_) _ _ _ _ h hw
      refine ⟨fun c6 => ?_, fun c6 => ?_⟩
      · have hw := cr_n (B := True) hw.1 c6
        exact rX8_gatherFinds_62 hp ih _ _ _ _ _ h hw
      · have hw := cr_nn hw.2 c6
        refine cr_R h hw (fun a7 hw => ?_)
        refine cr_rc h hw (fun hw => ?_)
        refine rX8_isExempt (fun a8 S M h hw => ?_) _ _ _ _ _ h hw
        refine cr_rc h hw (fun hw => ?_)
        refine rX1_add (fun S M h hw => ?_) _ _ _ _ _ h hw
        exact rX8_gatherFinds_62 hp ih _ _ _ _ _ h hw
set_option maxRecDepth 100000 in
set_option maxHeartbeats 4000000 in
theorem rX8_gatherFinds {g : Nat → Nat} {post post' : Pool → Prop} (hp : ∀ S M, CR g S M → post' M → post S) : ∀ (v0 : Option Nat) (v1 : Option Nat) (v2 : Int32) (S M : Pool), CR g S M → wX8_gatherFinds post' v0 v1 v2 M → wX8_gatherFinds post (v0.map g) (v1.map g) v2 S := by
  intro v0 v1 v2 S M h hw
  unfold wX8_gatherFinds at hw ⊢
  refine ⟨fun c1 => ?_, fun c1 => ?_⟩
  · have hw := cr_n (B := True) hw.1 c1
    exact hp _ _ h hw
  · have hw := cr_nn hw.2 c1
    refine cr_R h hw (fun a2 hw => ?_)
    refine cr_I h hw (fun a3 hw => ?_)
    refine cr_rc h hw (fun hw => ?_)
    refine rX6_goOver (fun S M h hw => ?_) _ _ _ _ _ _ h hw
    obtain ⟨n1, hw⟩ := hw
    exact ⟨n1, rX8_gatherFinds_20 hp n1 _ _ _ _ _ h hw⟩
-- X8_joinFinds
set_option maxRecDepth 100000 in
set_option maxHeartbeats 4000000 in
theorem rX8_joinFinds_21 {g : Nat → Nat} {post post' : Pool → Prop} (hp : ∀ S M, CR g S M → post' M → post S) : ∀ (n : Nat) (v0 : Option Nat) (v1 : Int32) (S M : Pool), CR g S M → wX8_joinFinds_21 post' n v0 v1 M → wX8_joinFinds_21 post n (v0.map g) v1 S := by
  intro n
  induction n with
  | zero => intro v0 v1 S M h hw; exact False.elim hw
  | succ n ih =>
    intro v0 v1 S M h hw
    unfold wX8_joinFinds_21 at hw ⊢
    refine cr_I h hw (fun a1 hw => ?_)
    refine ⟨fun c2 => ?_, fun c2 => ?_⟩
    · have hw := hw.1 c2
      refine cr_R h hw (fun a3 hw => ?_)
      refine cr_I h hw (fun a4 hw => ?_)
      refine cr_rc h hw (fun hw => ?_)
      refine rX1_join (fun S M h hw => ?_) _ _ _ _ h hw
      refine cr_I h hw (fun a5 hw => ?_)
      refine cr_pI h hw (fun S M h hw => ?_)
      exact hp _ _ h hw
    · have hw := hw.2 c2
      refine cr_R h hw (fun a6 hw => ?_)
      refine cr_aR h hw (fun a7 hw => ?_)
      refine cr_rc h hw (fun hw => ?_)
      refine rX8_gatherFinds (fun S M h hw => ?_) _ _ _ _ _ h hw
      exact ih _ _ _ _ h hw
set_option maxRecDepth 100000 in
set_option maxHeartbeats 4000000 in
theorem rX8_joinFinds {g : Nat → Nat} {post post' : Pool → Prop} (hp : ∀ S M, CR g S M → post' M → post S) : ∀ (v0 : Option Nat) (S M : Pool), CR g S M → wX8_joinFinds post' v0 M → wX8_joinFinds post (v0.map g) S := by
  intro v0 S M h hw
  unfold wX8_joinFinds at hw ⊢
  refine cr_I h hw (fun a1 hw => ?_)
  refine cr_I h hw (fun a2 hw => ?_)
  refine ⟨fun c3 => ?_, fun c3 => ?_⟩
  · have hw := hw.1 c3
    exact hp _ _ h hw
  · have hw := hw.2 c3
    refine cr_R h hw (fun a4 hw => ?_)
    refine cr_rc h hw (fun hw => ?_)
    refine rX1_clear (fun S M h hw => ?_) _ _ _ h hw
    obtain ⟨n1, hw⟩ := hw
    exact ⟨n1, rX8_joinFinds_21 hp n1 _ _ _ _ h hw⟩
-- X8_cases
set_option maxRecDepth 100000 in
set_option maxHeartbeats 4000000 in
theorem rX8_cases {g : Nat → Nat} {post post' : Int32 → Pool → Prop} (hp : ∀ v S M, CR g S M → post' v M → post v S) : ∀ (v0 : Option Nat) (S M : Pool), CR g S M → wX8_cases post' v0 M → wX8_cases post (v0.map g) S := by
  intro v0 S M h hw
  unfold wX8_cases at hw ⊢
  refine cr_rc h hw (fun hw => ?_)
  refine rX8_joinFinds (fun S M h hw => ?_) _ _ _ h hw
  refine cr_R h hw (fun a1 hw => ?_)
  refine cr_I h hw (fun a2 hw => ?_)
  exact hp _ _ _ h hw
-- X8_joined
set_option maxRecDepth 100000 in
set_option maxHeartbeats 4000000 in
theorem rX8_joined {g : Nat → Nat} {pox pox' : String → Pool → Prop} {post post' : Int32 → Pool → Prop} (hp : ∀ v S M, CR g S M → post' v M → post v S) (hx : ∀ E S M, CR g S M → pox' E M → pox E S) : ∀ (v0 : Option Nat) (v1 : Int32) (v2 : Int32) (S M : Pool), CR g S M → wX8_joined pox' post' v0 v1 v2 M → wX8_joined pox post (v0.map g) v1 v2 S := by
  intro v0 v1 v2 S M h hw
  unfold wX8_joined at hw ⊢
  refine cr_rc h hw (fun hw => ?_)
  refine rX8_questionAt (fun a1 S M h hw => ?_) hx _ _ _ _ h hw
  refine cr_rc h hw (fun hw => ?_)
  refine rX8_actAt (fun a2 S M h hw => ?_) hx _ _ _ _ h hw
  refine cr_I h hw (fun a3 hw => ?_)
  refine cr_rc h hw (fun hw => ?_)
  refine rX8_sweepOf (fun a4 S M h hw => ?_) hx _ _ _ _ _ h hw
  refine cr_rc h hw (fun hw => ?_)
  refine rX6_isFind (fun a5 S M h hw => ?_) _ _ _ _ h hw
  refine ⟨fun c6 => ?_, fun c6 => ?_⟩
  · have hw := hw.1 c6
    exact hp _ _ _ h hw
  · have hw := hw.2 c6
    refine cr_rc h hw (fun hw => ?_)
    refine rX8_isExempt (fun a7 S M h hw => ?_) _ _ _ _ _ h hw
    refine ⟨fun c8 => ?_, fun c8 => ?_⟩
    · have hw := hw.1 c8
      refine cr_rc h hw (fun hw => ?_)
      refine rX8_joinFinds (fun S M h hw => ?_) _ _ _ h hw
      refine cr_R h hw (fun a9 hw => ?_)
      refine cr_rc h hw (fun hw => ?_)
      refine rX1_findsBeside (fun a10 S M h hw => ?_) _ _ _ _ h hw
      exact hp _ _ _ h hw
    · have hw := hw.2 c8
      exact hp _ _ _ h hw
-- X8_cost
set_option maxRecDepth 100000 in
set_option maxHeartbeats 4000000 in
theorem rX8_cost {g : Nat → Nat} {pox pox' : String → Pool → Prop} {post post' : Int32 → Pool → Prop} (hp : ∀ v S M, CR g S M → post' v M → post v S) (hx : ∀ E S M, CR g S M → pox' E M → pox E S) : ∀ (v0 : Option Nat) (v1 : Int32) (v2 : Int32) (S M : Pool), CR g S M → wX8_cost pox' post' v0 v1 v2 M → wX8_cost pox post (v0.map g) v1 v2 S := by
  intro v0 v1 v2 S M h hw
  unfold wX8_cost at hw ⊢
  refine cr_rc h hw (fun hw => ?_)
  refine rX8_sweepOf (fun a1 S M h hw => ?_) hx _ _ _ _ _ h hw
  refine cr_rc h hw (fun hw => ?_)
  refine rX6_fewestFits (fun a2 S M h hw => ?_) _ _ _ h hw
  exact hp _ _ _ h hw
-- X8_widest
set_option maxRecDepth 100000 in
set_option maxHeartbeats 4000000 in
theorem rX8_widest {g : Nat → Nat} {pox pox' : String → Pool → Prop} {post post' : Int32 → Pool → Prop} (hp : ∀ v S M, CR g S M → post' v M → post v S) (hx : ∀ E S M, CR g S M → pox' E M → pox E S) : ∀ (v0 : Option Nat) (v1 : Int32) (v2 : Int32) (S M : Pool), CR g S M → wX8_widest pox' post' v0 v1 v2 M → wX8_widest pox post (v0.map g) v1 v2 S := by
  intro v0 v1 v2 S M h hw
  unfold wX8_widest at hw ⊢
  refine cr_rc h hw (fun hw => ?_)
  refine rX8_sweepOf (fun a1 S M h hw => ?_) hx _ _ _ _ _ h hw
  refine cr_rc h hw (fun hw => ?_)
  refine rX6_widestField (fun a2 S M h hw => ?_) _ _ _ h hw
  exact hp _ _ _ h hw
-- X8_count
set_option maxRecDepth 100000 in
set_option maxHeartbeats 4000000 in
theorem rX8_count {g : Nat → Nat} {post post' : Int32 → Pool → Prop} (hp : ∀ v S M, CR g S M → post' v M → post v S) : ∀ (v0 : Option Nat) (v1 : Int32) (S M : Pool), CR g S M → wX8_count post' v0 v1 M → wX8_count post (v0.map g) v1 S := by
  intro v0 v1 S M h hw
  unfold wX8_count at hw ⊢
  refine ⟨fun c13 => ?_, fun c13 => ?_⟩
  · have hw := hw.1 c13
    exact hp _ _ _ h hw
  · have hw := hw.2 c13
    refine ⟨fun c14 => ?_, fun c14 => ?_⟩
    · have hw := hw.1 c14
      refine cr_I h hw (fun a1 hw => ?_)
      exact hp _ _ _ h hw
    · have hw := hw.2 c14
      refine ⟨fun c15 => ?_, fun c15 => ?_⟩
      · have hw := hw.1 c15
        refine cr_R h hw (fun a2 hw => ?_)
        refine cr_I h hw (fun a3 hw => ?_)
        exact hp _ _ _ h hw
      · have hw := hw.2 c15
        refine ⟨fun c16 => ?_, fun c16 => ?_⟩
        · have hw := hw.1 c16
          refine cr_R h hw (fun a4 hw => ?_)
          refine cr_I h hw (fun a5 hw => ?_)
          exact hp _ _ _ h hw
        · have hw := hw.2 c16
          refine ⟨fun c17 => ?_, fun c17 => ?_⟩
          · have hw := hw.1 c17
            refine cr_I h hw (fun a6 hw => ?_)
            exact hp _ _ _ h hw
          · have hw := hw.2 c17
            refine ⟨fun c18 => ?_, fun c18 => ?_⟩
            · have hw := hw.1 c18
              refine cr_I h hw (fun a7 hw => ?_)
              exact hp _ _ _ h hw
            · have hw := hw.2 c18
              refine ⟨fun c19 => ?_, fun c19 => ?_⟩
              · have hw := hw.1 c19
                refine cr_I h hw (fun a8 hw => ?_)
                exact hp _ _ _ h hw
              · have hw := hw.2 c19
                refine ⟨fun c20 => ?_, fun c20 => ?_⟩
                · have hw := hw.1 c20
                  refine cr_R h hw (fun a9 hw => ?_)
                  refine cr_I h hw (fun a10 hw => ?_)
                  exact hp _ _ _ h hw
                · have hw := hw.2 c20
                  refine cr_rc h hw (fun hw => ?_)
                  refine rX8_joinFinds (fun S M h hw => ?_) _ _ _ h hw
                  refine cr_R h hw (fun a11 hw => ?_)
                  refine cr_I h hw (fun a12 hw => ?_)
                  exact hp _ _ _ h hw
-- X8_look
set_option maxRecDepth 100000 in
set_option maxHeartbeats 4000000 in
theorem rX8_look {g : Nat → Nat} {pox pox' : String → Pool → Prop} {post post' : Int32 → Pool → Prop} (hp : ∀ v S M, CR g S M → post' v M → post v S) (hx : ∀ E S M, CR g S M → pox' E M → pox E S) : ∀ (v0 : Option Nat) (v1 : Int32) (v2 : Int32) (S M : Pool), CR g S M → wX8_look pox' post' v0 v1 v2 M → wX8_look pox post (v0.map g) v1 v2 S := by
  intro v0 v1 v2 S M h hw
  unfold wX8_look at hw ⊢
  refine cr_rc h hw (fun hw => ?_)
  refine rX8_actAt (fun a1 S M h hw => ?_) hx _ _ _ _ h hw
  refine ⟨fun c9 => ?_, fun c9 => ?_⟩
  · have hw := hw.1 c9
    exact hx _ _ _ h hw
  · have hw := hw.2 c9
    refine ⟨fun c10 => ?_, fun c10 => ?_⟩
    · have hw := hw.1 c10
      refine cr_I h hw (fun a2 hw => ?_)
      exact hp _ _ _ h hw
    · have hw := hw.2 c10
      refine ⟨fun c11 => ?_, fun c11 => ?_⟩
      · have hw := hw.1 c11
        refine cr_I h hw (fun a3 hw => ?_)
        exact hp _ _ _ h hw
      · have hw := hw.2 c11
        refine ⟨fun c12 => ?_, fun c12 => ?_⟩
        · have hw := hw.1 c12
          refine cr_I h hw (fun a4 hw => ?_)
          exact hp _ _ _ h hw
        · have hw := hw.2 c12
          refine ⟨fun c13 => ?_, fun c13 => ?_⟩
          · have hw := hw.1 c13
            refine cr_I h hw (fun a5 hw => ?_)
            exact hp _ _ _ h hw
          · have hw := hw.2 c13
            refine ⟨fun c14 => ?_, fun c14 => ?_⟩
            · have hw := hw.1 c14
              refine cr_I h hw (fun a6 hw => ?_)
              exact hp _ _ _ h hw
            · have hw := hw.2 c14
              refine ⟨fun c15 => ?_, fun c15 => ?_⟩
              · have hw := hw.1 c15
                refine cr_I h hw (fun a7 hw => ?_)
                exact hp _ _ _ h hw
              · have hw := hw.2 c15
                refine cr_I h hw (fun a8 hw => ?_)
                exact hp _ _ _ h hw
