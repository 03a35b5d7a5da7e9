-- X9_thrown
set_option maxRecDepth 100000 in
set_option maxHeartbeats 4000000 in
theorem rX9_thrown {g : Nat → Nat} {post post' : Int32 → Pool → Prop} (hp : ∀ v S M, CR g S M → post' v M → post v S) : ∀ (v0 : Option Nat) (S M : Pool), CR g S M → wX9_thrown post' v0 M → wX9_thrown post (v0.map g) S := by
  intro v0 S M h hw
  unfold wX9_thrown at hw ⊢
  refine cr_I h hw (fun a1 hw => ?_)
  exact hp _ _ _ h hw
-- X9_isIn
set_option maxRecDepth 100000 in
set_option maxHeartbeats 4000000 in
theorem rX9_isIn {g : Nat → Nat} {post post' : Int32 → Pool → Prop} (hp : ∀ v S M, CR g S M → post' v M → post v S) : ∀ (v0 : Int32) (v1 : Int32) (v2 : Int32) (S M : Pool), CR g S M → wX9_isIn post' v0 v1 v2 M → wX9_isIn post v0 v1 v2 S := by
  intro v0 v1 v2 S M h hw
  unfold wX9_isIn at hw ⊢
  refine ⟨fun c1 => ?_, fun c1 => ?_⟩
  · have hw := hw.1 c1
    exact ⟨hw.1, hp _ _ _ h hw.2⟩
  · have hw := hw.2 c1
    refine ⟨fun c2 => ?_, fun c2 => ?_⟩
    · have hw := hw.1 c2
      exact ⟨hw.1, hp _ _ _ h hw.2⟩
    · have hw := hw.2 c2
      exact ⟨hw.1, hp _ _ _ h hw.2⟩
-- X9_isQuestion
set_option maxRecDepth 100000 in
set_option maxHeartbeats 4000000 in
theorem rX9_isQuestion {g : Nat → Nat} {post post' : Int32 → Pool → Prop} (hp : ∀ v S M, CR g S M → post' v M → post v S) : ∀ (v0 : Option Nat) (v1 : Int32) (S M : Pool), CR g S M → wX9_isQuestion post' v0 v1 M → wX9_isQuestion post (v0.map g) v1 S := by
  intro v0 v1 S M h hw
  unfold wX9_isQuestion at hw ⊢
  refine ⟨fun c1 => ?_, fun c1 => ?_⟩
  · have hw := hw.1 c1
    exact ⟨hw.1, hp _ _ _ h hw.2⟩
  · have hw := hw.2 c1
    refine cr_I h hw (fun a2 hw => ?_)
    refine ⟨fun c3 => ?_, fun c3 => ?_⟩
    · have hw := hw.1 c3
      exact ⟨hw.1, hp _ _ _ h hw.2⟩
    · have hw := hw.2 c3
      exact ⟨hw.1, hp _ _ _ h hw.2⟩
-- X9_isAct
set_option maxRecDepth 100000 in
set_option maxHeartbeats 4000000 in
theorem rX9_isAct {g : Nat → Nat} {post post' : Int32 → Pool → Prop} (hp : ∀ v S M, CR g S M → post' v M → post v S) : ∀ (v0 : Option Nat) (v1 : Int32) (S M : Pool), CR g S M → wX9_isAct post' v0 v1 M → wX9_isAct post (v0.map g) v1 S := by
  intro v0 v1 S M h hw
  unfold wX9_isAct at hw ⊢
  refine ⟨fun c1 => ?_, fun c1 => ?_⟩
  · have hw := hw.1 c1
    exact ⟨hw.1, hp _ _ _ h hw.2⟩
  · have hw := hw.2 c1
    refine cr_I h hw (fun a2 hw => ?_)
    refine ⟨fun c3 => ?_, fun c3 => ?_⟩
    · have hw := hw.1 c3
      exact ⟨hw.1, hp _ _ _ h hw.2⟩
    · have hw := hw.2 c3
      exact ⟨hw.1, hp _ _ _ h hw.2⟩
-- X9_byteCame
set_option maxRecDepth 100000 in
set_option maxHeartbeats 4000000 in
theorem rX9_byteCame {g : Nat → Nat} {post post' : Pool → Prop} (hp : ∀ S M, CR g S M → post' M → post S) : ∀ (v0 : Option Nat) (v1 : Int32) (S M : Pool), CR g S M → wX9_byteCame post' v0 v1 M → wX9_byteCame post (v0.map g) v1 S := by
  intro v0 v1 S M h hw
  unfold wX9_byteCame at hw ⊢
  refine cr_R h hw (fun a1 hw => ?_)
  refine cr_I h hw (fun a2 hw => ?_)
  refine cr_sI h hw (fun S M h hw => ?_)
  refine cr_I h hw (fun a3 hw => ?_)
  refine cr_pI h hw (fun S M h hw => ?_)
  exact hp _ _ h hw
-- X9_feed
set_option maxRecDepth 100000 in
set_option maxHeartbeats 4000000 in
theorem rX9_feed_117 {g : Nat → Nat} {post post' : Int32 → Pool → Prop} (hp : ∀ v S M, CR g S M → post' v M → post v S) : ∀ (n : Nat) (v0 : Option Nat) (v5 : Int32) (v6 : Int32) (S M : Pool), CR g S M → wX9_feed_117 post' n v0 v5 v6 M → wX9_feed_117 post n (v0.map g) v5 v6 S := by
  intro n
  induction n with
  | zero => intro v0 v5 v6 S M h hw; exact False.elim hw
  | succ n ih =>
    intro v0 v5 v6 S M h hw
    unfold wX9_feed_117 at hw ⊢
    refine ⟨fun c1 => ?_, fun c1 => ?_⟩
    · have hw := hw.1 c1
      refine cr_I h hw (fun a2 hw => ?_)
      exact hp _ _ _ h hw
    · have hw := hw.2 c1
      refine cr_rc h hw (fun hw => ?_)
      refine rX9_byteCame (fun S M h hw => ?_) _ _ _ _ h hw
      exact ih _ _ _ _ _ h hw
set_option maxRecDepth 100000 in
set_option maxHeartbeats 4000000 in
theorem rX9_feed_93 {g : Nat → Nat} {post post' : Int32 → Pool → Prop} (hp : ∀ v S M, CR g S M → post' v M → post v S) : ∀ (n : Nat) (v0 : Option Nat) (v4 : Int32) (v5 : Int32) (v6 : Int32) (S M : Pool), CR g S M → wX9_feed_93 post' n v0 v4 v5 v6 M → wX9_feed_93 post n (v0.map g) v4 v5 v6 S := by
  intro n
  induction n with
  | zero => intro v0 v4 v5 v6 S M h hw; exact False.elim hw
  | succ n ih =>
    intro v0 v4 v5 v6 S M h hw
    unfold wX9_feed_93 at hw ⊢
    refine ⟨fun c1 => ?_, fun c1 => ?_⟩
    · have hw := hw.1 c1
      obtain ⟨n1, hw⟩ := hw
      exact ⟨n1, rX9_feed_117 hp n1 _ _ _ _ _ h hw⟩
    · have hw := hw.2 c1
      refine cr_rc h hw (fun hw => ?_)
      refine rX9_byteCame (fun S M h hw => ?_) _ _ _ _ h hw
      exact ih _ _ _ _ _ _ h hw
set_option maxRecDepth 100000 in
set_option maxHeartbeats 4000000 in
theorem rX9_feed_70 {g : Nat → Nat} {post post' : Int32 → Pool → Prop} (hp : ∀ v S M, CR g S M → post' v M → post v S) : ∀ (n : Nat) (v0 : Option Nat) (v3 : Int32) (v4 : Int32) (v5 : Int32) (v6 : Int32) (S M : Pool), CR g S M → wX9_feed_70 post' n v0 v3 v4 v5 v6 M → wX9_feed_70 post n (v0.map g) v3 v4 v5 v6 S := by
  intro n
  induction n with
  | zero => intro v0 v3 v4 v5 v6 S M h hw; exact False.elim hw
  | succ n ih =>
    intro v0 v3 v4 v5 v6 S M h hw
    unfold wX9_feed_70 at hw ⊢
    refine ⟨fun c1 => ?_, fun c1 => ?_⟩
    · have hw := hw.1 c1
      obtain ⟨n1, hw⟩ := hw
      exact ⟨n1, rX9_feed_93 hp n1 _ _ _ _ _ _ h hw⟩
    · have hw := hw.2 c1
      refine cr_rc h hw (fun hw => ?_)
      refine rX9_byteCame (fun S M h hw => ?_) _ _ _ _ h hw
      exact ih _ _ _ _ _ _ _ h hw
set_option maxRecDepth 100000 in
set_option maxHeartbeats 4000000 in
theorem rX9_feed_47 {g : Nat → Nat} {post post' : Int32 → Pool → Prop} (hp : ∀ v S M, CR g S M → post' v M → post v S) : ∀ (n : Nat) (v0 : Option Nat) (v2 : Int32) (v3 : Int32) (v4 : Int32) (v5 : Int32) (v6 : Int32) (S M : Pool), CR g S M → wX9_feed_47 post' n v0 v2 v3 v4 v5 v6 M → wX9_feed_47 post n (v0.map g) v2 v3 v4 v5 v6 S := by
  intro n
  induction n with
  | zero => intro v0 v2 v3 v4 v5 v6 S M h hw; exact False.elim hw
  | succ n ih =>
    intro v0 v2 v3 v4 v5 v6 S M h hw
    unfold wX9_feed_47 at hw ⊢
    refine ⟨fun c1 => ?_, fun c1 => ?_⟩
    · have hw := hw.1 c1
      obtain ⟨n1, hw⟩ := hw
      exact ⟨n1, rX9_feed_70 hp n1 _ _ _ _ _ _ _ h hw⟩
    · have hw := hw.2 c1
      refine cr_rc h hw (fun hw => ?_)
      refine rX9_byteCame (fun S M h hw => ?_) _ _ _ _ h hw
      exact ih _ _ _ _ _ _ _ _ h hw
set_option maxRecDepth 100000 in
set_option maxHeartbeats 4000000 in
theorem rX9_feed_24 {g : Nat → Nat} {post post' : Int32 → Pool → Prop} (hp : ∀ v S M, CR g S M → post' v M → post v S) : ∀ (n : Nat) (v0 : Option Nat) (v1 : Int32) (v2 : Int32) (v3 : Int32) (v4 : Int32) (v5 : Int32) (v6 : Int32) (S M : Pool), CR g S M → wX9_feed_24 post' n v0 v1 v2 v3 v4 v5 v6 M → wX9_feed_24 post n (v0.map g) v1 v2 v3 v4 v5 v6 S := by
  intro n
  induction n with
  | zero => intro v0 v1 v2 v3 v4 v5 v6 S M h hw; exact False.elim hw
  | succ n ih =>
    intro v0 v1 v2 v3 v4 v5 v6 S M h hw
    unfold wX9_feed_24 at hw ⊢
    refine ⟨fun c1 => ?_, fun c1 => ?_⟩
    · have hw := hw.1 c1
      obtain ⟨n1, hw⟩ := hw
      exact ⟨n1, rX9_feed_47 hp n1 _ _ _ _ _ _ _ _ h hw⟩
    · have hw := hw.2 c1
      refine cr_rc h hw (fun hw => ?_)
      refine rX9_byteCame (fun S M h hw => ?_) _ _ _ _ h hw
      exact ih _ _ _ _ _ _ _ _ _ h hw
set_option maxRecDepth 100000 in
set_option maxHeartbeats 4000000 in
theorem rX9_feed {g : Nat → Nat} {post post' : Int32 → Pool → Prop} (hp : ∀ v S M, CR g S M → post' v M → post v S) : ∀ (v0 : Option Nat) (v1 : Int32) (v2 : Int32) (v3 : Int32) (v4 : Int32) (v5 : Int32) (S M : Pool), CR g S M → wX9_feed post' v0 v1 v2 v3 v4 v5 M → wX9_feed post (v0.map g) v1 v2 v3 v4 v5 S := by
  intro v0 v1 v2 v3 v4 v5 S M h hw
  unfold wX9_feed at hw ⊢
  refine cr_pI h hw (fun S M h hw => ?_)
  refine cr_I h hw (fun a1 hw => ?_)
  refine ⟨fun c2 => ?_, fun c2 => ?_⟩
  · have hw := hw.1 c2
    obtain ⟨n1, hw⟩ := hw
    exact ⟨n1, rX9_feed_24 hp n1 _ _ _ _ _ _ _ _ _ h hw⟩
  · have hw := hw.2 c2
    exact hp _ _ _ h hw
-- X9_end
set_option maxRecDepth 100000 in
set_option maxHeartbeats 4000000 in
theorem rX9_end {g : Nat → Nat} {post post' : Int32 → Pool → Prop} (hp : ∀ v S M, CR g S M → post' v M → post v S) : ∀ (v0 : Option Nat) (v1 : Int32) (S M : Pool), CR g S M → wX9_end post' v0 v1 M → wX9_end post (v0.map g) v1 S := by
  intro v0 v1 S M h hw
  unfold wX9_end at hw ⊢
  refine cr_pI h hw (fun S M h hw => ?_)
  refine ⟨fun c1 => ?_, fun c1 => ?_⟩
  · have hw := hw.1 c1
    exact ⟨hw.1, hp _ _ _ h hw.2⟩
  · have hw := hw.2 c1
    refine cr_I h hw (fun a2 hw => ?_)
    refine ⟨fun c3 => ?_, fun c3 => ?_⟩
    · have hw := hw.1 c3
      refine cr_pI h hw (fun S M h hw => ?_)
      exact ⟨hw.1, hp _ _ _ h hw.2⟩
    · have hw := hw.2 c3
      exact ⟨hw.1, hp _ _ _ h hw.2⟩
-- X9_ticks
set_option maxRecDepth 100000 in
set_option maxHeartbeats 4000000 in
theorem rX9_ticks_51 {g : Nat → Nat} {post post' : Int32 → Pool → Prop} (hp : ∀ v S M, CR g S M → post' v M → post v S) : ∀ (v0 : Option Nat) (z0 : Int32) (z1 : Option Nat) (S M : Pool), CR g S M → wX9_ticks_51 post' v0 z0 z1 M → wX9_ticks_51 post (v0.map g) z0 (z1.map g) S := by
  intro v0 z0 z1 S M h hw
  unfold wX9_ticks_51 at hw ⊢
  refine cr_pI h hw (fun S M h hw => ?_)
  refine cr_I h hw (fun a1 hw => ?_)
  exact hp _ _ _ h hw
set_option maxRecDepth 100000 in
set_option maxHeartbeats 4000000 in
theorem rX9_ticks_16 {g : Nat → Nat} {post post' : Int32 → Pool → Prop} (hp : ∀ v S M, CR g S M → post' v M → post v S) : ∀ (v0 : Option Nat) (v1 : Int32) (z0 : Int32) (z1 : Option Nat) (S M : Pool), CR g S M → wX9_ticks_16 post' v0 v1 z0 z1 M → wX9_ticks_16 post (v0.map g) v1 z0 (z1.map g) S := by
  intro v0 v1 z0 z1 S M h hw
  unfold wX9_ticks_16 at hw ⊢
  refine cr_pI h hw (fun S M h hw => ?_)
  refine cr_I h hw (fun a1 hw => ?_)
  refine ⟨fun c2 => ?_, fun c2 => ?_⟩
  · have hw := hw.1 c2
    refine cr_I h hw (fun a3 hw => ?_)
    refine ⟨fun c4 => ?_, fun c4 => ?_⟩
    · have hw := hw.1 c4
      refine cr_I h hw (fun a5 hw => ?_)
      exact rX9_ticks_51 hp _ _ _ _ _ h hw
    · have hw := hw.2 c4
      exact rX9_ticks_51 hp _ _ _ _ _ h hw
  · have hw := hw.2 c2
    exact hp _ _ _ h hw
set_option maxRecDepth 100000 in
set_option maxHeartbeats 4000000 in
theorem rX9_ticks {g : Nat → Nat} {post post' : Int32 → Pool → Prop} (hp : ∀ v S M, CR g S M → post' v M → post v S) : ∀ (v0 : Option Nat) (v1 : Int32) (S M : Pool), CR g S M → wX9_ticks post' v0 v1 M → wX9_ticks post (v0.map g) v1 S := by
  intro v0 v1 S M h hw
  unfold wX9_ticks at hw ⊢
  refine rX9_isIn (fun a1 S M h hw => ?_) _ _ _ _ _ h hw
  refine ⟨fun c2 => ?_, fun c2 => ?_⟩
  · have hw := hw.1 c2
    exact rX9_ticks_16 hp _ _ _ _ _ _ h hw
  · have hw := hw.2 c2
    exact rX9_ticks_16 hp _ _ _ _ _ _ h hw
-- X9_act
set_option maxRecDepth 100000 in
set_option maxHeartbeats 4000000 in
theorem rX9_act_223 {g : Nat → Nat} {post post' : Int32 → Pool → Prop} (hp : ∀ v S M, CR g S M → post' v M → post v S) : ∀ (v0 : Option Nat) (v1 : Int32) (v2 : Int32) (v3 : Int32) (v4 : Int32) (v5 : Int32) (z0 : Int32) (z1 : Option Nat) (S M : Pool), CR g S M → wX9_act_223 post' v0 v1 v2 v3 v4 v5 z0 z1 M → wX9_act_223 post (v0.map g) v1 v2 v3 v4 v5 z0 (z1.map g) S := by
  intro v0 v1 v2 v3 v4 v5 z0 z1 S M h hw
  unfold wX9_act_223 at hw ⊢
  refine cr_pI h hw (fun S M h hw => ?_)
  refine cr_I h hw (fun a1 hw => ?_)
  refine ⟨fun c2 => ?_, fun c2 => ?_⟩
  · have hw := hw.1 c2
    refine cr_R h hw (fun a3 hw => ?_)
    refine cr_I h hw (fun a4 hw => ?_)
    refine cr_sI h hw (fun S M h hw => ?_)
    refine cr_R h hw (fun a5 hw => ?_)
    refine cr_I h hw (fun a6 hw => ?_)
    refine cr_sI h hw (fun S M h hw => ?_)
    refine cr_R h hw (fun a7 hw => ?_)
    refine cr_I h hw (fun a8 hw => ?_)
    refine cr_sI h hw (fun S M h hw => ?_)
    refine cr_R h hw (fun a9 hw => ?_)
    refine cr_I h hw (fun a10 hw => ?_)
    refine cr_sI h hw (fun S M h hw => ?_)
    refine cr_R h hw (fun a11 hw => ?_)
    refine cr_I h hw (fun a12 hw => ?_)
    refine cr_sI h hw (fun S M h hw => ?_)
    refine cr_R h hw (fun a13 hw => ?_)
    refine cr_I h hw (fun a14 hw => ?_)
    refine cr_I h hw (fun a15 hw => ?_)
    refine cr_sI h hw (fun S M h hw => ?_)
    refine cr_R h hw (fun a16 hw => ?_)
    refine cr_I h hw (fun a17 hw => ?_)
    refine cr_sI h hw (fun S M h hw => ?_)
    refine cr_I h hw (fun a18 hw => ?_)
    refine cr_pI h hw (fun S M h hw => ?_)
    refine cr_I h hw (fun a19 hw => ?_)
    exact hp _ _ _ h hw
  · have hw := hw.2 c2
    exact hp _ _ _ h hw
set_option maxRecDepth 100000 in
set_option maxHeartbeats 4000000 in
theorem rX9_act_168 {g : Nat → Nat} {K87 K87' : Option Nat → Int32 → Int32 → Int32 → Int32 → Int32 → Int32 → Pool → Prop} {post post' : Int32 → Pool → Prop} (hp : ∀ v S M, CR g S M → post' v M → post v S) (hK87 : ∀ (v0 : Option Nat) (v1 : Int32) (v2 : Int32) (v3 : Int32) (v4 : Int32) (v5 : Int32) (v7 : Int32) (S M : Pool), CR g S M → K87' v0 v1 v2 v3 v4 v5 v7 M → K87 (v0.map g) v1 v2 v3 v4 v5 v7 S) : ∀ (v0 : Option Nat) (v1 : Int32) (v2 : Int32) (v3 : Int32) (v4 : Int32) (v5 : Int32) (v7 : Int32) (z0 : Int32) (S M : Pool), CR g S M → wX9_act_168 K87' post' v0 v1 v2 v3 v4 v5 v7 z0 M → wX9_act_168 K87 post (v0.map g) v1 v2 v3 v4 v5 v7 z0 S := by
  intro v0 v1 v2 v3 v4 v5 v7 z0 S M h hw
  unfold wX9_act_168 at hw ⊢
  refine ⟨fun c1 => ?_, fun c1 => ?_⟩
  · have hw := hw.1 c1
    exact hK87 _ _ _ _ _ _ _ _ _ h hw
  · have hw := hw.2 c1
    refine cr_R h hw (fun a2 hw => ?_)
    refine cr_aI h hw (fun a3 hw => ?_)
    refine cr_sI h hw (fun S M h hw => ?_)
    refine cr_I h hw (fun a4 hw => ?_)
    refine cr_pI h hw (fun S M h hw => ?_)
    exact hp _ _ _ h hw
set_option maxRecDepth 100000 in
set_option maxHeartbeats 4000000 in
theorem rX9_act_167 {g : Nat → Nat} {K87 K87' : Option Nat → Int32 → Int32 → Int32 → Int32 → Int32 → Int32 → Pool → Prop} {post post' : Int32 → Pool → Prop} (hp : ∀ v S M, CR g S M → post' v M → post v S) (hK87 : ∀ (v0 : Option Nat) (v1 : Int32) (v2 : Int32) (v3 : Int32) (v4 : Int32) (v5 : Int32) (v7 : Int32) (S M : Pool), CR g S M → K87' v0 v1 v2 v3 v4 v5 v7 M → K87 (v0.map g) v1 v2 v3 v4 v5 v7 S) : ∀ (v0 : Option Nat) (v1 : Int32) (v2 : Int32) (v3 : Int32) (v4 : Int32) (v5 : Int32) (v7 : Int32) (S M : Pool), CR g S M → wX9_act_167 K87' post' v0 v1 v2 v3 v4 v5 v7 M → wX9_act_167 K87 post (v0.map g) v1 v2 v3 v4 v5 v7 S := by
  intro v0 v1 v2 v3 v4 v5 v7 S M h hw
  unfold wX9_act_167 at hw ⊢
  exact rX9_act_168 hp hK87 _ _ _ _ _ _ _ _ _ _ h hw
set_option maxRecDepth 100000 in
set_option maxHeartbeats 4000000 in
theorem rX9_act_87 {g : Nat → Nat} {post post' : Int32 → Pool → Prop} (hp : ∀ v S M, CR g S M → post' v M → post v S) : ∀ (n : Nat) (v0 : Option Nat) (v1 : Int32) (v2 : Int32) (v3 : Int32) (v4 : Int32) (v5 : Int32) (v7 : Int32) (S M : Pool), CR g S M → wX9_act_87 post' n v0 v1 v2 v3 v4 v5 v7 M → wX9_act_87 post n (v0.map g) v1 v2 v3 v4 v5 v7 S := by
  intro n
  induction n with
  | zero => intro v0 v1 v2 v3 v4 v5 v7 S M h hw; exact False.elim hw
  | succ n ih =>
    intro v0 v1 v2 v3 v4 v5 v7 S M h hw
    unfold wX9_act_87 at hw ⊢
    refine cr_I h hw (fun a1 hw => ?_)
    refine ⟨fun c2 => ?_, fun c2 => ?_⟩
    · have hw := hw.1 c2
      refine cr_I h hw (fun a3 hw => ?_)
      refine ⟨fun c4 => ?_, fun c4 => ?_⟩
      · have hw := hw.1 c4
        exact rX9_act_223 hp _ _ _ _ _ _ _ _ _ _ h hw
      · have hw := hw.2 c4
        exact rX9_act_223 hp _ _ _ _ _ _ _ _ _ _ h hw
    · have hw := hw.2 c2
      refine cr_R h hw (fun a5 hw => ?_)
      refine cr_aI h hw (fun a6 hw => ?_)
      refine ⟨fun c7 => ?_, fun c7 => ?_⟩
      · have hw := hw.1 c7
        refine cr_R h hw (fun a8 hw => ?_)
        refine cr_aI h hw (fun a9 hw => ?_)
        refine ⟨fun c10 => ?_, fun c10 => ?_⟩
        · have hw := hw.1 c10
          refine cr_R h hw (fun a11 hw => ?_)
          refine cr_aI h hw (fun a12 hw => ?_)
          refine ⟨fun c13 => ?_, fun c13 => ?_⟩
          · have hw := hw.1 c13
            refine cr_R h hw (fun a14 hw => ?_)
            refine cr_aI h hw (fun a15 hw => ?_)
            refine ⟨fun c16 => ?_, fun c16 => ?_⟩
            · have hw := hw.1 c16
              refine cr_R h hw (fun a17 hw => ?_)
              refine cr_aI h hw (fun a18 hw => ?_)
              refine ⟨fun c19 => ?_, fun c19 => ?_⟩
              · have hw := hw.1 c19
                exact rX9_act_168 hp ih _ _ _ _ _ _ _ _ _ _ h hw
              · have hw := hw.2 c19
                exact rX9_act_167 hp ih _ _ _ _ _ _ _ _ _ h hw
            · have hw := hw.2 c16
              exact rX9_act_167 hp ih _ _ _ _ _ _ _ _ _ h hw
          · have hw := hw.2 c13
            exact rX9_act_167 hp ih _ _ _ _ _ _ _ _ _ h hw
        · have hw := hw.2 c10
          exact rX9_act_167 hp ih _ _ _ _ _ _ _ _ _ h hw
      · have hw := hw.2 c7
        exact rX9_act_167 hp ih _ _ _ _ _ _ _ _ _ h hw
set_option maxRecDepth 100000 in
set_option maxHeartbeats 4000000 in
theorem rX9_act_72 {g : Nat → Nat} {post post' : Int32 → Pool → Prop} (hp : ∀ v S M, CR g S M → post' v M → post v S) : ∀ (v0 : Option Nat) (v1 : Int32) (v2 : Int32) (v3 : Int32) (v4 : Int32) (v5 : Int32) (z0 : Int32) (z1 : Option Nat) (S M : Pool), CR g S M → wX9_act_72 post' v0 v1 v2 v3 v4 v5 z0 z1 M → wX9_act_72 post (v0.map g) v1 v2 v3 v4 v5 z0 (z1.map g) S := by
  intro v0 v1 v2 v3 v4 v5 z0 z1 S M h hw
  unfold wX9_act_72 at hw ⊢
  refine cr_pI h hw (fun S M h hw => ?_)
  refine cr_I h hw (fun a1 hw => ?_)
  refine ⟨fun c2 => ?_, fun c2 => ?_⟩
  · have hw := hw.1 c2
    obtain ⟨n1, hw⟩ := hw
    exact ⟨n1, rX9_act_87 hp n1 _ _ _ _ _ _ _ _ _ h hw⟩
  · have hw := hw.2 c2
    exact hp _ _ _ h hw
set_option maxRecDepth 100000 in
set_option maxHeartbeats 4000000 in
theorem rX9_act_59 {g : Nat → Nat} {post post' : Int32 → Pool → Prop} (hp : ∀ v S M, CR g S M → post' v M → post v S) : ∀ (v0 : Option Nat) (v1 : Int32) (v2 : Int32) (v3 : Int32) (v4 : Int32) (v5 : Int32) (z0 : Int32) (S M : Pool), CR g S M → wX9_act_59 post' v0 v1 v2 v3 v4 v5 z0 M → wX9_act_59 post (v0.map g) v1 v2 v3 v4 v5 z0 S := by
  intro v0 v1 v2 v3 v4 v5 z0 S M h hw
  unfold wX9_act_59 at hw ⊢
  refine ⟨fun c1 => ?_, fun c1 => ?_⟩
  · have hw := hw.1 c1
    exact rX9_act_72 hp _ _ _ _ _ _ _ _ _ _ h hw
  · have hw := hw.2 c1
    exact rX9_act_72 hp _ _ _ _ _ _ _ _ _ _ h hw
set_option maxRecDepth 100000 in
set_option maxHeartbeats 4000000 in
theorem rX9_act_58 {g : Nat → Nat} {post post' : Int32 → Pool → Prop} (hp : ∀ v S M, CR g S M → post' v M → post v S) : ∀ (v0 : Option Nat) (v1 : Int32) (v2 : Int32) (v3 : Int32) (v4 : Int32) (v5 : Int32) (S M : Pool), CR g S M → wX9_act_58 post' v0 v1 v2 v3 v4 v5 M → wX9_act_58 post (v0.map g) v1 v2 v3 v4 v5 S := by
  intro v0 v1 v2 v3 v4 v5 S M h hw
  unfold wX9_act_58 at hw ⊢
  exact rX9_act_59 hp _ _ _ _ _ _ _ _ _ h hw
set_option maxRecDepth 100000 in
set_option maxHeartbeats 4000000 in
theorem rX9_act {g : Nat → Nat} {post post' : Int32 → Pool → Prop} (hp : ∀ v S M, CR g S M → post' v M → post v S) : ∀ (v0 : Option Nat) (v1 : Int32) (v2 : Int32) (v3 : Int32) (v4 : Int32) (v5 : Int32) (S M : Pool), CR g S M → wX9_act post' v0 v1 v2 v3 v4 v5 M → wX9_act post (v0.map g) v1 v2 v3 v4 v5 S := by
  intro v0 v1 v2 v3 v4 v5 S M h hw
  unfold wX9_act at hw ⊢
  refine rX9_isIn (fun a1 S M h hw => ?_) _ _ _ _ _ h hw
  refine ⟨fun c2 => ?_, fun c2 => ?_⟩
  · have hw := hw.1 c2
    exact rX9_act_58 hp _ _ _ _ _ _ _ _ h hw
  · have hw := hw.2 c2
    refine rX9_isIn (fun a3 S M h hw => ?_) _ _ _ _ _ h hw
    refine ⟨fun c4 => ?_, fun c4 => ?_⟩
    · have hw := hw.1 c4
      exact rX9_act_58 hp _ _ _ _ _ _ _ _ h hw
    · have hw := hw.2 c4
      refine rX9_isIn (fun a5 S M h hw => ?_) _ _ _ _ _ h hw
      refine ⟨fun c6 => ?_, fun c6 => ?_⟩
      · have hw := hw.1 c6
        exact rX9_act_58 hp _ _ _ _ _ _ _ _ h hw
      · have hw := hw.2 c6
        refine rX9_isIn (fun a7 S M h hw => ?_) _ _ _ _ _ h hw
        refine ⟨fun c8 => ?_, fun c8 => ?_⟩
        · have hw := hw.1 c8
          exact rX9_act_58 hp _ _ _ _ _ _ _ _ h hw
        · have hw := hw.2 c8
          refine cr_I h hw (fun a9 hw => ?_)
          refine rX9_isIn (fun a10 S M h hw => ?_) _ _ _ _ _ h hw
          refine ⟨fun c11 => ?_, fun c11 => ?_⟩
          · have hw := hw.1 c11
            exact rX9_act_58 hp _ _ _ _ _ _ _ _ h hw
          · have hw := hw.2 c11
            exact rX9_act_59 hp _ _ _ _ _ _ _ _ _ h hw
-- X9_look
set_option maxRecDepth 100000 in
set_option maxHeartbeats 4000000 in
theorem rX9_look_112 {g : Nat → Nat} {post post' : Int32 → Pool → Prop} (hp : ∀ v S M, CR g S M → post' v M → post v S) : ∀ (v0 : Option Nat) (v1 : Int32) (v2 : Int32) (S M : Pool), CR g S M → wX9_look_112 post' v0 v1 v2 M → wX9_look_112 post (v0.map g) v1 v2 S := by
  intro v0 v1 v2 S M h hw
  unfold wX9_look_112 at hw ⊢
  refine cr_R h hw (fun a1 hw => ?_)
  refine cr_aI h hw (fun a2 hw => ?_)
  exact hp _ _ _ h hw
set_option maxRecDepth 100000 in
set_option maxHeartbeats 4000000 in
theorem rX9_look_28 {g : Nat → Nat} {post post' : Int32 → Pool → Prop} (hp : ∀ v S M, CR g S M → post' v M → post v S) : ∀ (v0 : Option Nat) (v1 : Int32) (v2 : Int32) (z0 : Int32) (z1 : Option Nat) (S M : Pool), CR g S M → wX9_look_28 post' v0 v1 v2 z0 z1 M → wX9_look_28 post (v0.map g) v1 v2 z0 (z1.map g) S := by
  intro v0 v1 v2 z0 z1 S M h hw
  unfold wX9_look_28 at hw ⊢
  refine cr_pI h hw (fun S M h hw => ?_)
  refine cr_I h hw (fun a1 hw => ?_)
  refine ⟨fun c2 => ?_, fun c2 => ?_⟩
  · have hw := hw.1 c2
    refine ⟨fun c11 => ?_, fun c11 => ?_⟩
    · have hw := hw.1 c11
      exact rX9_look_112 hp _ _ _ _ _ h hw
    · have hw := hw.2 c11
      refine ⟨fun c12 => ?_, fun c12 => ?_⟩
      · have hw := hw.1 c12
        refine cr_R h hw (fun a3 hw => ?_)
        refine cr_aI h hw (fun a4 hw => ?_)
        exact hp _ _ _ h hw
      · have hw := hw.2 c12
        refine ⟨fun c13 => ?_, fun c13 => ?_⟩
        · have hw := hw.1 c13
          exact rX9_look_112 hp _ _ _ _ _ h hw
        · have hw := hw.2 c13
          refine ⟨fun c14 => ?_, fun c14 => ?_⟩
          · have hw := hw.1 c14
            exact rX9_look_112 hp _ _ _ _ _ h hw
          · have hw := hw.2 c14
            refine ⟨fun c15 => ?_, fun c15 => ?_⟩
            · have hw := hw.1 c15
              exact rX9_look_112 hp _ _ _ _ _ h hw
            · have hw := hw.2 c15
              refine ⟨fun c16 => ?_, fun c16 => ?_⟩
              · have hw := hw.1 c16
                refine cr_R h hw (fun a5 hw => ?_)
                refine cr_aI h hw (fun a6 hw => ?_)
                exact hp _ _ _ h hw
              · have hw := hw.2 c16
                refine ⟨fun c17 => ?_, fun c17 => ?_⟩
                · have hw := hw.1 c17
                  refine cr_R h hw (fun a7 hw => ?_)
                  refine cr_aI h hw (fun a8 hw => ?_)
                  exact hp _ _ _ h hw
                · have hw := hw.2 c17
                  refine cr_R h hw (fun a9 hw => ?_)
                  refine cr_aI h hw (fun a10 hw => ?_)
                  exact hp _ _ _ h hw
  · have hw := hw.2 c2
    exact hp _ _ _ h hw
set_option maxRecDepth 100000 in
set_option maxHeartbeats 4000000 in
theorem rX9_look {g : Nat → Nat} {post post' : Int32 → Pool → Prop} (hp : ∀ v S M, CR g S M → post' v M → post v S) : ∀ (v0 : Option Nat) (v1 : Int32) (v2 : Int32) (S M : Pool), CR g S M → wX9_look post' v0 v1 v2 M → wX9_look post (v0.map g) v1 v2 S := by
  intro v0 v1 v2 S M h hw
  unfold wX9_look at hw ⊢
  refine cr_rc h hw (fun hw => ?_)
  refine rX9_isAct (fun a1 S M h hw => ?_) _ _ _ _ h hw
  refine ⟨fun c2 => ?_, fun c2 => ?_⟩
  · have hw := hw.1 c2
    exact rX9_look_28 hp _ _ _ _ _ _ _ h hw
  · have hw := hw.2 c2
    refine rX9_isIn (fun a3 S M h hw => ?_) _ _ _ _ _ h hw
    refine ⟨fun c4 => ?_, fun c4 => ?_⟩
    · have hw := hw.1 c4
      exact rX9_look_28 hp _ _ _ _ _ _ _ h hw
    · have hw := hw.2 c4
      exact rX9_look_28 hp _ _ _ _ _ _ _ h hw
-- X9_may
set_option maxRecDepth 100000 in
set_option maxHeartbeats 4000000 in
theorem rX9_may_29 {g : Nat → Nat} {post post' : Pool → Prop} (hp : ∀ S M, CR g S M → post' M → post S) : ∀ (v0 : Option Nat) (v1 : Int32) (v2 : Int32) (z0 : Int32) (z1 : Option Nat) (S M : Pool), CR g S M → wX9_may_29 post' v0 v1 v2 z0 z1 M → wX9_may_29 post (v0.map g) v1 v2 z0 (z1.map g) S := by
  intro v0 v1 v2 z0 z1 S M h hw
  unfold wX9_may_29 at hw ⊢
  refine cr_pI h hw (fun S M h hw => ?_)
  refine cr_I h hw (fun a1 hw => ?_)
  refine ⟨fun c2 => ?_, fun c2 => ?_⟩
  · have hw := hw.1 c2
    refine cr_R h hw (fun a3 hw => ?_)
    refine cr_sI h hw (fun S M h hw => ?_)
    exact hp _ _ h hw
  · have hw := hw.2 c2
    exact hp _ _ h hw
set_option maxRecDepth 100000 in
set_option maxHeartbeats 4000000 in
theorem rX9_may {g : Nat → Nat} {post post' : Pool → Prop} (hp : ∀ S M, CR g S M → post' M → post S) : ∀ (v0 : Option Nat) (v1 : Int32) (v2 : Int32) (S M : Pool), CR g S M → wX9_may post' v0 v1 v2 M → wX9_may post (v0.map g) v1 v2 S := by
  intro v0 v1 v2 S M h hw
  unfold wX9_may at hw ⊢
  refine rX9_isIn (fun a1 S M h hw => ?_) _ _ _ _ _ h hw
  refine ⟨fun c2 => ?_, fun c2 => ?_⟩
  · have hw := hw.1 c2
    exact rX9_may_29 hp _ _ _ _ _ _ _ h hw
  · have hw := hw.2 c2
    refine rX9_isIn (fun a3 S M h hw => ?_) _ _ _ _ _ h hw
    refine ⟨fun c4 => ?_, fun c4 => ?_⟩
    · have hw := hw.1 c4
      exact rX9_may_29 hp _ _ _ _ _ _ _ h hw
    · have hw := hw.2 c4
      exact rX9_may_29 hp _ _ _ _ _ _ _ h hw
-- X9_wrong
set_option maxRecDepth 100000 in
set_option maxHeartbeats 4000000 in
theorem rX9_wrong {g : Nat → Nat} {post post' : Int32 → Pool → Prop} (hp : ∀ v S M, CR g S M → post' v M → post v S) : ∀ (v0 : Option Nat) (v1 : Int32) (S M : Pool), CR g S M → wX9_wrong post' v0 v1 M → wX9_wrong post (v0.map g) v1 S := by
  intro v0 v1 S M h hw
  unfold wX9_wrong at hw ⊢
  refine cr_pI h hw (fun S M h hw => ?_)
  exact ⟨hw.1, hp _ _ _ h hw.2⟩
-- X9_sign
set_option maxRecDepth 100000 in
set_option maxHeartbeats 4000000 in
theorem rX9_sign_38 {g : Nat → Nat} {post post' : Int32 → Pool → Prop} (hp : ∀ v S M, CR g S M → post' v M → post v S) : ∀ (v0 : Option Nat) (S M : Pool), CR g S M → wX9_sign_38 post' v0 M → wX9_sign_38 post (v0.map g) S := by
  intro v0 S M h hw
  unfold wX9_sign_38 at hw ⊢
  refine cr_I h hw (fun a1 hw => ?_)
  refine cr_I h hw (fun a2 hw => ?_)
  refine ⟨fun c3 => ?_, fun c3 => ?_⟩
  · have hw := hw.1 c3
    exact hp _ _ _ h hw
  · have hw := hw.2 c3
    refine cr_R h hw (fun a4 hw => ?_)
    refine cr_I h hw (fun a5 hw => ?_)
    refine cr_aI h hw (fun a6 hw => ?_)
    exact hp _ _ _ h hw
set_option maxRecDepth 100000 in
set_option maxHeartbeats 4000000 in
theorem rX9_sign_0 {g : Nat → Nat} {post post' : Int32 → Pool → Prop} (hp : ∀ v S M, CR g S M → post' v M → post v S) : ∀ (n : Nat) (v0 : Option Nat) (S M : Pool), CR g S M → wX9_sign_0 post' n v0 M → wX9_sign_0 post n (v0.map g) S := by
  intro n
  induction n with
  | zero => intro v0 S M h hw; exact False.elim hw
  | succ n ih =>
    intro v0 S M h hw
    unfold wX9_sign_0 at hw ⊢
    refine cr_I h hw (fun a1 hw => ?_)
    refine cr_I h hw (fun a2 hw => ?_)
    refine ⟨fun c3 => ?_, fun c3 => ?_⟩
    · have hw := hw.1 c3
      exact rX9_sign_38 hp _ _ _ h hw
    · have hw := hw.2 c3
      refine cr_R h hw (fun a4 hw => ?_)
      refine cr_I h hw (fun a5 hw => ?_)
      refine cr_aI h hw (fun a6 hw => ?_)
      refine ⟨fun c7 => ?_, fun c7 => ?_⟩
      · have hw := hw.1 c7
        refine cr_I h hw (fun a8 hw => ?_)
        refine cr_pI h hw (fun S M h hw => ?_)
        exact ih _ _ _ h hw
      · have hw := hw.2 c7
        exact rX9_sign_38 hp _ _ _ h hw
set_option maxRecDepth 100000 in
set_option maxHeartbeats 4000000 in
theorem rX9_sign {g : Nat → Nat} {post post' : Int32 → Pool → Prop} (hp : ∀ v S M, CR g S M → post' v M → post v S) : ∀ (v0 : Option Nat) (S M : Pool), CR g S M → wX9_sign post' v0 M → wX9_sign post (v0.map g) S := by
  intro v0 S M h hw
  unfold wX9_sign at hw ⊢
  obtain ⟨n1, hw⟩ := hw
  exact ⟨n1, rX9_sign_0 hp n1 _ _ _ h hw⟩
-- X9_wordEnd
set_option maxRecDepth 100000 in
set_option maxHeartbeats 4000000 in
theorem rX9_wordEnd_5 {g : Nat → Nat} {post post' : Int32 → Pool → Prop} (hp : ∀ v S M, CR g S M → post' v M → post v S) : ∀ (n : Nat) (v0 : Option Nat) (v1 : Int32) (S M : Pool), CR g S M → wX9_wordEnd_5 post' n v0 v1 M → wX9_wordEnd_5 post n (v0.map g) v1 S := by
  intro n
  induction n with
  | zero => intro v0 v1 S M h hw; exact False.elim hw
  | succ n ih =>
    intro v0 v1 S M h hw
    unfold wX9_wordEnd_5 at hw ⊢
    refine cr_I h hw (fun a1 hw => ?_)
    refine ⟨fun c2 => ?_, fun c2 => ?_⟩
    · have hw := hw.1 c2
      exact hp _ _ _ h hw
    · have hw := hw.2 c2
      refine cr_R h hw (fun a3 hw => ?_)
      refine cr_aI h hw (fun a4 hw => ?_)
      refine ⟨fun c5 => ?_, fun c5 => ?_⟩
      · have hw := hw.1 c5
        exact hp _ _ _ h hw
      · have hw := hw.2 c5
        refine cr_R h hw (fun a6 hw => ?_)
        refine cr_aI h hw (fun a7 hw => ?_)
        refine ⟨fun c8 => ?_, fun c8 => ?_⟩
        · have hw := hw.1 c8
          exact hp _ _ _ h hw
        · have hw := hw.2 c8
          exact ih _ _ _ _ h hw
set_option maxRecDepth 100000 in
set_option maxHeartbeats 4000000 in
theorem rX9_wordEnd {g : Nat → Nat} {post post' : Int32 → Pool → Prop} (hp : ∀ v S M, CR g S M → post' v M → post v S) : ∀ (v0 : Option Nat) (S M : Pool), CR g S M → wX9_wordEnd post' v0 M → wX9_wordEnd post (v0.map g) S := by
  intro v0 S M h hw
  unfold wX9_wordEnd at hw ⊢
  refine cr_I h hw (fun a1 hw => ?_)
  obtain ⟨n1, hw⟩ := hw
  exact ⟨n1, rX9_wordEnd_5 hp n1 _ _ _ _ h hw⟩
-- X9_isWord
set_option maxRecDepth 100000 in
set_option maxHeartbeats 4000000 in
theorem rX9_isWord_43 {g : Nat → Nat} {post post' : Int32 → Pool → Prop} (hp : ∀ v S M, CR g S M → post' v M → post v S) : ∀ (n : Nat) (v0 : Option Nat) (v1 : Int64) (v4 : Int32) (v5 : Int64) (v7 : Int32) (S M : Pool), CR g S M → wX9_isWord_43 post' n v0 v1 v4 v5 v7 M → wX9_isWord_43 post n (v0.map g) v1 v4 v5 v7 S := by
  intro n
  induction n with
  | zero => intro v0 v1 v4 v5 v7 S M h hw; exact False.elim hw
  | succ n ih =>
    intro v0 v1 v4 v5 v7 S M h hw
    unfold wX9_isWord_43 at hw ⊢
    refine ⟨fun c1 => ?_, fun c1 => ?_⟩
    · have hw := hw.1 c1
      refine ⟨fun c2 => ?_, fun c2 => ?_⟩
      · have hw := hw.1 c2
        exact ⟨hw.1, hp _ _ _ h hw.2⟩
      · have hw := hw.2 c2
        exact ⟨hw.1, hp _ _ _ h hw.2⟩
    · have hw := hw.2 c1
      refine cr_R h hw (fun a3 hw => ?_)
      refine cr_aI h hw (fun a4 hw => ?_)
      exact ih _ _ _ _ _ _ _ h hw
set_option maxRecDepth 100000 in
set_option maxHeartbeats 4000000 in
theorem rX9_isWord {g : Nat → Nat} {post post' : Int32 → Pool → Prop} (hp : ∀ v S M, CR g S M → post' v M → post v S) : ∀ (v0 : Option Nat) (v1 : Int64) (S M : Pool), CR g S M → wX9_isWord post' v0 v1 M → wX9_isWord post (v0.map g) v1 S := by
  intro v0 v1 S M h hw
  unfold wX9_isWord at hw ⊢
  refine cr_rc h hw (fun hw => ?_)
  refine rX9_sign (fun a1 S M h hw => ?_) _ _ _ h hw
  refine cr_rc h hw (fun hw => ?_)
  refine rX9_wordEnd (fun a2 S M h hw => ?_) _ _ _ h hw
  refine cr_I h hw (fun a3 hw => ?_)
  refine ⟨fun c4 => ?_, fun c4 => ?_⟩
  · have hw := hw.1 c4
    exact ⟨hw.1, hp _ _ _ h hw.2⟩
  · have hw := hw.2 c4
    refine cr_I h hw (fun a5 hw => ?_)
    refine ⟨fun c6 => ?_, fun c6 => ?_⟩
    · have hw := hw.1 c6
      refine cr_I h hw (fun a7 hw => ?_)
      obtain ⟨n1, hw⟩ := hw
      exact ⟨n1, rX9_isWord_43 hp n1 _ _ _ _ _ _ _ h hw⟩
    · have hw := hw.2 c6
      exact ⟨hw.1, hp _ _ _ h hw.2⟩
-- X9_takes
set_option maxRecDepth 100000 in
set_option maxHeartbeats 4000000 in
theorem rX9_takes {g : Nat → Nat} {post post' : Int32 → Pool → Prop} (hp : ∀ v S M, CR g S M → post' v M → post v S) : ∀ (v0 : Option Nat) (v1 : Int64) (S M : Pool), CR g S M → wX9_takes post' v0 v1 M → wX9_takes post (v0.map g) v1 S := by
  intro v0 v1 S M h hw
  unfold wX9_takes at hw ⊢
  refine cr_rc h hw (fun hw => ?_)
  refine rX9_isWord (fun a1 S M h hw => ?_) _ _ _ _ h hw
  refine ⟨fun c2 => ?_, fun c2 => ?_⟩
  · have hw := hw.1 c2
    exact ⟨hw.1, hp _ _ _ h hw.2⟩
  · have hw := hw.2 c2
    refine cr_rc h hw (fun hw => ?_)
    refine rX9_wordEnd (fun a3 S M h hw => ?_) _ _ _ h hw
    refine cr_pI h hw (fun S M h hw => ?_)
    exact ⟨hw.1, hp _ _ _ h hw.2⟩
-- X9_passes
set_option maxRecDepth 100000 in
set_option maxHeartbeats 4000000 in
theorem rX9_passes_19 {g : Nat → Nat} {post post' : Int32 → Pool → Prop} (hp : ∀ v S M, CR g S M → post' v M → post v S) : ∀ (S M : Pool), CR g S M → wX9_passes_19 post' M → wX9_passes_19 post S := by
  intro S M h hw
  unfold wX9_passes_19 at hw ⊢
  exact ⟨hw.1, hp _ _ _ h hw.2⟩
set_option maxRecDepth 100000 in
set_option maxHeartbeats 4000000 in
theorem rX9_passes {g : Nat → Nat} {post post' : Int32 → Pool → Prop} (hp : ∀ v S M, CR g S M → post' v M → post v S) : ∀ (v0 : Option Nat) (v1 : Int64) (S M : Pool), CR g S M → wX9_passes post' v0 v1 M → wX9_passes post (v0.map g) v1 S := by
  intro v0 v1 S M h hw
  unfold wX9_passes at hw ⊢
  refine cr_rc h hw (fun hw => ?_)
  refine rX9_takes (fun a1 S M h hw => ?_) _ _ _ _ h hw
  refine ⟨fun c2 => ?_, fun c2 => ?_⟩
  · have hw := hw.1 c2
    refine cr_I h hw (fun a3 hw => ?_)
    refine cr_rc h hw (fun hw => ?_)
    refine rX9_wrong (fun a4 S M h hw => ?_) _ _ _ _ h hw
    refine ⟨fun c5 => ?_, fun c5 => ?_⟩
    · have hw := hw.1 c5
      exact ⟨hw.1, hp _ _ _ h hw.2⟩
    · have hw := hw.2 c5
      exact rX9_passes_19 hp _ _ h hw
  · have hw := hw.2 c2
    exact rX9_passes_19 hp _ _ h hw
-- X9_digits
set_option maxRecDepth 100000 in
set_option maxHeartbeats 4000000 in
theorem rX9_digits_126 {g : Nat → Nat} {post post' : Int32 → Pool → Prop} (hp : ∀ v S M, CR g S M → post' v M → post v S) : ∀ (v0 : Option Nat) (v4 : Int32) (S M : Pool), CR g S M → wX9_digits_126 post' v0 v4 M → wX9_digits_126 post (v0.map g) v4 S := by
  intro v0 v4 S M h hw
  unfold wX9_digits_126 at hw ⊢
  refine cr_rc h hw (fun hw => ?_)
  refine rX9_wrong (fun a1 S M h hw => ?_) _ _ _ _ h hw
  exact ⟨hw.1, hp _ _ _ h hw.2⟩
set_option maxRecDepth 100000 in
set_option maxHeartbeats 4000000 in
theorem rX9_digits_105 {g : Nat → Nat} {post post' : Int32 → Pool → Prop} (hp : ∀ v S M, CR g S M → post' v M → post v S) : ∀ (v0 : Option Nat) (v1 : Int32) (v2 : Int32) (v4 : Int32) (v5 : Int32) (S M : Pool), CR g S M → wX9_digits_105 post' v0 v1 v2 v4 v5 M → wX9_digits_105 post (v0.map g) v1 v2 v4 v5 S := by
  intro v0 v1 v2 v4 v5 S M h hw
  unfold wX9_digits_105 at hw ⊢
  refine cr_I h hw (fun a1 hw => ?_)
  refine ⟨fun c2 => ?_, fun c2 => ?_⟩
  · have hw := hw.1 c2
    exact rX9_digits_126 hp _ _ _ _ h hw
  · have hw := hw.2 c2
    refine ⟨fun c3 => ?_, fun c3 => ?_⟩
    · have hw := hw.1 c3
      exact rX9_digits_126 hp _ _ _ _ h hw
    · have hw := hw.2 c3
      refine ⟨fun c4 => ?_, fun c4 => ?_⟩
      · have hw := hw.1 c4
        refine cr_pI h hw (fun S M h hw => ?_)
        exact ⟨hw.1, hp _ _ _ h hw.2⟩
      · have hw := hw.2 c4
        exact rX9_digits_126 hp _ _ _ _ h hw
set_option maxRecDepth 100000 in
set_option maxHeartbeats 4000000 in
theorem rX9_digits_14 {g : Nat → Nat} {post post' : Int32 → Pool → Prop} (hp : ∀ v S M, CR g S M → post' v M → post v S) : ∀ (n : Nat) (v0 : Option Nat) (v1 : Int32) (v2 : Int32) (v4 : Int32) (v5 : Int32) (S M : Pool), CR g S M → wX9_digits_14 post' n v0 v1 v2 v4 v5 M → wX9_digits_14 post n (v0.map g) v1 v2 v4 v5 S := by
  intro n
  induction n with
  | zero => intro v0 v1 v2 v4 v5 S M h hw; exact False.elim hw
  | succ n ih =>
    intro v0 v1 v2 v4 v5 S M h hw
    unfold wX9_digits_14 at hw ⊢
    refine cr_I h hw (fun a1 hw => ?_)
    refine cr_I h hw (fun a2 hw => ?_)
    refine ⟨fun c3 => ?_, fun c3 => ?_⟩
    · have hw := hw.1 c3
      exact rX9_digits_105 hp _ _ _ _ _ _ _ h hw
    · have hw := hw.2 c3
      refine cr_R h hw (fun a4 hw => ?_)
      refine cr_I h hw (fun a5 hw => ?_)
      refine cr_aI h hw (fun a6 hw => ?_)
      refine ⟨fun c7 => ?_, fun c7 => ?_⟩
      · have hw := hw.1 c7
        exact rX9_digits_105 hp _ _ _ _ _ _ _ h hw
      · have hw := hw.2 c7
        refine cr_R h hw (fun a8 hw => ?_)
        refine cr_I h hw (fun a9 hw => ?_)
        refine cr_aI h hw (fun a10 hw => ?_)
        refine ⟨fun c11 => ?_, fun c11 => ?_⟩
        · have hw := hw.1 c11
          exact rX9_digits_105 hp _ _ _ _ _ _ _ h hw
        · have hw := hw.2 c11
          refine cr_I h hw (fun a12 hw => ?_)
          refine ⟨fun c13 => ?_, fun c13 => ?_⟩
          · have hw := hw.1 c13
            refine cr_rc h hw (fun hw => ?_)
            refine rX9_wrong (fun a18 S M h hw => ?_) _ _ _ _ h hw
            exact ⟨hw.1, hp _ _ _ h hw.2⟩
          · have hw := hw.2 c13
            refine cr_R h hw (fun a14 hw => ?_)
            refine cr_I h hw (fun a15 hw => ?_)
            refine cr_aI h hw (fun a16 hw => ?_)
            refine cr_I h hw (fun a17 hw => ?_)
            refine cr_pI h hw (fun S M h hw => ?_)
            exact ih _ _ _ _ _ _ _ h hw
set_option maxRecDepth 100000 in
set_option maxHeartbeats 4000000 in
theorem rX9_digits {g : Nat → Nat} {post post' : Int32 → Pool → Prop} (hp : ∀ v S M, CR g S M → post' v M → post v S) : ∀ (v0 : Option Nat) (v1 : Int32) (v2 : Int32) (S M : Pool), CR g S M → wX9_digits post' v0 v1 v2 M → wX9_digits post (v0.map g) v1 v2 S := by
  intro v0 v1 v2 S M h hw
  unfold wX9_digits at hw ⊢
  refine cr_rc h hw (fun hw => ?_)
  refine rX9_sign (fun a1 S M h hw => ?_) _ _ _ h hw
  refine cr_I h hw (fun a2 hw => ?_)
  obtain ⟨n1, hw⟩ := hw
  exact ⟨n1, rX9_digits_14 hp n1 _ _ _ _ _ _ _ h hw⟩
-- X9_fieldHere
set_option maxRecDepth 100000 in
set_option maxHeartbeats 4000000 in
theorem rX9_fieldHere {g : Nat → Nat} {post post' : Int32 → Pool → Prop} (hp : ∀ v S M, CR g S M → post' v M → post v S) : ∀ (v0 : Option Nat) (S M : Pool), CR g S M → wX9_fieldHere post' v0 M → wX9_fieldHere post (v0.map g) S := by
  intro v0 S M h hw
  unfold wX9_fieldHere at hw ⊢
  refine cr_rc h hw (fun hw => ?_)
  refine rX9_isWord (fun a1 S M h hw => ?_) _ _ _ _ h hw
  refine ⟨fun c2 => ?_, fun c2 => ?_⟩
  · have hw := hw.1 c2
    refine cr_rc h hw (fun hw => ?_)
    refine rX9_isWord (fun a3 S M h hw => ?_) _ _ _ _ h hw
    refine ⟨fun c4 => ?_, fun c4 => ?_⟩
    · have hw := hw.1 c4
      refine cr_rc h hw (fun hw => ?_)
      refine rX9_isWord (fun a5 S M h hw => ?_) _ _ _ _ h hw
      refine ⟨fun c6 => ?_, fun c6 => ?_⟩
      · have hw := hw.1 c6
        exact hp _ _ _ h hw
      · have hw := hw.2 c6
        exact hp _ _ _ h hw
    · have hw := hw.2 c4
      exact hp _ _ _ h hw
  · have hw := hw.2 c2
    exact hp _ _ _ h hw
-- X9_readField
set_option maxRecDepth 100000 in
set_option maxHeartbeats 4000000 in
theorem rX9_readField {g : Nat → Nat} {post post' : Int32 → Pool → Prop} (hp : ∀ v S M, CR g S M → post' v M → post v S) : ∀ (v0 : Option Nat) (S M : Pool), CR g S M → wX9_readField post' v0 M → wX9_readField post (v0.map g) S := by
  intro v0 S M h hw
  unfold wX9_readField at hw ⊢
  refine cr_rc h hw (fun hw => ?_)
  refine rX9_fieldHere (fun a1 S M h hw => ?_) _ _ _ h hw
  refine ⟨fun c2 => ?_, fun c2 => ?_⟩
  · have hw := hw.1 c2
    refine cr_I h hw (fun a5 hw => ?_)
    refine cr_rc h hw (fun hw => ?_)
    refine rX9_wrong (fun a6 S M h hw => ?_) _ _ _ _ h hw
    exact ⟨hw.1, hp _ _ _ h hw.2⟩
  · have hw := hw.2 c2
    refine cr_rc h hw (fun hw => ?_)
    refine rX9_wordEnd (fun a3 S M h hw => ?_) _ _ _ h hw
    refine cr_pI h hw (fun S M h hw => ?_)
    refine cr_I h hw (fun a4 hw => ?_)
    refine cr_pI h hw (fun S M h hw => ?_)
    refine cr_pI h hw (fun S M h hw => ?_)
    exact ⟨hw.1, hp _ _ _ h hw.2⟩
-- X9_pending
set_option maxRecDepth 100000 in
set_option maxHeartbeats 4000000 in
theorem rX9_pending_43 {g : Nat → Nat} {K8 K8' : Option Nat → Int32 → Int32 → Int32 → Pool → Prop} {post post' : Int32 → Pool → Prop} (hp : ∀ v S M, CR g S M → post' v M → post v S) (hK8 : ∀ (v0 : Option Nat) (v2 : Int32) (v3 : Int32) (v4 : Int32) (S M : Pool), CR g S M → K8' v0 v2 v3 v4 M → K8 (v0.map g) v2 v3 v4 S) : ∀ (v0 : Option Nat) (v2 : Int32) (v3 : Int32) (v4 : Int32) (z0 : Int32) (S M : Pool), CR g S M → wX9_pending_43 K8' post' v0 v2 v3 v4 z0 M → wX9_pending_43 K8 post (v0.map g) v2 v3 v4 z0 S := by
  intro v0 v2 v3 v4 z0 S M h hw
  unfold wX9_pending_43 at hw ⊢
  refine ⟨fun c1 => ?_, fun c1 => ?_⟩
  · have hw := hw.1 c1
    exact ⟨hw.1, hp _ _ _ h hw.2⟩
  · have hw := hw.2 c1
    exact hK8 _ _ _ _ _ _ h hw
set_option maxRecDepth 100000 in
set_option maxHeartbeats 4000000 in
theorem rX9_pending_8 {g : Nat → Nat} {post post' : Int32 → Pool → Prop} (hp : ∀ v S M, CR g S M → post' v M → post v S) : ∀ (n : Nat) (v0 : Option Nat) (v2 : Int32) (v3 : Int32) (v4 : Int32) (S M : Pool), CR g S M → wX9_pending_8 post' n v0 v2 v3 v4 M → wX9_pending_8 post n (v0.map g) v2 v3 v4 S := by
  intro n
  induction n with
  | zero => intro v0 v2 v3 v4 S M h hw; exact False.elim hw
  | succ n ih =>
    intro v0 v2 v3 v4 S M h hw
    unfold wX9_pending_8 at hw ⊢
    refine ⟨fun c1 => ?_, fun c1 => ?_⟩
    · have hw := hw.1 c1
      exact ⟨hw.1, hp _ _ _ h hw.2⟩
    · have hw := hw.2 c1
      refine cr_R h hw (fun a2 hw => ?_)
      refine cr_aI h hw (fun a3 hw => ?_)
      refine ⟨fun c4 => ?_, fun c4 => ?_⟩
      · have hw := hw.1 c4
        exact ⟨hw.1, hp _ _ _ h hw.2⟩
      · have hw := hw.2 c4
        refine cr_R h hw (fun a5 hw => ?_)
        refine cr_aI h hw (fun a6 hw => ?_)
        refine ⟨fun c7 => ?_, fun c7 => ?_⟩
        · have hw := hw.1 c7
          exact rX9_pending_43 hp ih _ _ _ _ _ _ _ h hw
        · have hw := hw.2 c7
          exact rX9_pending_43 hp ih _ _ _ _ _ _ _ h hw
set_option maxRecDepth 100000 in
set_option maxHeartbeats 4000000 in
theorem rX9_pending {g : Nat → Nat} {post post' : Int32 → Pool → Prop} (hp : ∀ v S M, CR g S M → post' v M → post v S) : ∀ (v0 : Option Nat) (v1 : Int32) (v2 : Int32) (S M : Pool), CR g S M → wX9_pending post' v0 v1 v2 M → wX9_pending post (v0.map g) v1 v2 S := by
  intro v0 v1 v2 S M h hw
  unfold wX9_pending at hw ⊢
  obtain ⟨n1, hw⟩ := hw
  exact ⟨n1, rX9_pending_8 hp n1 _ _ _ _ _ _ h hw⟩
-- X9_readStep
set_option maxRecDepth 100000 in
set_option maxHeartbeats 4000000 in
theorem rX9_readStep_295 {g : Nat → Nat} {post post' : Int32 → Pool → Prop} (hp : ∀ v S M, CR g S M → post' v M → post v S) : ∀ (v0 : Option Nat) (v1 : Int32) (v2 : Int32) (S M : Pool), CR g S M → wX9_readStep_295 post' v0 v1 v2 M → wX9_readStep_295 post (v0.map g) v1 v2 S := by
  intro v0 v1 v2 S M h hw
  unfold wX9_readStep_295 at hw ⊢
  refine cr_rc h hw (fun hw => ?_)
  refine rX9_isWord (fun a1 S M h hw => ?_) _ _ _ _ h hw
  refine ⟨fun c2 => ?_, fun c2 => ?_⟩
  · have hw := hw.1 c2
    exact ⟨hw.1, hp _ _ _ h hw.2⟩
  · have hw := hw.2 c2
    refine ⟨fun c3 => ?_, fun c3 => ?_⟩
    · have hw := hw.1 c3
      refine cr_I h hw (fun a9 hw => ?_)
      refine cr_rc h hw (fun hw => ?_)
      refine rX9_wrong (fun a10 S M h hw => ?_) _ _ _ _ h hw
      exact ⟨hw.1, hp _ _ _ h hw.2⟩
    · have hw := hw.2 c3
      refine cr_rc h hw (fun hw => ?_)
      refine rX9_wordEnd (fun a4 S M h hw => ?_) _ _ _ h hw
      refine cr_pI h hw (fun S M h hw => ?_)
      refine cr_rc h hw (fun hw => ?_)
      refine rX9_digits (fun a5 S M h hw => ?_) _ _ _ _ _ h hw
      refine ⟨fun c6 => ?_, fun c6 => ?_⟩
      · have hw := hw.1 c6
        exact ⟨hw.1, hp _ _ _ h hw.2⟩
      · have hw := hw.2 c6
        refine cr_R h hw (fun a7 hw => ?_)
        refine cr_I h hw (fun a8 hw => ?_)
        refine cr_sI h hw (fun S M h hw => ?_)
        exact ⟨hw.1, hp _ _ _ h hw.2⟩
set_option maxRecDepth 100000 in
set_option maxHeartbeats 4000000 in
theorem rX9_readStep_210 {g : Nat → Nat} {K160 K160' : Option Nat → Int32 → Int32 → Int32 → Pool → Prop} {post post' : Int32 → Pool → Prop} (hp : ∀ v S M, CR g S M → post' v M → post v S) (hK160 : ∀ (v0 : Option Nat) (v1 : Int32) (v2 : Int32) (v3 : Int32) (S M : Pool), CR g S M → K160' v0 v1 v2 v3 M → K160 (v0.map g) v1 v2 v3 S) : ∀ (v0 : Option Nat) (v1 : Int32) (v2 : Int32) (v3 : Int32) (z0 : Int32) (z1 : Int32) (z2 : Option Nat) (S M : Pool), CR g S M → wX9_readStep_210 K160' post' v0 v1 v2 v3 z0 z1 z2 M → wX9_readStep_210 K160 post (v0.map g) v1 v2 v3 z0 z1 (z2.map g) S := by
  intro v0 v1 v2 v3 z0 z1 z2 S M h hw
  unfold wX9_readStep_210 at hw ⊢
  refine cr_rc h hw (fun hw => ?_)
  refine rX9_digits (fun a1 S M h hw => ?_) _ _ _ _ _ h hw
  refine ⟨fun c2 => ?_, fun c2 => ?_⟩
  · have hw := hw.1 c2
    exact ⟨hw.1, hp _ _ _ h hw.2⟩
  · have hw := hw.2 c2
    refine cr_R h hw (fun a3 hw => ?_)
    refine cr_I h hw (fun a4 hw => ?_)
    refine cr_sI h hw (fun S M h hw => ?_)
    refine cr_I h hw (fun a5 hw => ?_)
    refine cr_pI h hw (fun S M h hw => ?_)
    refine cr_rc h hw (fun hw => ?_)
    refine rX9_fieldHere (fun a6 S M h hw => ?_) _ _ _ h hw
    exact hK160 _ _ _ _ _ _ h hw
set_option maxRecDepth 100000 in
set_option maxHeartbeats 4000000 in
theorem rX9_readStep_160 {g : Nat → Nat} {post post' : Int32 → Pool → Prop} (hp : ∀ v S M, CR g S M → post' v M → post v S) : ∀ (n : Nat) (v0 : Option Nat) (v1 : Int32) (v2 : Int32) (v3 : Int32) (S M : Pool), CR g S M → wX9_readStep_160 post' n v0 v1 v2 v3 M → wX9_readStep_160 post n (v0.map g) v1 v2 v3 S := by
  intro n
  induction n with
  | zero => intro v0 v1 v2 v3 S M h hw; exact False.elim hw
  | succ n ih =>
    intro v0 v1 v2 v3 S M h hw
    unfold wX9_readStep_160 at hw ⊢
    refine ⟨fun c1 => ?_, fun c1 => ?_⟩
    · have hw := hw.1 c1
      refine cr_rc h hw (fun hw => ?_)
      refine rX9_isWord (fun a2 S M h hw => ?_) _ _ _ _ h hw
      refine ⟨fun c3 => ?_, fun c3 => ?_⟩
      · have hw := hw.1 c3
        exact rX9_readStep_295 hp _ _ _ _ _ h hw
      · have hw := hw.2 c3
        refine cr_R h hw (fun a4 hw => ?_)
        refine cr_aI h hw (fun a5 hw => ?_)
        refine ⟨fun c6 => ?_, fun c6 => ?_⟩
        · have hw := hw.1 c6
          refine cr_rc h hw (fun hw => ?_)
          refine rX9_wordEnd (fun a7 S M h hw => ?_) _ _ _ h hw
          refine cr_pI h hw (fun S M h hw => ?_)
          refine cr_R h hw (fun a8 hw => ?_)
          refine cr_sZ h hw (fun S M h hw => ?_)
          exact rX9_readStep_295 hp _ _ _ _ _ h hw
        · have hw := hw.2 c6
          refine cr_I h hw (fun a9 hw => ?_)
          refine cr_rc h hw (fun hw => ?_)
          refine rX9_wrong (fun a10 S M h hw => ?_) _ _ _ _ h hw
          exact ⟨hw.1, hp _ _ _ h hw.2⟩
    · have hw := hw.2 c1
      refine cr_R h hw (fun a11 hw => ?_)
      refine cr_aI h hw (fun a12 hw => ?_)
      refine ⟨fun c13 => ?_, fun c13 => ?_⟩
      · have hw := hw.1 c13
        refine cr_rc h hw (fun hw => ?_)
        refine rX9_wordEnd (fun a14 S M h hw => ?_) _ _ _ h hw
        refine cr_pI h hw (fun S M h hw => ?_)
        refine ⟨fun c15 => ?_, fun c15 => ?_⟩
        · have hw := hw.1 c15
          exact rX9_readStep_210 hp ih _ _ _ _ _ _ _ _ _ h hw
        · have hw := hw.2 c15
          exact rX9_readStep_210 hp ih _ _ _ _ _ _ _ _ _ h hw
      · have hw := hw.2 c13
        refine cr_I h hw (fun a16 hw => ?_)
        refine cr_rc h hw (fun hw => ?_)
        refine rX9_wrong (fun a17 S M h hw => ?_) _ _ _ _ h hw
        exact ⟨hw.1, hp _ _ _ h hw.2⟩
set_option maxRecDepth 100000 in
set_option maxHeartbeats 4000000 in
theorem rX9_readStep_125 {g : Nat → Nat} {post post' : Int32 → Pool → Prop} (hp : ∀ v S M, CR g S M → post' v M → post v S) : ∀ (v0 : Option Nat) (v1 : Int32) (v2 : Int32) (S M : Pool), CR g S M → wX9_readStep_125 post' v0 v1 v2 M → wX9_readStep_125 post (v0.map g) v1 v2 S := by
  intro v0 v1 v2 S M h hw
  unfold wX9_readStep_125 at hw ⊢
  refine cr_rc h hw (fun hw => ?_)
  refine rX9_wordEnd (fun a1 S M h hw => ?_) _ _ _ h hw
  refine cr_pI h hw (fun S M h hw => ?_)
  refine cr_rc h hw (fun hw => ?_)
  refine rX9_digits (fun a2 S M h hw => ?_) _ _ _ _ _ h hw
  refine ⟨fun c3 => ?_, fun c3 => ?_⟩
  · have hw := hw.1 c3
    exact ⟨hw.1, hp _ _ _ h hw.2⟩
  · have hw := hw.2 c3
    refine cr_R h hw (fun a4 hw => ?_)
    refine cr_I h hw (fun a5 hw => ?_)
    refine cr_sI h hw (fun S M h hw => ?_)
    refine cr_rc h hw (fun hw => ?_)
    refine rX9_fieldHere (fun a6 S M h hw => ?_) _ _ _ h hw
    obtain ⟨n1, hw⟩ := hw
    exact ⟨n1, rX9_readStep_160 hp n1 _ _ _ _ _ _ h hw⟩
set_option maxRecDepth 100000 in
set_option maxHeartbeats 4000000 in
theorem rX9_readStep_116 {g : Nat → Nat} {post post' : Int32 → Pool → Prop} (hp : ∀ v S M, CR g S M → post' v M → post v S) : ∀ (v0 : Option Nat) (S M : Pool), CR g S M → wX9_readStep_116 post' v0 M → wX9_readStep_116 post (v0.map g) S := by
  intro v0 S M h hw
  unfold wX9_readStep_116 at hw ⊢
  refine cr_I h hw (fun a1 hw => ?_)
  refine cr_rc h hw (fun hw => ?_)
  refine rX9_wrong (fun a2 S M h hw => ?_) _ _ _ _ h hw
  exact ⟨hw.1, hp _ _ _ h hw.2⟩
set_option maxRecDepth 100000 in
set_option maxHeartbeats 4000000 in
theorem rX9_readStep_88 {g : Nat → Nat} {post post' : Int32 → Pool → Prop} (hp : ∀ v S M, CR g S M → post' v M → post v S) : ∀ (v0 : Option Nat) (v1 : Int32) (v2 : Int32) (S M : Pool), CR g S M → wX9_readStep_88 post' v0 v1 v2 M → wX9_readStep_88 post (v0.map g) v1 v2 S := by
  intro v0 v1 v2 S M h hw
  unfold wX9_readStep_88 at hw ⊢
  refine cr_rc h hw (fun hw => ?_)
  refine rX9_isWord (fun a1 S M h hw => ?_) _ _ _ _ h hw
  refine ⟨fun c2 => ?_, fun c2 => ?_⟩
  · have hw := hw.1 c2
    exact rX9_readStep_116 hp _ _ _ h hw
  · have hw := hw.2 c2
    refine cr_R h hw (fun a3 hw => ?_)
    refine cr_aI h hw (fun a4 hw => ?_)
    refine ⟨fun c5 => ?_, fun c5 => ?_⟩
    · have hw := hw.1 c5
      refine cr_rc h hw (fun hw => ?_)
      refine rX9_pending (fun a6 S M h hw => ?_) _ _ _ _ _ h hw
      refine ⟨fun c7 => ?_, fun c7 => ?_⟩
      · have hw := hw.1 c7
        exact rX9_readStep_125 hp _ _ _ _ _ h hw
      · have hw := hw.2 c7
        exact rX9_readStep_116 hp _ _ _ h hw
    · have hw := hw.2 c5
      exact rX9_readStep_125 hp _ _ _ _ _ h hw
set_option maxRecDepth 100000 in
set_option maxHeartbeats 4000000 in
theorem rX9_readStep_7 {g : Nat → Nat} {post post' : Int32 → Pool → Prop} (hp : ∀ v S M, CR g S M → post' v M → post v S) : ∀ (n : Nat) (v0 : Option Nat) (v1 : Int32) (v2 : Int32) (v3 : Int32) (S M : Pool), CR g S M → wX9_readStep_7 post' n v0 v1 v2 v3 M → wX9_readStep_7 post n (v0.map g) v1 v2 v3 S := by
  intro n
  induction n with
  | zero => intro v0 v1 v2 v3 S M h hw; exact False.elim hw
  | succ n ih =>
    intro v0 v1 v2 v3 S M h hw
    unfold wX9_readStep_7 at hw ⊢
    refine ⟨fun c1 => ?_, fun c1 => ?_⟩
    · have hw := hw.1 c1
      refine cr_R h hw (fun a2 hw => ?_)
      refine cr_sZ h hw (fun S M h hw => ?_)
      refine cr_R h hw (fun a3 hw => ?_)
      refine cr_sI h hw (fun S M h hw => ?_)
      refine cr_R h hw (fun a4 hw => ?_)
      refine cr_sZ h hw (fun S M h hw => ?_)
      refine cr_rc h hw (fun hw => ?_)
      refine rX9_isWord (fun a5 S M h hw => ?_) _ _ _ _ h hw
      refine ⟨fun c6 => ?_, fun c6 => ?_⟩
      · have hw := hw.1 c6
        exact rX9_readStep_88 hp _ _ _ _ _ h hw
      · have hw := hw.2 c6
        refine ⟨fun c7 => ?_, fun c7 => ?_⟩
        · have hw := hw.1 c7
          refine cr_I h hw (fun a10 hw => ?_)
          refine cr_rc h hw (fun hw => ?_)
          refine rX9_wrong (fun a11 S M h hw => ?_) _ _ _ _ h hw
          exact ⟨hw.1, hp _ _ _ h hw.2⟩
        · have hw := hw.2 c7
          refine cr_rc h hw (fun hw => ?_)
          refine rX9_wordEnd (fun a8 S M h hw => ?_) _ _ _ h hw
          refine cr_pI h hw (fun S M h hw => ?_)
          refine cr_R h hw (fun a9 hw => ?_)
          refine cr_sZ h hw (fun S M h hw => ?_)
          exact rX9_readStep_88 hp _ _ _ _ _ h hw
    · have hw := hw.2 c1
      refine cr_R h hw (fun a12 hw => ?_)
      refine cr_sI h hw (fun S M h hw => ?_)
      exact ih _ _ _ _ _ _ h hw
set_option maxRecDepth 100000 in
set_option maxHeartbeats 4000000 in
theorem rX9_readStep {g : Nat → Nat} {post post' : Int32 → Pool → Prop} (hp : ∀ v S M, CR g S M → post' v M → post v S) : ∀ (v0 : Option Nat) (v1 : Int32) (S M : Pool), CR g S M → wX9_readStep post' v0 v1 M → wX9_readStep post (v0.map g) v1 S := by
  intro v0 v1 S M h hw
  unfold wX9_readStep at hw ⊢
  obtain ⟨n1, hw⟩ := hw
  exact ⟨n1, rX9_readStep_7 hp n1 _ _ _ _ _ _ h hw⟩
-- X9_readSpread
set_option maxRecDepth 100000 in
set_option maxHeartbeats 4000000 in
theorem rX9_readSpread_103 {g : Nat → Nat} {post post' : Int32 → Pool → Prop} (hp : ∀ v S M, CR g S M → post' v M → post v S) : ∀ (S M : Pool), CR g S M → wX9_readSpread_103 post' M → wX9_readSpread_103 post S := by
  intro S M h hw
  unfold wX9_readSpread_103 at hw ⊢
  exact ⟨hw.1, hp _ _ _ h hw.2⟩
set_option maxRecDepth 100000 in
set_option maxHeartbeats 4000000 in
theorem rX9_readSpread {g : Nat → Nat} {post post' : Int32 → Pool → Prop} (hp : ∀ v S M, CR g S M → post' v M → post v S) : ∀ (v0 : Option Nat) (S M : Pool), CR g S M → wX9_readSpread post' v0 M → wX9_readSpread post (v0.map g) S := by
  intro v0 S M h hw
  unfold wX9_readSpread at hw ⊢
  refine cr_rc h hw (fun hw => ?_)
  refine rX9_wordEnd (fun a1 S M h hw => ?_) _ _ _ h hw
  refine cr_pI h hw (fun S M h hw => ?_)
  refine cr_rc h hw (fun hw => ?_)
  refine rX9_readField (fun a2 S M h hw => ?_) _ _ _ h hw
  refine ⟨fun c3 => ?_, fun c3 => ?_⟩
  · have hw := hw.1 c3
    exact ⟨hw.1, hp _ _ _ h hw.2⟩
  · have hw := hw.2 c3
    refine cr_R h hw (fun a4 hw => ?_)
    refine cr_I h hw (fun a5 hw => ?_)
    refine cr_sI h hw (fun S M h hw => ?_)
    refine cr_rc h hw (fun hw => ?_)
    refine rX9_digits (fun a6 S M h hw => ?_) _ _ _ _ _ h hw
    refine ⟨fun c7 => ?_, fun c7 => ?_⟩
    · have hw := hw.1 c7
      exact ⟨hw.1, hp _ _ _ h hw.2⟩
    · have hw := hw.2 c7
      refine cr_R h hw (fun a8 hw => ?_)
      refine cr_I h hw (fun a9 hw => ?_)
      refine cr_sI h hw (fun S M h hw => ?_)
      refine cr_rc h hw (fun hw => ?_)
      refine rX9_passes (fun a10 S M h hw => ?_) _ _ _ _ h hw
      refine ⟨fun c11 => ?_, fun c11 => ?_⟩
      · have hw := hw.1 c11
        exact ⟨hw.1, hp _ _ _ h hw.2⟩
      · have hw := hw.2 c11
        refine cr_rc h hw (fun hw => ?_)
        refine rX9_digits (fun a12 S M h hw => ?_) _ _ _ _ _ h hw
        refine ⟨fun c13 => ?_, fun c13 => ?_⟩
        · have hw := hw.1 c13
          exact ⟨hw.1, hp _ _ _ h hw.2⟩
        · have hw := hw.2 c13
          refine cr_R h hw (fun a14 hw => ?_)
          refine cr_I h hw (fun a15 hw => ?_)
          refine cr_sI h hw (fun S M h hw => ?_)
          refine cr_rc h hw (fun hw => ?_)
          refine rX9_sign (fun a16 S M h hw => ?_) _ _ _ h hw
          refine ⟨fun c17 => ?_, fun c17 => ?_⟩
          · have hw := hw.1 c17
            exact rX9_readSpread_103 hp _ _ h hw
          · have hw := hw.2 c17
            refine cr_I h hw (fun a18 hw => ?_)
            refine cr_rc h hw (fun hw => ?_)
            refine rX9_wrong (fun a19 S M h hw => ?_) _ _ _ _ h hw
            refine ⟨fun c20 => ?_, fun c20 => ?_⟩
            · have hw := hw.1 c20
              exact ⟨hw.1, hp _ _ _ h hw.2⟩
            · have hw := hw.2 c20
              exact rX9_readSpread_103 hp _ _ h hw
-- X9_readText
set_option maxRecDepth 100000 in
set_option maxHeartbeats 4000000 in
theorem rX9_readText_274 {g : Nat → Nat} {post post' : Int32 → Pool → Prop} (hp : ∀ v S M, CR g S M → post' v M → post v S) : ∀ (S M : Pool), CR g S M → wX9_readText_274 post' M → wX9_readText_274 post S := by
  intro S M h hw
  unfold wX9_readText_274 at hw ⊢
  exact ⟨hw.1, hp _ _ _ h hw.2⟩
set_option maxRecDepth 100000 in
set_option maxHeartbeats 4000000 in
theorem rX9_readText_227 {g : Nat → Nat} {K71 K71' : Option Nat → Int32 → Pool → Prop} {post post' : Int32 → Pool → Prop} (hp : ∀ v S M, CR g S M → post' v M → post v S) (hK71 : ∀ (v0 : Option Nat) (v1 : Int32) (S M : Pool), CR g S M → K71' v0 v1 M → K71 (v0.map g) v1 S) : ∀ (v0 : Option Nat) (z0 : Int32) (S M : Pool), CR g S M → wX9_readText_227 K71' post' v0 z0 M → wX9_readText_227 K71 post (v0.map g) z0 S := by
  intro v0 z0 S M h hw
  unfold wX9_readText_227 at hw ⊢
  exact hK71 _ _ _ _ h hw
set_option maxRecDepth 100000 in
set_option maxHeartbeats 4000000 in
theorem rX9_readText_182 {g : Nat → Nat} {post post' : Int32 → Pool → Prop} (hp : ∀ v S M, CR g S M → post' v M → post v S) : ∀ (z0 : Int32) (z1 : Option Nat) (S M : Pool), CR g S M → wX9_readText_182 post' z0 z1 M → wX9_readText_182 post z0 (z1.map g) S := by
  intro z0 z1 S M h hw
  unfold wX9_readText_182 at hw ⊢
  refine cr_rc h hw (fun hw => ?_)
  refine rX9_wrong (fun a1 S M h hw => ?_) _ _ _ _ h hw
  exact ⟨hw.1, hp _ _ _ h hw.2⟩
set_option maxRecDepth 100000 in
set_option maxHeartbeats 4000000 in
theorem rX9_readText_174 {g : Nat → Nat} {post post' : Int32 → Pool → Prop} (hp : ∀ v S M, CR g S M → post' v M → post v S) : ∀ (v2 : Int32) (z0 : Option Nat) (S M : Pool), CR g S M → wX9_readText_174 post' v2 z0 M → wX9_readText_174 post v2 (z0.map g) S := by
  intro v2 z0 S M h hw
  unfold wX9_readText_174 at hw ⊢
  exact rX9_readText_182 hp _ _ _ _ h hw
set_option maxRecDepth 100000 in
set_option maxHeartbeats 4000000 in
theorem rX9_readText_141 {g : Nat → Nat} {K71 K71' : Option Nat → Int32 → Pool → Prop} {post post' : Int32 → Pool → Prop} (hp : ∀ v S M, CR g S M → post' v M → post v S) (hK71 : ∀ (v0 : Option Nat) (v1 : Int32) (S M : Pool), CR g S M → K71' v0 v1 M → K71 (v0.map g) v1 S) : ∀ (v0 : Option Nat) (v2 : Int32) (S M : Pool), CR g S M → wX9_readText_141 K71' post' v0 v2 M → wX9_readText_141 K71 post (v0.map g) v2 S := by
  intro v0 v2 S M h hw
  unfold wX9_readText_141 at hw ⊢
  refine cr_R h hw (fun a1 hw => ?_)
  refine cr_aI h hw (fun a2 hw => ?_)
  refine ⟨fun c3 => ?_, fun c3 => ?_⟩
  · have hw := hw.1 c3
    refine cr_rc h hw (fun hw => ?_)
    refine rX9_isWord (fun a12 S M h hw => ?_) _ _ _ _ h hw
    refine ⟨fun c13 => ?_, fun c13 => ?_⟩
    · have hw := hw.1 c13
      refine cr_rc h hw (fun hw => ?_)
      refine rX9_isWord (fun a14 S M h hw => ?_) _ _ _ _ h hw
      refine ⟨fun c15 => ?_, fun c15 => ?_⟩
      · have hw := hw.1 c15
        refine cr_I h hw (fun a16 hw => ?_)
        exact rX9_readText_182 hp _ _ _ _ h hw
      · have hw := hw.2 c15
        exact rX9_readText_174 hp _ _ _ _ h hw
    · have hw := hw.2 c13
      exact rX9_readText_174 hp _ _ _ _ h hw
  · have hw := hw.2 c3
    refine cr_R h hw (fun a4 hw => ?_)
    refine cr_aI h hw (fun a5 hw => ?_)
    refine cr_rc h hw (fun hw => ?_)
    refine rX9_readStep (fun a6 S M h hw => ?_) _ _ _ _ h hw
    refine ⟨fun c7 => ?_, fun c7 => ?_⟩
    · have hw := hw.1 c7
      exact ⟨hw.1, hp _ _ _ h hw.2⟩
    · have hw := hw.2 c7
      refine cr_R h hw (fun a8 hw => ?_)
      refine cr_aI h hw (fun a9 hw => ?_)
      refine cr_sI h hw (fun S M h hw => ?_)
      refine cr_rc h hw (fun hw => ?_)
      refine rX9_sign (fun a10 S M h hw => ?_) _ _ _ h hw
      refine ⟨fun c11 => ?_, fun c11 => ?_⟩
      · have hw := hw.1 c11
        exact rX9_readText_227 hp hK71 _ _ _ _ h hw
      · have hw := hw.2 c11
        exact rX9_readText_227 hp hK71 _ _ _ _ h hw
set_option maxRecDepth 100000 in
set_option maxHeartbeats 4000000 in
theorem rX9_readText_71 {g : Nat → Nat} {post post' : Int32 → Pool → Prop} (hp : ∀ v S M, CR g S M → post' v M → post v S) : ∀ (n : Nat) (v0 : Option Nat) (v1 : Int32) (S M : Pool), CR g S M → wX9_readText_71 post' n v0 v1 M → wX9_readText_71 post n (v0.map g) v1 S := by
  intro n
  induction n with
  | zero => intro v0 v1 S M h hw; exact False.elim hw
  | succ n ih =>
    intro v0 v1 S M h hw
    unfold wX9_readText_71 at hw ⊢
    refine ⟨fun c1 => ?_, fun c1 => ?_⟩
    · have hw := hw.1 c1
      refine cr_rc h hw (fun hw => ?_)
      refine rX9_sign (fun a2 S M h hw => ?_) _ _ _ h hw
      refine ⟨fun c3 => ?_, fun c3 => ?_⟩
      · have hw := hw.1 c3
        refine cr_R h hw (fun a4 hw => ?_)
        refine cr_aI h hw (fun a5 hw => ?_)
        refine cr_rc h hw (fun hw => ?_)
        refine rX9_pending (fun a6 S M h hw => ?_) _ _ _ _ _ h hw
        refine ⟨fun c7 => ?_, fun c7 => ?_⟩
        · have hw := hw.1 c7
          exact rX9_readText_274 hp _ _ h hw
        · have hw := hw.2 c7
          refine cr_I h hw (fun a8 hw => ?_)
          refine cr_rc h hw (fun hw => ?_)
          refine rX9_wrong (fun a9 S M h hw => ?_) _ _ _ _ h hw
          refine ⟨fun c10 => ?_, fun c10 => ?_⟩
          · have hw := hw.1 c10
            exact ⟨hw.1, hp _ _ _ h hw.2⟩
          · have hw := hw.2 c10
            exact rX9_readText_274 hp _ _ h hw
      · have hw := hw.2 c3
        refine cr_I h hw (fun a11 hw => ?_)
        refine cr_rc h hw (fun hw => ?_)
        refine rX9_wrong (fun a12 S M h hw => ?_) _ _ _ _ h hw
        exact ⟨hw.1, hp _ _ _ h hw.2⟩
    · have hw := hw.2 c1
      refine cr_I h hw (fun a13 hw => ?_)
      refine cr_I h hw (fun a14 hw => ?_)
      refine cr_pI h hw (fun S M h hw => ?_)
      refine cr_R h hw (fun a15 hw => ?_)
      refine cr_aI h hw (fun a16 hw => ?_)
      refine ⟨fun c17 => ?_, fun c17 => ?_⟩
      · have hw := hw.1 c17
        exact rX9_readText_141 hp ih _ _ _ _ h hw
      · have hw := hw.2 c17
        refine cr_rc h hw (fun hw => ?_)
        refine rX9_isWord (fun a18 S M h hw => ?_) _ _ _ _ h hw
        refine ⟨fun c19 => ?_, fun c19 => ?_⟩
        · have hw := hw.1 c19
          exact rX9_readText_141 hp ih _ _ _ _ h hw
        · have hw := hw.2 c19
          refine cr_R h hw (fun a20 hw => ?_)
          refine cr_aI h hw (fun a21 hw => ?_)
          refine cr_rc h hw (fun hw => ?_)
          refine rX9_pending (fun a22 S M h hw => ?_) _ _ _ _ _ h hw
          refine ⟨fun c23 => ?_, fun c23 => ?_⟩
          · have hw := hw.1 c23
            refine cr_rc h hw (fun hw => ?_)
            refine rX9_readSpread (fun a24 S M h hw => ?_) _ _ _ h hw
            exact ⟨hw.1, hp _ _ _ h hw.2⟩
          · have hw := hw.2 c23
            refine cr_I h hw (fun a25 hw => ?_)
            refine cr_rc h hw (fun hw => ?_)
            refine rX9_wrong (fun a26 S M h hw => ?_) _ _ _ _ h hw
            exact ⟨hw.1, hp _ _ _ h hw.2⟩
set_option maxRecDepth 100000 in
set_option maxHeartbeats 4000000 in
theorem rX9_readText {g : Nat → Nat} {post post' : Int32 → Pool → Prop} (hp : ∀ v S M, CR g S M → post' v M → post v S) : ∀ (v0 : Option Nat) (S M : Pool), CR g S M → wX9_readText post' v0 M → wX9_readText post (v0.map g) S := by
  intro v0 S M h hw
  unfold wX9_readText at hw ⊢
  refine cr_pI h hw (fun S M h hw => ?_)
  refine cr_R h hw (fun a1 hw => ?_)
  refine cr_sI h hw (fun S M h hw => ?_)
  refine cr_R h hw (fun a2 hw => ?_)
  refine cr_sI h hw (fun S M h hw => ?_)
  refine cr_rc h hw (fun hw => ?_)
  refine rX9_passes (fun a3 S M h hw => ?_) _ _ _ _ h hw
  refine ⟨fun c4 => ?_, fun c4 => ?_⟩
  · have hw := hw.1 c4
    exact ⟨hw.1, hp _ _ _ h hw.2⟩
  · have hw := hw.2 c4
    refine cr_rc h hw (fun hw => ?_)
    refine rX9_readField (fun a5 S M h hw => ?_) _ _ _ h hw
    refine ⟨fun c6 => ?_, fun c6 => ?_⟩
    · have hw := hw.1 c6
      exact ⟨hw.1, hp _ _ _ h hw.2⟩
    · have hw := hw.2 c6
      refine cr_R h hw (fun a7 hw => ?_)
      refine cr_I h hw (fun a8 hw => ?_)
      refine cr_sI h hw (fun S M h hw => ?_)
      refine cr_rc h hw (fun hw => ?_)
      refine rX9_sign (fun a9 S M h hw => ?_) _ _ _ h hw
      refine ⟨fun c10 => ?_, fun c10 => ?_⟩
      · have hw := hw.1 c10
        obtain ⟨n1, hw⟩ := hw
        exact ⟨n1, rX9_readText_71 hp n1 _ _ _ _ h hw⟩
      · have hw := hw.2 c10
        refine cr_I h hw (fun a11 hw => ?_)
        refine cr_rc h hw (fun hw => ?_)
        refine rX9_wrong (fun a12 S M h hw => ?_) _ _ _ _ h hw
        exact ⟨hw.1, hp _ _ _ h hw.2⟩
-- X9_ask
set_option maxRecDepth 100000 in
set_option maxHeartbeats 4000000 in
theorem rX9_ask_273 {g : Nat → Nat} {K194 K194' : Option Nat → Int32 → Int32 → Pool → Prop} {post post' : Int32 → Pool → Prop} (hp : ∀ v S M, CR g S M → post' v M → post v S) (hK194 : ∀ (v0 : Option Nat) (v2 : Int32) (v3 : Int32) (S M : Pool), CR g S M → K194' v0 v2 v3 M → K194 (v0.map g) v2 v3 S) : ∀ (n : Nat) (v0 : Option Nat) (v2 : Int32) (v3 : Int32) (v4 : Int32) (v5 : Int32) (v6 : Int32) (S M : Pool), CR g S M → wX9_ask_273 K194' post' n v0 v2 v3 v4 v5 v6 M → wX9_ask_273 K194 post n (v0.map g) v2 v3 v4 v5 v6 S := by
  intro n
  induction n with
  | zero => intro v0 v2 v3 v4 v5 v6 S M h hw; exact False.elim hw
  | succ n ih =>
    intro v0 v2 v3 v4 v5 v6 S M h hw
    unfold wX9_ask_273 at hw ⊢
    refine ⟨fun c1 => ?_, fun c1 => ?_⟩
    · have hw := hw.1 c1
      exact hK194 _ _ _ _ _ h hw
    · have hw := hw.2 c1
      refine cr_R h hw (fun a2 hw => ?_)
      refine cr_R h hw (fun a3 hw => ?_)
      refine cr_aI h hw (fun a4 hw => ?_)
      refine cr_sI h hw (fun S M h hw => ?_)
      exact ih _ _ _ _ _ _ _ _ h hw
set_option maxRecDepth 100000 in
set_option maxHeartbeats 4000000 in
theorem rX9_ask_194 {g : Nat → Nat} {post post' : Int32 → Pool → Prop} (hp : ∀ v S M, CR g S M → post' v M → post v S) : ∀ (n : Nat) (v0 : Option Nat) (v2 : Int32) (v3 : Int32) (S M : Pool), CR g S M → wX9_ask_194 post' n v0 v2 v3 M → wX9_ask_194 post n (v0.map g) v2 v3 S := by
  intro n
  induction n with
  | zero => intro v0 v2 v3 S M h hw; exact False.elim hw
  | succ n ih =>
    intro v0 v2 v3 S M h hw
    unfold wX9_ask_194 at hw ⊢
    refine ⟨fun c1 => ?_, fun c1 => ?_⟩
    · have hw := hw.1 c1
      exact hp _ _ _ h hw
    · have hw := hw.2 c1
      refine cr_R h hw (fun a2 hw => ?_)
      refine cr_R h hw (fun a3 hw => ?_)
      refine cr_aI h hw (fun a4 hw => ?_)
      refine cr_sZ h hw (fun S M h hw => ?_)
      refine cr_R h hw (fun a5 hw => ?_)
      refine cr_R h hw (fun a6 hw => ?_)
      refine cr_aI h hw (fun a7 hw => ?_)
      refine cr_sI h hw (fun S M h hw => ?_)
      refine cr_R h hw (fun a8 hw => ?_)
      refine cr_R h hw (fun a9 hw => ?_)
      refine cr_aI h hw (fun a10 hw => ?_)
      refine cr_sZ h hw (fun S M h hw => ?_)
      refine cr_R h hw (fun a11 hw => ?_)
      refine cr_R h hw (fun a12 hw => ?_)
      refine cr_aI h hw (fun a13 hw => ?_)
      refine cr_sI h hw (fun S M h hw => ?_)
      obtain ⟨n1, hw⟩ := hw
      exact ⟨n1, rX9_ask_273 hp ih n1 _ _ _ _ _ _ _ _ h hw⟩
set_option maxRecDepth 100000 in
set_option maxHeartbeats 4000000 in
theorem rX9_ask_103 {g : Nat → Nat} {post post' : Int32 → Pool → Prop} (hp : ∀ v S M, CR g S M → post' v M → post v S) : ∀ (v0 : Option Nat) (S M : Pool), CR g S M → wX9_ask_103 post' v0 M → wX9_ask_103 post (v0.map g) S := by
  intro v0 S M h hw
  unfold wX9_ask_103 at hw ⊢
  refine cr_I h hw (fun a1 hw => ?_)
  refine ⟨fun c2 => ?_, fun c2 => ?_⟩
  · have hw := hw.1 c2
    refine cr_I h hw (fun a3 hw => ?_)
    refine cr_I h hw (fun a4 hw => ?_)
    refine cr_pI h hw (fun S M h hw => ?_)
    refine cr_R h hw (fun a5 hw => ?_)
    refine cr_R h hw (fun a6 hw => ?_)
    refine cr_aI h hw (fun a7 hw => ?_)
    refine cr_sI h hw (fun S M h hw => ?_)
    refine cr_R h hw (fun a8 hw => ?_)
    refine cr_R h hw (fun a9 hw => ?_)
    refine cr_aI h hw (fun a10 hw => ?_)
    refine cr_sI h hw (fun S M h hw => ?_)
    refine cr_R h hw (fun a11 hw => ?_)
    refine cr_R h hw (fun a12 hw => ?_)
    refine cr_aI h hw (fun a13 hw => ?_)
    refine cr_sI h hw (fun S M h hw => ?_)
    refine cr_R h hw (fun a14 hw => ?_)
    refine cr_R h hw (fun a15 hw => ?_)
    refine cr_aI h hw (fun a16 hw => ?_)
    refine cr_sI h hw (fun S M h hw => ?_)
    refine cr_R h hw (fun a17 hw => ?_)
    refine cr_R h hw (fun a18 hw => ?_)
    refine cr_aI h hw (fun a19 hw => ?_)
    refine cr_sI h hw (fun S M h hw => ?_)
    obtain ⟨n1, hw⟩ := hw
    exact ⟨n1, rX9_ask_194 hp n1 _ _ _ _ _ h hw⟩
  · have hw := hw.2 c2
    exact hp _ _ _ h hw
set_option maxRecDepth 100000 in
set_option maxHeartbeats 4000000 in
theorem rX9_ask_33 {g : Nat → Nat} {post post' : Int32 → Pool → Prop} (hp : ∀ v S M, CR g S M → post' v M → post v S) : ∀ (v0 : Option Nat) (v1 : Int32) (z0 : Int32) (z1 : Option Nat) (S M : Pool), CR g S M → wX9_ask_33 post' v0 v1 z0 z1 M → wX9_ask_33 post (v0.map g) v1 z0 (z1.map g) S := by
  intro v0 v1 z0 z1 S M h hw
  unfold wX9_ask_33 at hw ⊢
  refine cr_pI h hw (fun S M h hw => ?_)
  refine cr_I h hw (fun a1 hw => ?_)
  refine ⟨fun c2 => ?_, fun c2 => ?_⟩
  · have hw := hw.1 c2
    refine cr_pI h hw (fun S M h hw => ?_)
    refine cr_rc h hw (fun hw => ?_)
    refine rX9_readText (fun a3 S M h hw => ?_) _ _ _ h hw
    refine ⟨fun c4 => ?_, fun c4 => ?_⟩
    · have hw := hw.1 c4
      refine cr_pI h hw (fun S M h hw => ?_)
      exact rX9_ask_103 hp _ _ _ h hw
    · have hw := hw.2 c4
      refine cr_I h hw (fun a5 hw => ?_)
      refine cr_R h hw (fun a6 hw => ?_)
      refine cr_aI h hw (fun a7 hw => ?_)
      refine ⟨fun c8 => ?_, fun c8 => ?_⟩
      · have hw := hw.1 c8
        refine cr_I h hw (fun a9 hw => ?_)
        refine ⟨fun c10 => ?_, fun c10 => ?_⟩
        · have hw := hw.1 c10
          refine cr_pI h hw (fun S M h hw => ?_)
          exact rX9_ask_103 hp _ _ _ h hw
        · have hw := hw.2 c10
          exact rX9_ask_103 hp _ _ _ h hw
      · have hw := hw.2 c8
        refine cr_pI h hw (fun S M h hw => ?_)
        exact rX9_ask_103 hp _ _ _ h hw
  · have hw := hw.2 c2
    exact hp _ _ _ h hw
set_option maxRecDepth 100000 in
set_option maxHeartbeats 4000000 in
theorem rX9_ask {g : Nat → Nat} {post post' : Int32 → Pool → Prop} (hp : ∀ v S M, CR g S M → post' v M → post v S) : ∀ (v0 : Option Nat) (v1 : Int32) (S M : Pool), CR g S M → wX9_ask post' v0 v1 M → wX9_ask post (v0.map g) v1 S := by
  intro v0 v1 S M h hw
  unfold wX9_ask at hw ⊢
  refine cr_I h hw (fun a1 hw => ?_)
  refine cr_pI h hw (fun S M h hw => ?_)
  refine cr_pI h hw (fun S M h hw => ?_)
  refine cr_pI h hw (fun S M h hw => ?_)
  refine rX9_isIn (fun a2 S M h hw => ?_) _ _ _ _ _ h hw
  refine ⟨fun c3 => ?_, fun c3 => ?_⟩
  · have hw := hw.1 c3
    exact rX9_ask_33 hp _ _ _ _ _ _ h hw
  · have hw := hw.2 c3
    exact rX9_ask_33 hp _ _ _ _ _ _ h hw
-- X9_fault
set_option maxRecDepth 100000 in
set_option maxHeartbeats 4000000 in
theorem rX9_fault {g : Nat → Nat} {post post' : Int32 → Pool → Prop} (hp : ∀ v S M, CR g S M → post' v M → post v S) : ∀ (v0 : Option Nat) (S M : Pool), CR g S M → wX9_fault post' v0 M → wX9_fault post (v0.map g) S := by
  intro v0 S M h hw
  unfold wX9_fault at hw ⊢
  refine cr_pI h hw (fun S M h hw => ?_)
  refine cr_I h hw (fun a1 hw => ?_)
  exact hp _ _ _ h hw
-- X9_fits
set_option maxRecDepth 100000 in
set_option maxHeartbeats 4000000 in
theorem rX9_fits_220 {g : Nat → Nat} {K99 K99' : Option Nat → Int32 → Int32 → Int32 → Int32 → Pool → Prop} {post post' : Int32 → Pool → Prop} (hp : ∀ v S M, CR g S M → post' v M → post v S) (hK99 : ∀ (v0 : Option Nat) (v3 : Int32) (v4 : Int32) (v5 : Int32) (v6 : Int32) (S M : Pool), CR g S M → K99' v0 v3 v4 v5 v6 M → K99 (v0.map g) v3 v4 v5 v6 S) : ∀ (v0 : Option Nat) (v3 : Int32) (v4 : Int32) (v5 : Int32) (v6 : Int32) (S M : Pool), CR g S M → wX9_fits_220 K99' post' v0 v3 v4 v5 v6 M → wX9_fits_220 K99 post (v0.map g) v3 v4 v5 v6 S := by
  intro v0 v3 v4 v5 v6 S M h hw
  unfold wX9_fits_220 at hw ⊢
  exact hK99 _ _ _ _ _ _ _ h hw
set_option maxRecDepth 100000 in
set_option maxHeartbeats 4000000 in
theorem rX9_fits_195 {g : Nat → Nat} {K99 K99' : Option Nat → Int32 → Int32 → Int32 → Int32 → Pool → Prop} {post post' : Int32 → Pool → Prop} (hp : ∀ v S M, CR g S M → post' v M → post v S) (hK99 : ∀ (v0 : Option Nat) (v3 : Int32) (v4 : Int32) (v5 : Int32) (v6 : Int32) (S M : Pool), CR g S M → K99' v0 v3 v4 v5 v6 M → K99 (v0.map g) v3 v4 v5 v6 S) : ∀ (v0 : Option Nat) (v3 : Int32) (v4 : Int32) (v5 : Int32) (v6 : Int32) (z0 : Int32) (S M : Pool), CR g S M → wX9_fits_195 K99' post' v0 v3 v4 v5 v6 z0 M → wX9_fits_195 K99 post (v0.map g) v3 v4 v5 v6 z0 S := by
  intro v0 v3 v4 v5 v6 z0 S M h hw
  unfold wX9_fits_195 at hw ⊢
  refine ⟨fun c1 => ?_, fun c1 => ?_⟩
  · have hw := hw.1 c1
    exact rX9_fits_220 hp hK99 _ _ _ _ _ _ _ h hw
  · have hw := hw.2 c1
    refine cr_R h hw (fun a2 hw => ?_)
    refine cr_aI h hw (fun a3 hw => ?_)
    refine cr_R h hw (fun a4 hw => ?_)
    refine cr_aI h hw (fun a5 hw => ?_)
    refine ⟨fun c6 => ?_, fun c6 => ?_⟩
    · have hw := hw.1 c6
      exact rX9_fits_220 hp hK99 _ _ _ _ _ _ _ h hw
    · have hw := hw.2 c6
      exact ⟨hw.1, hp _ _ _ h hw.2⟩
set_option maxRecDepth 100000 in
set_option maxHeartbeats 4000000 in
theorem rX9_fits_194 {g : Nat → Nat} {K99 K99' : Option Nat → Int32 → Int32 → Int32 → Int32 → Pool → Prop} {post post' : Int32 → Pool → Prop} (hp : ∀ v S M, CR g S M → post' v M → post v S) (hK99 : ∀ (v0 : Option Nat) (v3 : Int32) (v4 : Int32) (v5 : Int32) (v6 : Int32) (S M : Pool), CR g S M → K99' v0 v3 v4 v5 v6 M → K99 (v0.map g) v3 v4 v5 v6 S) : ∀ (v0 : Option Nat) (v3 : Int32) (v4 : Int32) (v5 : Int32) (v6 : Int32) (S M : Pool), CR g S M → wX9_fits_194 K99' post' v0 v3 v4 v5 v6 M → wX9_fits_194 K99 post (v0.map g) v3 v4 v5 v6 S := by
  intro v0 v3 v4 v5 v6 S M h hw
  unfold wX9_fits_194 at hw ⊢
  exact rX9_fits_195 hp hK99 _ _ _ _ _ _ _ _ h hw
set_option maxRecDepth 100000 in
set_option maxHeartbeats 4000000 in
theorem rX9_fits_99 {g : Nat → Nat} {post post' : Int32 → Pool → Prop} (hp : ∀ v S M, CR g S M → post' v M → post v S) : ∀ (n : Nat) (v0 : Option Nat) (v3 : Int32) (v4 : Int32) (v5 : Int32) (v6 : Int32) (S M : Pool), CR g S M → wX9_fits_99 post' n v0 v3 v4 v5 v6 M → wX9_fits_99 post n (v0.map g) v3 v4 v5 v6 S := by
  intro n
  induction n with
  | zero => intro v0 v3 v4 v5 v6 S M h hw; exact False.elim hw
  | succ n ih =>
    intro v0 v3 v4 v5 v6 S M h hw
    unfold wX9_fits_99 at hw ⊢
    refine cr_I h hw (fun a1 hw => ?_)
    refine ⟨fun c2 => ?_, fun c2 => ?_⟩
    · have hw := hw.1 c2
      exact ⟨hw.1, hp _ _ _ h hw.2⟩
    · have hw := hw.2 c2
      refine cr_R h hw (fun a3 hw => ?_)
      refine cr_aI h hw (fun a4 hw => ?_)
      refine ⟨fun c5 => ?_, fun c5 => ?_⟩
      · have hw := hw.1 c5
        exact ⟨hw.1, hp _ _ _ h hw.2⟩
      · have hw := hw.2 c5
        refine cr_R h hw (fun a6 hw => ?_)
        refine cr_aI h hw (fun a7 hw => ?_)
        refine ⟨fun c8 => ?_, fun c8 => ?_⟩
        · have hw := hw.1 c8
          exact rX9_fits_194 hp ih _ _ _ _ _ _ _ h hw
        · have hw := hw.2 c8
          refine cr_R h hw (fun a9 hw => ?_)
          refine cr_aI h hw (fun a10 hw => ?_)
          refine cr_R h hw (fun a11 hw => ?_)
          refine cr_aI h hw (fun a12 hw => ?_)
          refine ⟨fun c13 => ?_, fun c13 => ?_⟩
          · have hw := hw.1 c13
            refine cr_R h hw (fun a14 hw => ?_)
            refine cr_aI h hw (fun a15 hw => ?_)
            refine cr_R h hw (fun a16 hw => ?_)
            refine cr_aI h hw (fun a17 hw => ?_)
            refine ⟨fun c18 => ?_, fun c18 => ?_⟩
            · have hw := hw.1 c18
              refine cr_R h hw (fun a19 hw => ?_)
              refine cr_aI h hw (fun a20 hw => ?_)
              refine cr_R h hw (fun a21 hw => ?_)
              refine cr_aI h hw (fun a22 hw => ?_)
              refine ⟨fun c23 => ?_, fun c23 => ?_⟩
              · have hw := hw.1 c23
                exact rX9_fits_195 hp ih _ _ _ _ _ _ _ _ h hw
              · have hw := hw.2 c23
                exact rX9_fits_194 hp ih _ _ _ _ _ _ _ h hw
            · have hw := hw.2 c18
              exact rX9_fits_194 hp ih _ _ _ _ _ _ _ h hw
          · have hw := hw.2 c13
            exact rX9_fits_194 hp ih _ _ _ _ _ _ _ h hw
set_option maxRecDepth 100000 in
set_option maxHeartbeats 4000000 in
theorem rX9_fits_90 {g : Nat → Nat} {K40 K40' : Option Nat → Int32 → Int32 → Int32 → Int32 → Pool → Prop} {post post' : Int32 → Pool → Prop} (hp : ∀ v S M, CR g S M → post' v M → post v S) (hK40 : ∀ (v0 : Option Nat) (v3 : Int32) (v4 : Int32) (v5 : Int32) (v6 : Int32) (S M : Pool), CR g S M → K40' v0 v3 v4 v5 v6 M → K40 (v0.map g) v3 v4 v5 v6 S) : ∀ (v0 : Option Nat) (v3 : Int32) (v4 : Int32) (v5 : Int32) (v6 : Int32) (S M : Pool), CR g S M → wX9_fits_90 K40' post' v0 v3 v4 v5 v6 M → wX9_fits_90 K40 post (v0.map g) v3 v4 v5 v6 S := by
  intro v0 v3 v4 v5 v6 S M h hw
  unfold wX9_fits_90 at hw ⊢
  exact hK40 _ _ _ _ _ _ _ h hw
set_option maxRecDepth 100000 in
set_option maxHeartbeats 4000000 in
theorem rX9_fits_40 {g : Nat → Nat} {post post' : Int32 → Pool → Prop} (hp : ∀ v S M, CR g S M → post' v M → post v S) : ∀ (n : Nat) (v0 : Option Nat) (v3 : Int32) (v4 : Int32) (v5 : Int32) (v6 : Int32) (S M : Pool), CR g S M → wX9_fits_40 post' n v0 v3 v4 v5 v6 M → wX9_fits_40 post n (v0.map g) v3 v4 v5 v6 S := by
  intro n
  induction n with
  | zero => intro v0 v3 v4 v5 v6 S M h hw; exact False.elim hw
  | succ n ih =>
    intro v0 v3 v4 v5 v6 S M h hw
    unfold wX9_fits_40 at hw ⊢
    refine ⟨fun c1 => ?_, fun c1 => ?_⟩
    · have hw := hw.1 c1
      obtain ⟨n1, hw⟩ := hw
      exact ⟨n1, rX9_fits_99 hp n1 _ _ _ _ _ _ _ h hw⟩
    · have hw := hw.2 c1
      refine cr_R h hw (fun a2 hw => ?_)
      refine cr_aI h hw (fun a3 hw => ?_)
      refine ⟨fun c4 => ?_, fun c4 => ?_⟩
      · have hw := hw.1 c4
        exact rX9_fits_90 hp ih _ _ _ _ _ _ _ h hw
      · have hw := hw.2 c4
        refine cr_R h hw (fun a5 hw => ?_)
        refine cr_aI h hw (fun a6 hw => ?_)
        refine cr_R h hw (fun a7 hw => ?_)
        refine cr_aI h hw (fun a8 hw => ?_)
        refine ⟨fun c9 => ?_, fun c9 => ?_⟩
        · have hw := hw.1 c9
          exact rX9_fits_90 hp ih _ _ _ _ _ _ _ h hw
        · have hw := hw.2 c9
          exact ⟨hw.1, hp _ _ _ h hw.2⟩
set_option maxRecDepth 100000 in
set_option maxHeartbeats 4000000 in
theorem rX9_fits {g : Nat → Nat} {post post' : Int32 → Pool → Prop} (hp : ∀ v S M, CR g S M → post' v M → post v S) : ∀ (v0 : Option Nat) (v1 : Int32) (v2 : Int32) (v3 : Int32) (v4 : Int32) (S M : Pool), CR g S M → wX9_fits post' v0 v1 v2 v3 v4 M → wX9_fits post (v0.map g) v1 v2 v3 v4 S := by
  intro v0 v1 v2 v3 v4 S M h hw
  unfold wX9_fits at hw ⊢
  refine cr_R h hw (fun a1 hw => ?_)
  refine cr_aI h hw (fun a2 hw => ?_)
  refine ⟨fun c3 => ?_, fun c3 => ?_⟩
  · have hw := hw.1 c3
    exact ⟨hw.1, hp _ _ _ h hw.2⟩
  · have hw := hw.2 c3
    refine cr_R h hw (fun a4 hw => ?_)
    refine cr_aI h hw (fun a5 hw => ?_)
    refine cr_R h hw (fun a6 hw => ?_)
    refine cr_aI h hw (fun a7 hw => ?_)
    refine ⟨fun c8 => ?_, fun c8 => ?_⟩
    · have hw := hw.1 c8
      obtain ⟨n1, hw⟩ := hw
      exact ⟨n1, rX9_fits_40 hp n1 _ _ _ _ _ _ _ h hw⟩
    · have hw := hw.2 c8
      exact ⟨hw.1, hp _ _ _ h hw.2⟩
-- X9_value
set_option maxRecDepth 100000 in
set_option maxHeartbeats 4000000 in
theorem rX9_value {g : Nat → Nat} {post post' : Int32 → Pool → Prop} (hp : ∀ v S M, CR g S M → post' v M → post v S) : ∀ (v0 : Option Nat) (v1 : Int32) (v2 : Int32) (S M : Pool), CR g S M → wX9_value post' v0 v1 v2 M → wX9_value post (v0.map g) v1 v2 S := by
  intro v0 v1 v2 S M h hw
  unfold wX9_value at hw ⊢
  refine cr_R h hw (fun a1 hw => ?_)
  refine cr_R h hw (fun a2 hw => ?_)
  refine cr_aI h hw (fun a3 hw => ?_)
  refine cr_aI h hw (fun a4 hw => ?_)
  exact hp _ _ _ h hw
-- X9_before
set_option maxRecDepth 100000 in
set_option maxHeartbeats 4000000 in
theorem rX9_before_4 {g : Nat → Nat} {post post' : Int32 → Pool → Prop} (hp : ∀ v S M, CR g S M → post' v M → post v S) : ∀ (n : Nat) (v0 : Option Nat) (v1 : Int32) (v3 : Int32) (S M : Pool), CR g S M → wX9_before_4 post' n v0 v1 v3 M → wX9_before_4 post n (v0.map g) v1 v3 S := by
  intro n
  induction n with
  | zero => intro v0 v1 v3 S M h hw; exact False.elim hw
  | succ n ih =>
    intro v0 v1 v3 S M h hw
    unfold wX9_before_4 at hw ⊢
    refine ⟨fun c1 => ?_, fun c1 => ?_⟩
    · have hw := hw.1 c1
      exact hp _ _ _ h hw
    · have hw := hw.2 c1
      refine cr_R h hw (fun a2 hw => ?_)
      refine cr_aI h hw (fun a3 hw => ?_)
      refine ⟨fun c4 => ?_, fun c4 => ?_⟩
      · have hw := hw.1 c4
        exact hp _ _ _ h hw
      · have hw := hw.2 c4
        exact ih _ _ _ _ _ h hw
set_option maxRecDepth 100000 in
set_option maxHeartbeats 4000000 in
theorem rX9_before {g : Nat → Nat} {post post' : Int32 → Pool → Prop} (hp : ∀ v S M, CR g S M → post' v M → post v S) : ∀ (v0 : Option Nat) (v1 : Int32) (v2 : Int32) (S M : Pool), CR g S M → wX9_before post' v0 v1 v2 M → wX9_before post (v0.map g) v1 v2 S := by
  intro v0 v1 v2 S M h hw
  unfold wX9_before at hw ⊢
  obtain ⟨n1, hw⟩ := hw
  exact ⟨n1, rX9_before_4 hp n1 _ _ _ _ _ h hw⟩
-- X9_leads
set_option maxRecDepth 100000 in
set_option maxHeartbeats 4000000 in
theorem rX9_leads_166 {g : Nat → Nat} {K78 K78' : Option Nat → Int32 → Int32 → Int32 → Int32 → Int32 → Pool → Prop} {K88 K88' : Option Nat → Int32 → Int32 → Int32 → Int32 → Int32 → Int32 → Pool → Prop} {post post' : Int32 → Pool → Prop} (hp : ∀ v S M, CR g S M → post' v M → post v S) (hK78 : ∀ (v0 : Option Nat) (v1 : Int32) (v3 : Int32) (v4 : Int32) (v5 : Int32) (v7 : Int32) (S M : Pool), CR g S M → K78' v0 v1 v3 v4 v5 v7 M → K78 (v0.map g) v1 v3 v4 v5 v7 S) (hK88 : ∀ (v0 : Option Nat) (v1 : Int32) (v3 : Int32) (v4 : Int32) (v5 : Int32) (v7 : Int32) (v8 : Int32) (S M : Pool), CR g S M → K88' v0 v1 v3 v4 v5 v7 v8 M → K88 (v0.map g) v1 v3 v4 v5 v7 v8 S) : ∀ (v0 : Option Nat) (v1 : Int32) (v3 : Int32) (v4 : Int32) (v5 : Int32) (v7 : Int32) (v8 : Int32) (S M : Pool), CR g S M → wX9_leads_166 K78' K88' post' v0 v1 v3 v4 v5 v7 v8 M → wX9_leads_166 K78 K88 post (v0.map g) v1 v3 v4 v5 v7 v8 S := by
  intro v0 v1 v3 v4 v5 v7 v8 S M h hw
  unfold wX9_leads_166 at hw ⊢
  exact hK88 _ _ _ _ _ _ _ _ _ h hw
set_option maxRecDepth 100000 in
set_option maxHeartbeats 4000000 in
theorem rX9_leads_88 {g : Nat → Nat} {K78 K78' : Option Nat → Int32 → Int32 → Int32 → Int32 → Int32 → Pool → Prop} {post post' : Int32 → Pool → Prop} (hp : ∀ v S M, CR g S M → post' v M → post v S) (hK78 : ∀ (v0 : Option Nat) (v1 : Int32) (v3 : Int32) (v4 : Int32) (v5 : Int32) (v7 : Int32) (S M : Pool), CR g S M → K78' v0 v1 v3 v4 v5 v7 M → K78 (v0.map g) v1 v3 v4 v5 v7 S) : ∀ (n : Nat) (v0 : Option Nat) (v1 : Int32) (v3 : Int32) (v4 : Int32) (v5 : Int32) (v7 : Int32) (v8 : Int32) (S M : Pool), CR g S M → wX9_leads_88 K78' post' n v0 v1 v3 v4 v5 v7 v8 M → wX9_leads_88 K78 post n (v0.map g) v1 v3 v4 v5 v7 v8 S := by
  intro n
  induction n with
  | zero => intro v0 v1 v3 v4 v5 v7 v8 S M h hw; exact False.elim hw
  | succ n ih =>
    intro v0 v1 v3 v4 v5 v7 v8 S M h hw
    unfold wX9_leads_88 at hw ⊢
    refine cr_I h hw (fun a1 hw => ?_)
    refine ⟨fun c2 => ?_, fun c2 => ?_⟩
    · have hw := hw.1 c2
      exact hK78 _ _ _ _ _ _ _ _ h hw
    · have hw := hw.2 c2
      refine cr_R h hw (fun a3 hw => ?_)
      refine cr_aI h hw (fun a4 hw => ?_)
      refine ⟨fun c5 => ?_, fun c5 => ?_⟩
      · have hw := hw.1 c5
        exact rX9_leads_166 hp hK78 ih _ _ _ _ _ _ _ _ _ h hw
      · have hw := hw.2 c5
        refine cr_rc h hw (fun hw => ?_)
        refine rX9_value (fun a6 S M h hw => ?_) _ _ _ _ _ h hw
        refine cr_rc h hw (fun hw => ?_)
        refine rX9_value (fun a7 S M h hw => ?_) _ _ _ _ _ h hw
        refine ⟨fun c8 => ?_, fun c8 => ?_⟩
        · have hw := hw.1 c8
          refine cr_R h hw (fun a9 hw => ?_)
          refine cr_aI h hw (fun a10 hw => ?_)
          refine cr_R h hw (fun a11 hw => ?_)
          refine cr_aI h hw (fun a12 hw => ?_)
          refine ⟨fun c13 => ?_, fun c13 => ?_⟩
          · have hw := hw.1 c13
            exact rX9_leads_166 hp hK78 ih _ _ _ _ _ _ _ _ _ h hw
          · have hw := hw.2 c13
            refine cr_R h hw (fun a14 hw => ?_)
            refine cr_aI h hw (fun a15 hw => ?_)
            refine cr_R h hw (fun a16 hw => ?_)
            refine cr_aI h hw (fun a17 hw => ?_)
            refine ⟨fun c18 => ?_, fun c18 => ?_⟩
            · have hw := hw.1 c18
              exact rX9_leads_166 hp hK78 ih _ _ _ _ _ _ _ _ _ h hw
            · have hw := hw.2 c18
              exact ⟨hw.1, hp _ _ _ h hw.2⟩
        · have hw := hw.2 c8
          exact rX9_leads_166 hp hK78 ih _ _ _ _ _ _ _ _ _ h hw
set_option maxRecDepth 100000 in
set_option maxHeartbeats 4000000 in
theorem rX9_leads_78 {g : Nat → Nat} {post post' : Int32 → Pool → Prop} (hp : ∀ v S M, CR g S M → post' v M → post v S) : ∀ (n : Nat) (v0 : Option Nat) (v1 : Int32) (v3 : Int32) (v4 : Int32) (v5 : Int32) (v7 : Int32) (S M : Pool), CR g S M → wX9_leads_78 post' n v0 v1 v3 v4 v5 v7 M → wX9_leads_78 post n (v0.map g) v1 v3 v4 v5 v7 S := by
  intro n
  induction n with
  | zero => intro v0 v1 v3 v4 v5 v7 S M h hw; exact False.elim hw
  | succ n ih =>
    intro v0 v1 v3 v4 v5 v7 S M h hw
    unfold wX9_leads_78 at hw ⊢
    refine ⟨fun c1 => ?_, fun c1 => ?_⟩
    · have hw := hw.1 c1
      exact ⟨hw.1, hp _ _ _ h hw.2⟩
    · have hw := hw.2 c1
      obtain ⟨n1, hw⟩ := hw
      exact ⟨n1, rX9_leads_88 hp ih n1 _ _ _ _ _ _ _ _ _ h hw⟩
set_option maxRecDepth 100000 in
set_option maxHeartbeats 4000000 in
theorem rX9_leads_73 {g : Nat → Nat} {post post' : Int32 → Pool → Prop} (hp : ∀ v S M, CR g S M → post' v M → post v S) : ∀ (v0 : Option Nat) (v1 : Int32) (v2 : Int32) (v3 : Int32) (v4 : Int32) (v5 : Int32) (S M : Pool), CR g S M → wX9_leads_73 post' v0 v1 v2 v3 v4 v5 M → wX9_leads_73 post (v0.map g) v1 v2 v3 v4 v5 S := by
  intro v0 v1 v2 v3 v4 v5 S M h hw
  unfold wX9_leads_73 at hw ⊢
  obtain ⟨n1, hw⟩ := hw
  exact ⟨n1, rX9_leads_78 hp n1 _ _ _ _ _ _ _ _ h hw⟩
set_option maxRecDepth 100000 in
set_option maxHeartbeats 4000000 in
theorem rX9_leads {g : Nat → Nat} {post post' : Int32 → Pool → Prop} (hp : ∀ v S M, CR g S M → post' v M → post v S) : ∀ (v0 : Option Nat) (v1 : Int32) (v2 : Int32) (v3 : Int32) (v4 : Int32) (v5 : Int32) (S M : Pool), CR g S M → wX9_leads post' v0 v1 v2 v3 v4 v5 M → wX9_leads post (v0.map g) v1 v2 v3 v4 v5 S := by
  intro v0 v1 v2 v3 v4 v5 S M h hw
  unfold wX9_leads at hw ⊢
  refine cr_R h hw (fun a1 hw => ?_)
  refine cr_aI h hw (fun a2 hw => ?_)
  refine cr_rc h hw (fun hw => ?_)
  refine rX9_value (fun a3 S M h hw => ?_) _ _ _ _ _ h hw
  refine cr_rc h hw (fun hw => ?_)
  refine rX9_value (fun a4 S M h hw => ?_) _ _ _ _ _ h hw
  refine ⟨fun c5 => ?_, fun c5 => ?_⟩
  · have hw := hw.1 c5
    refine cr_R h hw (fun a6 hw => ?_)
    refine cr_aI h hw (fun a7 hw => ?_)
    refine cr_R h hw (fun a8 hw => ?_)
    refine cr_aI h hw (fun a9 hw => ?_)
    refine ⟨fun c10 => ?_, fun c10 => ?_⟩
    · have hw := hw.1 c10
      exact ⟨hw.1, hp _ _ _ h hw.2⟩
    · have hw := hw.2 c10
      refine ⟨fun c11 => ?_, fun c11 => ?_⟩
      · have hw := hw.1 c11
        exact rX9_leads_73 hp _ _ _ _ _ _ _ _ h hw
      · have hw := hw.2 c11
        refine cr_R h hw (fun a12 hw => ?_)
        refine cr_aI h hw (fun a13 hw => ?_)
        refine cr_R h hw (fun a14 hw => ?_)
        refine cr_aI h hw (fun a15 hw => ?_)
        refine ⟨fun c16 => ?_, fun c16 => ?_⟩
        · have hw := hw.1 c16
          exact rX9_leads_73 hp _ _ _ _ _ _ _ _ h hw
        · have hw := hw.2 c16
          exact ⟨hw.1, hp _ _ _ h hw.2⟩
  · have hw := hw.2 c5
    exact ⟨hw.1, hp _ _ _ h hw.2⟩
-- X9_quietBehind
set_option maxRecDepth 100000 in
set_option maxHeartbeats 4000000 in
theorem rX9_quietBehind_127 {g : Nat → Nat} {K5 K5' : Option Nat → Int32 → Int32 → Int32 → Int32 → Pool → Prop} {K53 K53' : Option Nat → Int32 → Int32 → Int32 → Int32 → Int64 → Int32 → Pool → Prop} {post post' : Int32 → Pool → Prop} (hp : ∀ v S M, CR g S M → post' v M → post v S) (hK5 : ∀ (v0 : Option Nat) (v1 : Int32) (v3 : Int32) (v4 : Int32) (v5 : Int32) (S M : Pool), CR g S M → K5' v0 v1 v3 v4 v5 M → K5 (v0.map g) v1 v3 v4 v5 S) (hK53 : ∀ (v0 : Option Nat) (v1 : Int32) (v3 : Int32) (v4 : Int32) (v5 : Int32) (v6 : Int64) (v8 : Int32) (S M : Pool), CR g S M → K53' v0 v1 v3 v4 v5 v6 v8 M → K53 (v0.map g) v1 v3 v4 v5 v6 v8 S) : ∀ (v0 : Option Nat) (v1 : Int32) (v3 : Int32) (v4 : Int32) (v5 : Int32) (v6 : Int64) (v8 : Int32) (S M : Pool), CR g S M → wX9_quietBehind_127 K5' K53' post' v0 v1 v3 v4 v5 v6 v8 M → wX9_quietBehind_127 K5 K53 post (v0.map g) v1 v3 v4 v5 v6 v8 S := by
  intro v0 v1 v3 v4 v5 v6 v8 S M h hw
  unfold wX9_quietBehind_127 at hw ⊢
  exact hK53 _ _ _ _ _ _ _ _ _ h hw
set_option maxRecDepth 100000 in
set_option maxHeartbeats 4000000 in
theorem rX9_quietBehind_53 {g : Nat → Nat} {K5 K5' : Option Nat → Int32 → Int32 → Int32 → Int32 → Pool → Prop} {post post' : Int32 → Pool → Prop} (hp : ∀ v S M, CR g S M → post' v M → post v S) (hK5 : ∀ (v0 : Option Nat) (v1 : Int32) (v3 : Int32) (v4 : Int32) (v5 : Int32) (S M : Pool), CR g S M → K5' v0 v1 v3 v4 v5 M → K5 (v0.map g) v1 v3 v4 v5 S) : ∀ (n : Nat) (v0 : Option Nat) (v1 : Int32) (v3 : Int32) (v4 : Int32) (v5 : Int32) (v6 : Int64) (v8 : Int32) (S M : Pool), CR g S M → wX9_quietBehind_53 K5' post' n v0 v1 v3 v4 v5 v6 v8 M → wX9_quietBehind_53 K5 post n (v0.map g) v1 v3 v4 v5 v6 v8 S := by
  intro n
  induction n with
  | zero => intro v0 v1 v3 v4 v5 v6 v8 S M h hw; exact False.elim hw
  | succ n ih =>
    intro v0 v1 v3 v4 v5 v6 v8 S M h hw
    unfold wX9_quietBehind_53 at hw ⊢
    refine cr_I h hw (fun a1 hw => ?_)
    refine ⟨fun c2 => ?_, fun c2 => ?_⟩
    · have hw := hw.1 c2
      exact hK5 _ _ _ _ _ _ _ h hw
    · have hw := hw.2 c2
      refine cr_R h hw (fun a3 hw => ?_)
      refine cr_aI h hw (fun a4 hw => ?_)
      refine ⟨fun c5 => ?_, fun c5 => ?_⟩
      · have hw := hw.1 c5
        exact rX9_quietBehind_127 hp hK5 ih _ _ _ _ _ _ _ _ _ h hw
      · have hw := hw.2 c5
        refine cr_rc h hw (fun hw => ?_)
        refine rX9_value (fun a6 S M h hw => ?_) _ _ _ _ _ h hw
        refine cr_rc h hw (fun hw => ?_)
        refine rX9_value (fun a7 S M h hw => ?_) _ _ _ _ _ h hw
        refine ⟨fun c8 => ?_, fun c8 => ?_⟩
        · have hw := hw.1 c8
          refine cr_R h hw (fun a9 hw => ?_)
          refine cr_aI h hw (fun a10 hw => ?_)
          refine cr_R h hw (fun a11 hw => ?_)
          refine cr_aI h hw (fun a12 hw => ?_)
          refine ⟨fun c13 => ?_, fun c13 => ?_⟩
          · have hw := hw.1 c13
            exact rX9_quietBehind_127 hp hK5 ih _ _ _ _ _ _ _ _ _ h hw
          · have hw := hw.2 c13
            refine cr_R h hw (fun a14 hw => ?_)
            refine cr_aI h hw (fun a15 hw => ?_)
            refine ⟨fun c16 => ?_, fun c16 => ?_⟩
            · have hw := hw.1 c16
              exact rX9_quietBehind_127 hp hK5 ih _ _ _ _ _ _ _ _ _ h hw
            · have hw := hw.2 c16
              exact ⟨hw.1, hp _ _ _ h hw.2⟩
        · have hw := hw.2 c8
          exact rX9_quietBehind_127 hp hK5 ih _ _ _ _ _ _ _ _ _ h hw
set_option maxRecDepth 100000 in
set_option maxHeartbeats 4000000 in
theorem rX9_quietBehind_5 {g : Nat → Nat} {post post' : Int32 → Pool → Prop} (hp : ∀ v S M, CR g S M → post' v M → post v S) : ∀ (n : Nat) (v0 : Option Nat) (v1 : Int32) (v3 : Int32) (v4 : Int32) (v5 : Int32) (S M : Pool), CR g S M → wX9_quietBehind_5 post' n v0 v1 v3 v4 v5 M → wX9_quietBehind_5 post n (v0.map g) v1 v3 v4 v5 S := by
  intro n
  induction n with
  | zero => intro v0 v1 v3 v4 v5 S M h hw; exact False.elim hw
  | succ n ih =>
    intro v0 v1 v3 v4 v5 S M h hw
    unfold wX9_quietBehind_5 at hw ⊢
    refine cr_R h hw (fun a1 hw => ?_)
    refine cr_aI h hw (fun a2 hw => ?_)
    refine ⟨fun c3 => ?_, fun c3 => ?_⟩
    · have hw := hw.1 c3
      exact ⟨hw.1, hp _ _ _ h hw.2⟩
    · have hw := hw.2 c3
      refine cr_R h hw (fun a4 hw => ?_)
      refine cr_aI h hw (fun a5 hw => ?_)
      refine cr_R h hw (fun a6 hw => ?_)
      refine cr_aI h hw (fun a7 hw => ?_)
      refine ⟨fun c8 => ?_, fun c8 => ?_⟩
      · have hw := hw.1 c8
        obtain ⟨n1, hw⟩ := hw
        exact ⟨n1, rX9_quietBehind_53 hp ih n1 _ _ _ _ _ _ _ _ _ h hw⟩
      · have hw := hw.2 c8
        exact ⟨hw.1, hp _ _ _ h hw.2⟩
set_option maxRecDepth 100000 in
set_option maxHeartbeats 4000000 in
theorem rX9_quietBehind {g : Nat → Nat} {post post' : Int32 → Pool → Prop} (hp : ∀ v S M, CR g S M → post' v M → post v S) : ∀ (v0 : Option Nat) (v1 : Int32) (v2 : Int32) (v3 : Int32) (v4 : Int32) (S M : Pool), CR g S M → wX9_quietBehind post' v0 v1 v2 v3 v4 M → wX9_quietBehind post (v0.map g) v1 v2 v3 v4 S := by
  intro v0 v1 v2 v3 v4 S M h hw
  unfold wX9_quietBehind at hw ⊢
  obtain ⟨n1, hw⟩ := hw
  exact ⟨n1, rX9_quietBehind_5 hp n1 _ _ _ _ _ _ _ h hw⟩
-- X9_spreads
set_option maxRecDepth 100000 in
set_option maxHeartbeats 4000000 in
theorem rX9_spreads_154 {g : Nat → Nat} {K21 K21' : Option Nat → Int32 → Int32 → Int32 → Int32 → Int32 → Int32 → Pool → Prop} {post post' : Int32 → Pool → Prop} (hp : ∀ v S M, CR g S M → post' v M → post v S) (hK21 : ∀ (v0 : Option Nat) (v1 : Int32) (v2 : Int32) (v3 : Int32) (v4 : Int32) (v5 : Int32) (v6 : Int32) (S M : Pool), CR g S M → K21' v0 v1 v2 v3 v4 v5 v6 M → K21 (v0.map g) v1 v2 v3 v4 v5 v6 S) : ∀ (v0 : Option Nat) (v1 : Int32) (v2 : Int32) (v3 : Int32) (v4 : Int32) (v5 : Int32) (v6 : Int32) (S M : Pool), CR g S M → wX9_spreads_154 K21' post' v0 v1 v2 v3 v4 v5 v6 M → wX9_spreads_154 K21 post (v0.map g) v1 v2 v3 v4 v5 v6 S := by
  intro v0 v1 v2 v3 v4 v5 v6 S M h hw
  unfold wX9_spreads_154 at hw ⊢
  exact hK21 _ _ _ _ _ _ _ _ _ h hw
set_option maxRecDepth 100000 in
set_option maxHeartbeats 4000000 in
theorem rX9_spreads_106 {g : Nat → Nat} {K21 K21' : Option Nat → Int32 → Int32 → Int32 → Int32 → Int32 → Int32 → Pool → Prop} {post post' : Int32 → Pool → Prop} (hp : ∀ v S M, CR g S M → post' v M → post v S) (hK21 : ∀ (v0 : Option Nat) (v1 : Int32) (v2 : Int32) (v3 : Int32) (v4 : Int32) (v5 : Int32) (v6 : Int32) (S M : Pool), CR g S M → K21' v0 v1 v2 v3 v4 v5 v6 M → K21 (v0.map g) v1 v2 v3 v4 v5 v6 S) : ∀ (v0 : Option Nat) (v1 : Int32) (v2 : Int32) (v3 : Int32) (v4 : Int32) (v5 : Int32) (v6 : Int32) (z0 : Int32) (S M : Pool), CR g S M → wX9_spreads_106 K21' post' v0 v1 v2 v3 v4 v5 v6 z0 M → wX9_spreads_106 K21 post (v0.map g) v1 v2 v3 v4 v5 v6 z0 S := by
  intro v0 v1 v2 v3 v4 v5 v6 z0 S M h hw
  unfold wX9_spreads_106 at hw ⊢
  refine cr_R h hw (fun a1 hw => ?_)
  refine cr_R h hw (fun a2 hw => ?_)
  refine cr_aI h hw (fun a3 hw => ?_)
  refine cr_aI h hw (fun a4 hw => ?_)
  refine ⟨fun c5 => ?_, fun c5 => ?_⟩
  · have hw := hw.1 c5
    exact rX9_spreads_154 hp hK21 _ _ _ _ _ _ _ _ _ h hw
  · have hw := hw.2 c5
    refine ⟨fun c6 => ?_, fun c6 => ?_⟩
    · have hw := hw.1 c6
      exact rX9_spreads_154 hp hK21 _ _ _ _ _ _ _ _ _ h hw
    · have hw := hw.2 c6
      exact rX9_spreads_154 hp hK21 _ _ _ _ _ _ _ _ _ h hw
set_option maxRecDepth 100000 in
set_option maxHeartbeats 4000000 in
theorem rX9_spreads_105 {g : Nat → Nat} {K21 K21' : Option Nat → Int32 → Int32 → Int32 → Int32 → Int32 → Int32 → Pool → Prop} {post post' : Int32 → Pool → Prop} (hp : ∀ v S M, CR g S M → post' v M → post v S) (hK21 : ∀ (v0 : Option Nat) (v1 : Int32) (v2 : Int32) (v3 : Int32) (v4 : Int32) (v5 : Int32) (v6 : Int32) (S M : Pool), CR g S M → K21' v0 v1 v2 v3 v4 v5 v6 M → K21 (v0.map g) v1 v2 v3 v4 v5 v6 S) : ∀ (v0 : Option Nat) (v1 : Int32) (v2 : Int32) (v3 : Int32) (v4 : Int32) (v5 : Int32) (v6 : Int32) (S M : Pool), CR g S M → wX9_spreads_105 K21' post' v0 v1 v2 v3 v4 v5 v6 M → wX9_spreads_105 K21 post (v0.map g) v1 v2 v3 v4 v5 v6 S := by
  intro v0 v1 v2 v3 v4 v5 v6 S M h hw
  unfold wX9_spreads_105 at hw ⊢
  exact rX9_spreads_106 hp hK21 _ _ _ _ _ _ _ _ _ _ h hw
set_option maxRecDepth 100000 in
set_option maxHeartbeats 4000000 in
theorem rX9_spreads_21 {g : Nat → Nat} {post post' : Int32 → Pool → Prop} (hp : ∀ v S M, CR g S M → post' v M → post v S) : ∀ (n : Nat) (v0 : Option Nat) (v1 : Int32) (v2 : Int32) (v3 : Int32) (v4 : Int32) (v5 : Int32) (v6 : Int32) (S M : Pool), CR g S M → wX9_spreads_21 post' n v0 v1 v2 v3 v4 v5 v6 M → wX9_spreads_21 post n (v0.map g) v1 v2 v3 v4 v5 v6 S := by
  intro n
  induction n with
  | zero => intro v0 v1 v2 v3 v4 v5 v6 S M h hw; exact False.elim hw
  | succ n ih =>
    intro v0 v1 v2 v3 v4 v5 v6 S M h hw
    unfold wX9_spreads_21 at hw ⊢
    refine cr_I h hw (fun a1 hw => ?_)
    refine ⟨fun c2 => ?_, fun c2 => ?_⟩
    · have hw := hw.1 c2
      refine cr_R h hw (fun a3 hw => ?_)
      refine cr_aI h hw (fun a4 hw => ?_)
      refine ⟨fun c5 => ?_, fun c5 => ?_⟩
      · have hw := hw.1 c5
        exact ⟨hw.1, hp _ _ _ h hw.2⟩
      · have hw := hw.2 c5
        exact ⟨hw.1, hp _ _ _ h hw.2⟩
    · have hw := hw.2 c2
      refine cr_R h hw (fun a6 hw => ?_)
      refine cr_aI h hw (fun a7 hw => ?_)
      refine ⟨fun c8 => ?_, fun c8 => ?_⟩
      · have hw := hw.1 c8
        exact rX9_spreads_105 hp ih _ _ _ _ _ _ _ _ _ h hw
      · have hw := hw.2 c8
        refine cr_rc h hw (fun hw => ?_)
        refine rX9_value (fun a9 S M h hw => ?_) _ _ _ _ _ h hw
        refine cr_rc h hw (fun hw => ?_)
        refine rX9_value (fun a10 S M h hw => ?_) _ _ _ _ _ h hw
        refine ⟨fun c11 => ?_, fun c11 => ?_⟩
        · have hw := hw.1 c11
          refine cr_R h hw (fun a12 hw => ?_)
          refine cr_aI h hw (fun a13 hw => ?_)
          refine cr_R h hw (fun a14 hw => ?_)
          refine cr_aI h hw (fun a15 hw => ?_)
          refine ⟨fun c16 => ?_, fun c16 => ?_⟩
          · have hw := hw.1 c16
            exact rX9_spreads_105 hp ih _ _ _ _ _ _ _ _ _ h hw
          · have hw := hw.2 c16
            refine cr_R h hw (fun a17 hw => ?_)
            refine cr_aI h hw (fun a18 hw => ?_)
            refine cr_R h hw (fun a19 hw => ?_)
            refine cr_aI h hw (fun a20 hw => ?_)
            refine cr_R h hw (fun a21 hw => ?_)
            refine cr_aI h hw (fun a22 hw => ?_)
            refine ⟨fun c23 => ?_, fun c23 => ?_⟩
            · have hw := hw.1 c23
              exact rX9_spreads_105 hp ih _ _ _ _ _ _ _ _ _ h hw
            · have hw := hw.2 c23
              exact rX9_spreads_106 hp ih _ _ _ _ _ _ _ _ _ _ h hw
        · have hw := hw.2 c11
          exact rX9_spreads_105 hp ih _ _ _ _ _ _ _ _ _ h hw
set_option maxRecDepth 100000 in
set_option maxHeartbeats 4000000 in
theorem rX9_spreads {g : Nat → Nat} {post post' : Int32 → Pool → Prop} (hp : ∀ v S M, CR g S M → post' v M → post v S) : ∀ (v0 : Option Nat) (v1 : Int32) (v2 : Int32) (v3 : Int32) (S M : Pool), CR g S M → wX9_spreads post' v0 v1 v2 v3 M → wX9_spreads post (v0.map g) v1 v2 v3 S := by
  intro v0 v1 v2 v3 S M h hw
  unfold wX9_spreads at hw ⊢
  refine cr_R h hw (fun a1 hw => ?_)
  refine cr_aI h hw (fun a2 hw => ?_)
  refine ⟨fun c3 => ?_, fun c3 => ?_⟩
  · have hw := hw.1 c3
    exact ⟨hw.1, hp _ _ _ h hw.2⟩
  · have hw := hw.2 c3
    obtain ⟨n1, hw⟩ := hw
    exact ⟨n1, rX9_spreads_21 hp n1 _ _ _ _ _ _ _ _ _ h hw⟩
-- X9_lastStep
set_option maxRecDepth 100000 in
set_option maxHeartbeats 4000000 in
theorem rX9_lastStep {g : Nat → Nat} {post post' : Int32 → Pool → Prop} (hp : ∀ v S M, CR g S M → post' v M → post v S) : ∀ (v0 : Option Nat) (v1 : Int32) (S M : Pool), CR g S M → wX9_lastStep post' v0 v1 M → wX9_lastStep post (v0.map g) v1 S := by
  intro v0 v1 S M h hw
  unfold wX9_lastStep at hw ⊢
  refine cr_R h hw (fun a1 hw => ?_)
  refine cr_aI h hw (fun a2 hw => ?_)
  refine cr_rc h hw (fun hw => ?_)
  refine rX9_before (fun a3 S M h hw => ?_) _ _ _ _ _ h hw
  exact hp _ _ _ h hw
-- X9_work
set_option maxRecDepth 100000 in
set_option maxHeartbeats 4000000 in
theorem rX9_work_401 {g : Nat → Nat} {K274 K274' : Option Nat → Int32 → Int32 → Int32 → Int32 → Pool → Prop} {post post' : Pool → Prop} (hp : ∀ S M, CR g S M → post' M → post S) (hK274 : ∀ (v0 : Option Nat) (v1 : Int32) (v2 : Int32) (v3 : Int32) (v4 : Int32) (S M : Pool), CR g S M → K274' v0 v1 v2 v3 v4 M → K274 (v0.map g) v1 v2 v3 v4 S) : ∀ (v0 : Option Nat) (v1 : Int32) (v2 : Int32) (v3 : Int32) (v4 : Int32) (S M : Pool), CR g S M → wX9_work_401 K274' post' v0 v1 v2 v3 v4 M → wX9_work_401 K274 post (v0.map g) v1 v2 v3 v4 S := by
  intro v0 v1 v2 v3 v4 S M h hw
  unfold wX9_work_401 at hw ⊢
  exact hK274 _ _ _ _ _ _ _ h hw
set_option maxRecDepth 100000 in
set_option maxHeartbeats 4000000 in
theorem rX9_work_382 {g : Nat → Nat} {K274 K274' : Option Nat → Int32 → Int32 → Int32 → Int32 → Pool → Prop} {post post' : Pool → Prop} (hp : ∀ S M, CR g S M → post' M → post S) (hK274 : ∀ (v0 : Option Nat) (v1 : Int32) (v2 : Int32) (v3 : Int32) (v4 : Int32) (S M : Pool), CR g S M → K274' v0 v1 v2 v3 v4 M → K274 (v0.map g) v1 v2 v3 v4 S) : ∀ (v0 : Option Nat) (v1 : Int32) (v2 : Int32) (v3 : Int32) (v4 : Int32) (v5 : Int32) (S M : Pool), CR g S M → wX9_work_382 K274' post' v0 v1 v2 v3 v4 v5 M → wX9_work_382 K274 post (v0.map g) v1 v2 v3 v4 v5 S := by
  intro v0 v1 v2 v3 v4 v5 S M h hw
  unfold wX9_work_382 at hw ⊢
  refine cr_R h hw (fun a1 hw => ?_)
  refine cr_sI h hw (fun S M h hw => ?_)
  refine cr_I h hw (fun a2 hw => ?_)
  refine cr_pI h hw (fun S M h hw => ?_)
  exact rX9_work_401 hp hK274 _ _ _ _ _ _ _ h hw
set_option maxRecDepth 100000 in
set_option maxHeartbeats 4000000 in
theorem rX9_work_331 {g : Nat → Nat} {K274 K274' : Option Nat → Int32 → Int32 → Int32 → Int32 → Pool → Prop} {post post' : Pool → Prop} (hp : ∀ S M, CR g S M → post' M → post S) (hK274 : ∀ (v0 : Option Nat) (v1 : Int32) (v2 : Int32) (v3 : Int32) (v4 : Int32) (S M : Pool), CR g S M → K274' v0 v1 v2 v3 v4 M → K274 (v0.map g) v1 v2 v3 v4 S) : ∀ (n : Nat) (v0 : Option Nat) (v1 : Int32) (v2 : Int32) (v3 : Int32) (v4 : Int32) (v5 : Int32) (S M : Pool), CR g S M → wX9_work_331 K274' post' n v0 v1 v2 v3 v4 v5 M → wX9_work_331 K274 post n (v0.map g) v1 v2 v3 v4 v5 S := by
  intro n
  induction n with
  | zero => intro v0 v1 v2 v3 v4 v5 S M h hw; exact False.elim hw
  | succ n ih =>
    intro v0 v1 v2 v3 v4 v5 S M h hw
    unfold wX9_work_331 at hw ⊢
    refine ⟨fun c1 => ?_, fun c1 => ?_⟩
    · have hw := hw.1 c1
      exact rX9_work_382 hp hK274 _ _ _ _ _ _ _ _ h hw
    · have hw := hw.2 c1
      refine cr_R h hw (fun a2 hw => ?_)
      refine cr_R h hw (fun a3 hw => ?_)
      refine cr_aI h hw (fun a4 hw => ?_)
      refine cr_aI h hw (fun a5 hw => ?_)
      refine cr_R h hw (fun a6 hw => ?_)
      refine cr_aI h hw (fun a7 hw => ?_)
      refine ⟨fun c8 => ?_, fun c8 => ?_⟩
      · have hw := hw.1 c8
        exact rX9_work_382 hp hK274 _ _ _ _ _ _ _ _ h hw
      · have hw := hw.2 c8
        refine cr_R h hw (fun a9 hw => ?_)
        refine cr_R h hw (fun a10 hw => ?_)
        refine cr_aI h hw (fun a11 hw => ?_)
        refine cr_sI h hw (fun S M h hw => ?_)
        exact ih _ _ _ _ _ _ _ _ h hw
set_option maxRecDepth 100000 in
set_option maxHeartbeats 4000000 in
theorem rX9_work_274 {g : Nat → Nat} {post post' : Pool → Prop} (hp : ∀ S M, CR g S M → post' M → post S) : ∀ (n : Nat) (v0 : Option Nat) (v1 : Int32) (v2 : Int32) (v3 : Int32) (v4 : Int32) (S M : Pool), CR g S M → wX9_work_274 post' n v0 v1 v2 v3 v4 M → wX9_work_274 post n (v0.map g) v1 v2 v3 v4 S := by
  intro n
  induction n with
  | zero => intro v0 v1 v2 v3 v4 S M h hw; exact False.elim hw
  | succ n ih =>
    intro v0 v1 v2 v3 v4 S M h hw
    unfold wX9_work_274 at hw ⊢
    refine cr_I h hw (fun a1 hw => ?_)
    refine ⟨fun c2 => ?_, fun c2 => ?_⟩
    · have hw := hw.1 c2
      exact hp _ _ h hw
    · have hw := hw.2 c2
      refine cr_R h hw (fun a3 hw => ?_)
      refine cr_aI h hw (fun a4 hw => ?_)
      refine ⟨fun c5 => ?_, fun c5 => ?_⟩
      · have hw := hw.1 c5
        exact rX9_work_401 hp ih _ _ _ _ _ _ _ h hw
      · have hw := hw.2 c5
        refine cr_rc h hw (fun hw => ?_)
        refine rX9_quietBehind (fun a6 S M h hw => ?_) _ _ _ _ _ _ _ h hw
        refine ⟨fun c7 => ?_, fun c7 => ?_⟩
        · have hw := hw.1 c7
          exact rX9_work_401 hp ih _ _ _ _ _ _ _ h hw
        · have hw := hw.2 c7
          refine cr_rc h hw (fun hw => ?_)
          refine rX9_spreads (fun a8 S M h hw => ?_) _ _ _ _ _ _ h hw
          refine ⟨fun c9 => ?_, fun c9 => ?_⟩
          · have hw := hw.1 c9
            exact rX9_work_401 hp ih _ _ _ _ _ _ _ h hw
          · have hw := hw.2 c9
            refine cr_I h hw (fun a10 hw => ?_)
            obtain ⟨n1, hw⟩ := hw
            exact ⟨n1, rX9_work_331 hp ih n1 _ _ _ _ _ _ _ _ h hw⟩
set_option maxRecDepth 100000 in
set_option maxHeartbeats 4000000 in
theorem rX9_work_259 {g : Nat → Nat} {K94 K94' : Option Nat → Int32 → Int32 → Int32 → Pool → Prop} {post post' : Pool → Prop} (hp : ∀ S M, CR g S M → post' M → post S) (hK94 : ∀ (v0 : Option Nat) (v1 : Int32) (v2 : Int32) (v3 : Int32) (S M : Pool), CR g S M → K94' v0 v1 v2 v3 M → K94 (v0.map g) v1 v2 v3 S) : ∀ (v0 : Option Nat) (v1 : Int32) (v2 : Int32) (v3 : Int32) (S M : Pool), CR g S M → wX9_work_259 K94' post' v0 v1 v2 v3 M → wX9_work_259 K94 post (v0.map g) v1 v2 v3 S := by
  intro v0 v1 v2 v3 S M h hw
  unfold wX9_work_259 at hw ⊢
  exact hK94 _ _ _ _ _ _ h hw
set_option maxRecDepth 100000 in
set_option maxHeartbeats 4000000 in
theorem rX9_work_253 {g : Nat → Nat} {K94 K94' : Option Nat → Int32 → Int32 → Int32 → Pool → Prop} {K132 K132' : Option Nat → Int32 → Int32 → Int32 → Int32 → Int32 → Pool → Prop} {post post' : Pool → Prop} (hp : ∀ S M, CR g S M → post' M → post S) (hK94 : ∀ (v0 : Option Nat) (v1 : Int32) (v2 : Int32) (v3 : Int32) (S M : Pool), CR g S M → K94' v0 v1 v2 v3 M → K94 (v0.map g) v1 v2 v3 S) (hK132 : ∀ (v0 : Option Nat) (v1 : Int32) (v2 : Int32) (v3 : Int32) (v4 : Int32) (v5 : Int32) (S M : Pool), CR g S M → K132' v0 v1 v2 v3 v4 v5 M → K132 (v0.map g) v1 v2 v3 v4 v5 S) : ∀ (v0 : Option Nat) (v1 : Int32) (v2 : Int32) (v3 : Int32) (v4 : Int32) (v5 : Int32) (S M : Pool), CR g S M → wX9_work_253 K94' K132' post' v0 v1 v2 v3 v4 v5 M → wX9_work_253 K94 K132 post (v0.map g) v1 v2 v3 v4 v5 S := by
  intro v0 v1 v2 v3 v4 v5 S M h hw
  unfold wX9_work_253 at hw ⊢
  exact hK132 _ _ _ _ _ _ _ _ h hw
set_option maxRecDepth 100000 in
set_option maxHeartbeats 4000000 in
theorem rX9_work_238 {g : Nat → Nat} {K94 K94' : Option Nat → Int32 → Int32 → Int32 → Pool → Prop} {K132 K132' : Option Nat → Int32 → Int32 → Int32 → Int32 → Int32 → Pool → Prop} {post post' : Pool → Prop} (hp : ∀ S M, CR g S M → post' M → post S) (hK94 : ∀ (v0 : Option Nat) (v1 : Int32) (v2 : Int32) (v3 : Int32) (S M : Pool), CR g S M → K94' v0 v1 v2 v3 M → K94 (v0.map g) v1 v2 v3 S) (hK132 : ∀ (v0 : Option Nat) (v1 : Int32) (v2 : Int32) (v3 : Int32) (v4 : Int32) (v5 : Int32) (S M : Pool), CR g S M → K132' v0 v1 v2 v3 v4 v5 M → K132 (v0.map g) v1 v2 v3 v4 v5 S) : ∀ (v0 : Option Nat) (v1 : Int32) (v2 : Int32) (v3 : Int32) (v4 : Int32) (v5 : Int32) (v6 : Int32) (S M : Pool), CR g S M → wX9_work_238 K94' K132' post' v0 v1 v2 v3 v4 v5 v6 M → wX9_work_238 K94 K132 post (v0.map g) v1 v2 v3 v4 v5 v6 S := by
  intro v0 v1 v2 v3 v4 v5 v6 S M h hw
  unfold wX9_work_238 at hw ⊢
  refine cr_R h hw (fun a1 hw => ?_)
  refine cr_sZ h hw (fun S M h hw => ?_)
  exact rX9_work_253 hp hK94 hK132 _ _ _ _ _ _ _ _ h hw
set_option maxRecDepth 100000 in
set_option maxHeartbeats 4000000 in
theorem rX9_work_230 {g : Nat → Nat} {K94 K94' : Option Nat → Int32 → Int32 → Int32 → Pool → Prop} {K132 K132' : Option Nat → Int32 → Int32 → Int32 → Int32 → Int32 → Pool → Prop} {K174 K174' : Option Nat → Int32 → Int32 → Int32 → Int32 → Int32 → Int32 → Int32 → Pool → Prop} {post post' : Pool → Prop} (hp : ∀ S M, CR g S M → post' M → post S) (hK94 : ∀ (v0 : Option Nat) (v1 : Int32) (v2 : Int32) (v3 : Int32) (S M : Pool), CR g S M → K94' v0 v1 v2 v3 M → K94 (v0.map g) v1 v2 v3 S) (hK132 : ∀ (v0 : Option Nat) (v1 : Int32) (v2 : Int32) (v3 : Int32) (v4 : Int32) (v5 : Int32) (S M : Pool), CR g S M → K132' v0 v1 v2 v3 v4 v5 M → K132 (v0.map g) v1 v2 v3 v4 v5 S) (hK174 : ∀ (v0 : Option Nat) (v1 : Int32) (v2 : Int32) (v3 : Int32) (v4 : Int32) (v5 : Int32) (v6 : Int32) (v7 : Int32) (S M : Pool), CR g S M → K174' v0 v1 v2 v3 v4 v5 v6 v7 M → K174 (v0.map g) v1 v2 v3 v4 v5 v6 v7 S) : ∀ (v0 : Option Nat) (v1 : Int32) (v2 : Int32) (v3 : Int32) (v4 : Int32) (v5 : Int32) (v7 : Int32) (z0 : Int32) (S M : Pool), CR g S M → wX9_work_230 K94' K132' K174' post' v0 v1 v2 v3 v4 v5 v7 z0 M → wX9_work_230 K94 K132 K174 post (v0.map g) v1 v2 v3 v4 v5 v7 z0 S := by
  intro v0 v1 v2 v3 v4 v5 v7 z0 S M h hw
  unfold wX9_work_230 at hw ⊢
  exact hK174 _ _ _ _ _ _ _ _ _ _ h hw
set_option maxRecDepth 100000 in
set_option maxHeartbeats 4000000 in
theorem rX9_work_229 {g : Nat → Nat} {K94 K94' : Option Nat → Int32 → Int32 → Int32 → Pool → Prop} {K132 K132' : Option Nat → Int32 → Int32 → Int32 → Int32 → Int32 → Pool → Prop} {K174 K174' : Option Nat → Int32 → Int32 → Int32 → Int32 → Int32 → Int32 → Int32 → Pool → Prop} {post post' : Pool → Prop} (hp : ∀ S M, CR g S M → post' M → post S) (hK94 : ∀ (v0 : Option Nat) (v1 : Int32) (v2 : Int32) (v3 : Int32) (S M : Pool), CR g S M → K94' v0 v1 v2 v3 M → K94 (v0.map g) v1 v2 v3 S) (hK132 : ∀ (v0 : Option Nat) (v1 : Int32) (v2 : Int32) (v3 : Int32) (v4 : Int32) (v5 : Int32) (S M : Pool), CR g S M → K132' v0 v1 v2 v3 v4 v5 M → K132 (v0.map g) v1 v2 v3 v4 v5 S) (hK174 : ∀ (v0 : Option Nat) (v1 : Int32) (v2 : Int32) (v3 : Int32) (v4 : Int32) (v5 : Int32) (v6 : Int32) (v7 : Int32) (S M : Pool), CR g S M → K174' v0 v1 v2 v3 v4 v5 v6 v7 M → K174 (v0.map g) v1 v2 v3 v4 v5 v6 v7 S) : ∀ (v0 : Option Nat) (v1 : Int32) (v2 : Int32) (v3 : Int32) (v4 : Int32) (v5 : Int32) (v7 : Int32) (S M : Pool), CR g S M → wX9_work_229 K94' K132' K174' post' v0 v1 v2 v3 v4 v5 v7 M → wX9_work_229 K94 K132 K174 post (v0.map g) v1 v2 v3 v4 v5 v7 S := by
  intro v0 v1 v2 v3 v4 v5 v7 S M h hw
  unfold wX9_work_229 at hw ⊢
  exact rX9_work_230 hp hK94 hK132 hK174 _ _ _ _ _ _ _ _ _ _ h hw
set_option maxRecDepth 100000 in
set_option maxHeartbeats 4000000 in
theorem rX9_work_174 {g : Nat → Nat} {K94 K94' : Option Nat → Int32 → Int32 → Int32 → Pool → Prop} {K132 K132' : Option Nat → Int32 → Int32 → Int32 → Int32 → Int32 → Pool → Prop} {post post' : Pool → Prop} (hp : ∀ S M, CR g S M → post' M → post S) (hK94 : ∀ (v0 : Option Nat) (v1 : Int32) (v2 : Int32) (v3 : Int32) (S M : Pool), CR g S M → K94' v0 v1 v2 v3 M → K94 (v0.map g) v1 v2 v3 S) (hK132 : ∀ (v0 : Option Nat) (v1 : Int32) (v2 : Int32) (v3 : Int32) (v4 : Int32) (v5 : Int32) (S M : Pool), CR g S M → K132' v0 v1 v2 v3 v4 v5 M → K132 (v0.map g) v1 v2 v3 v4 v5 S) : ∀ (n : Nat) (v0 : Option Nat) (v1 : Int32) (v2 : Int32) (v3 : Int32) (v4 : Int32) (v5 : Int32) (v6 : Int32) (v7 : Int32) (S M : Pool), CR g S M → wX9_work_174 K94' K132' post' n v0 v1 v2 v3 v4 v5 v6 v7 M → wX9_work_174 K94 K132 post n (v0.map g) v1 v2 v3 v4 v5 v6 v7 S := by
  intro n
  induction n with
  | zero => intro v0 v1 v2 v3 v4 v5 v6 v7 S M h hw; exact False.elim hw
  | succ n ih =>
    intro v0 v1 v2 v3 v4 v5 v6 v7 S M h hw
    unfold wX9_work_174 at hw ⊢
    refine cr_I h hw (fun a1 hw => ?_)
    refine ⟨fun c2 => ?_, fun c2 => ?_⟩
    · have hw := hw.1 c2
      exact rX9_work_238 hp hK94 hK132 _ _ _ _ _ _ _ _ _ h hw
    · have hw := hw.2 c2
      refine ⟨fun c3 => ?_, fun c3 => ?_⟩
      · have hw := hw.1 c3
        exact rX9_work_238 hp hK94 hK132 _ _ _ _ _ _ _ _ _ h hw
      · have hw := hw.2 c3
        refine ⟨fun c4 => ?_, fun c4 => ?_⟩
        · have hw := hw.1 c4
          refine cr_R h hw (fun a5 hw => ?_)
          refine cr_aI h hw (fun a6 hw => ?_)
          refine ⟨fun c7 => ?_, fun c7 => ?_⟩
          · have hw := hw.1 c7
            exact rX9_work_229 hp hK94 hK132 ih _ _ _ _ _ _ _ _ _ h hw
          · have hw := hw.2 c7
            refine cr_rc h hw (fun hw => ?_)
            refine rX9_leads (fun a8 S M h hw => ?_) _ _ _ _ _ _ _ _ h hw
            refine ⟨fun c9 => ?_, fun c9 => ?_⟩
            · have hw := hw.1 c9
              exact rX9_work_229 hp hK94 hK132 ih _ _ _ _ _ _ _ _ _ h hw
            · have hw := hw.2 c9
              exact rX9_work_230 hp hK94 hK132 ih _ _ _ _ _ _ _ _ _ _ h hw
        · have hw := hw.2 c4
          exact rX9_work_238 hp hK94 hK132 _ _ _ _ _ _ _ _ _ h hw
set_option maxRecDepth 100000 in
set_option maxHeartbeats 4000000 in
theorem rX9_work_171 {g : Nat → Nat} {K94 K94' : Option Nat → Int32 → Int32 → Int32 → Pool → Prop} {K132 K132' : Option Nat → Int32 → Int32 → Int32 → Int32 → Int32 → Pool → Prop} {post post' : Pool → Prop} (hp : ∀ S M, CR g S M → post' M → post S) (hK94 : ∀ (v0 : Option Nat) (v1 : Int32) (v2 : Int32) (v3 : Int32) (S M : Pool), CR g S M → K94' v0 v1 v2 v3 M → K94 (v0.map g) v1 v2 v3 S) (hK132 : ∀ (v0 : Option Nat) (v1 : Int32) (v2 : Int32) (v3 : Int32) (v4 : Int32) (v5 : Int32) (S M : Pool), CR g S M → K132' v0 v1 v2 v3 v4 v5 M → K132 (v0.map g) v1 v2 v3 v4 v5 S) : ∀ (v0 : Option Nat) (v1 : Int32) (v2 : Int32) (v3 : Int32) (v4 : Int32) (v5 : Int32) (v6 : Int32) (S M : Pool), CR g S M → wX9_work_171 K94' K132' post' v0 v1 v2 v3 v4 v5 v6 M → wX9_work_171 K94 K132 post (v0.map g) v1 v2 v3 v4 v5 v6 S := by
  intro v0 v1 v2 v3 v4 v5 v6 S M h hw
  unfold wX9_work_171 at hw ⊢
  obtain ⟨n1, hw⟩ := hw
  exact ⟨n1, rX9_work_174 hp hK94 hK132 n1 _ _ _ _ _ _ _ _ _ _ h hw⟩
set_option maxRecDepth 100000 in
set_option maxHeartbeats 4000000 in
theorem rX9_work_132 {g : Nat → Nat} {K94 K94' : Option Nat → Int32 → Int32 → Int32 → Pool → Prop} {post post' : Pool → Prop} (hp : ∀ S M, CR g S M → post' M → post S) (hK94 : ∀ (v0 : Option Nat) (v1 : Int32) (v2 : Int32) (v3 : Int32) (S M : Pool), CR g S M → K94' v0 v1 v2 v3 M → K94 (v0.map g) v1 v2 v3 S) : ∀ (n : Nat) (v0 : Option Nat) (v1 : Int32) (v2 : Int32) (v3 : Int32) (v4 : Int32) (v5 : Int32) (S M : Pool), CR g S M → wX9_work_132 K94' post' n v0 v1 v2 v3 v4 v5 M → wX9_work_132 K94 post n (v0.map g) v1 v2 v3 v4 v5 S := by
  intro n
  induction n with
  | zero => intro v0 v1 v2 v3 v4 v5 S M h hw; exact False.elim hw
  | succ n ih =>
    intro v0 v1 v2 v3 v4 v5 S M h hw
    unfold wX9_work_132 at hw ⊢
    refine cr_I h hw (fun a1 hw => ?_)
    refine ⟨fun c2 => ?_, fun c2 => ?_⟩
    · have hw := hw.1 c2
      exact rX9_work_259 hp hK94 _ _ _ _ _ _ h hw
    · have hw := hw.2 c2
      refine cr_R h hw (fun a3 hw => ?_)
      refine cr_aI h hw (fun a4 hw => ?_)
      refine ⟨fun c5 => ?_, fun c5 => ?_⟩
      · have hw := hw.1 c5
        exact rX9_work_253 hp hK94 ih _ _ _ _ _ _ _ _ h hw
      · have hw := hw.2 c5
        refine ⟨fun c6 => ?_, fun c6 => ?_⟩
        · have hw := hw.1 c6
          exact rX9_work_171 hp hK94 ih _ _ _ _ _ _ _ _ _ h hw
        · have hw := hw.2 c6
          exact rX9_work_171 hp hK94 ih _ _ _ _ _ _ _ _ _ h hw
set_option maxRecDepth 100000 in
set_option maxHeartbeats 4000000 in
theorem rX9_work_94 {g : Nat → Nat} {post post' : Pool → Prop} (hp : ∀ S M, CR g S M → post' M → post S) : ∀ (n : Nat) (v0 : Option Nat) (v1 : Int32) (v2 : Int32) (v3 : Int32) (S M : Pool), CR g S M → wX9_work_94 post' n v0 v1 v2 v3 M → wX9_work_94 post n (v0.map g) v1 v2 v3 S := by
  intro n
  induction n with
  | zero => intro v0 v1 v2 v3 S M h hw; exact False.elim hw
  | succ n ih =>
    intro v0 v1 v2 v3 S M h hw
    unfold wX9_work_94 at hw ⊢
    refine cr_R h hw (fun a1 hw => ?_)
    refine cr_aI h hw (fun a2 hw => ?_)
    refine ⟨fun c3 => ?_, fun c3 => ?_⟩
    · have hw := hw.1 c3
      refine cr_rc h hw (fun hw => ?_)
      refine rX9_lastStep (fun a4 S M h hw => ?_) _ _ _ _ h hw
      obtain ⟨n1, hw⟩ := hw
      exact ⟨n1, rX9_work_274 hp n1 _ _ _ _ _ _ _ h hw⟩
    · have hw := hw.2 c3
      refine cr_R h hw (fun a5 hw => ?_)
      refine cr_aI h hw (fun a6 hw => ?_)
      refine ⟨fun c7 => ?_, fun c7 => ?_⟩
      · have hw := hw.1 c7
        refine cr_rc h hw (fun hw => ?_)
        refine rX9_before (fun a8 S M h hw => ?_) _ _ _ _ _ h hw
        obtain ⟨n1, hw⟩ := hw
        exact ⟨n1, rX9_work_132 hp ih n1 _ _ _ _ _ _ _ _ h hw⟩
      · have hw := hw.2 c7
        exact rX9_work_259 hp ih _ _ _ _ _ _ h hw
set_option maxRecDepth 100000 in
set_option maxHeartbeats 4000000 in
theorem rX9_work_49 {g : Nat → Nat} {K36 K36' : Option Nat → Int32 → Int32 → Int32 → Pool → Prop} {post post' : Pool → Prop} (hp : ∀ S M, CR g S M → post' M → post S) (hK36 : ∀ (v0 : Option Nat) (v1 : Int32) (v2 : Int32) (v3 : Int32) (S M : Pool), CR g S M → K36' v0 v1 v2 v3 M → K36 (v0.map g) v1 v2 v3 S) : ∀ (n : Nat) (v0 : Option Nat) (v1 : Int32) (v2 : Int32) (v3 : Int32) (v4 : Int32) (S M : Pool), CR g S M → wX9_work_49 K36' post' n v0 v1 v2 v3 v4 M → wX9_work_49 K36 post n (v0.map g) v1 v2 v3 v4 S := by
  intro n
  induction n with
  | zero => intro v0 v1 v2 v3 v4 S M h hw; exact False.elim hw
  | succ n ih =>
    intro v0 v1 v2 v3 v4 S M h hw
    unfold wX9_work_49 at hw ⊢
    refine cr_I h hw (fun a1 hw => ?_)
    refine ⟨fun c2 => ?_, fun c2 => ?_⟩
    · have hw := hw.1 c2
      exact hK36 _ _ _ _ _ _ h hw
    · have hw := hw.2 c2
      refine cr_R h hw (fun a3 hw => ?_)
      refine cr_rc h hw (fun hw => ?_)
      refine rX9_fits (fun a4 S M h hw => ?_) _ _ _ _ _ _ _ h hw
      refine cr_sZ h hw (fun S M h hw => ?_)
      exact ih _ _ _ _ _ _ _ h hw
set_option maxRecDepth 100000 in
set_option maxHeartbeats 4000000 in
theorem rX9_work_36 {g : Nat → Nat} {post post' : Pool → Prop} (hp : ∀ S M, CR g S M → post' M → post S) : ∀ (n : Nat) (v0 : Option Nat) (v1 : Int32) (v2 : Int32) (v3 : Int32) (S M : Pool), CR g S M → wX9_work_36 post' n v0 v1 v2 v3 M → wX9_work_36 post n (v0.map g) v1 v2 v3 S := by
  intro n
  induction n with
  | zero => intro v0 v1 v2 v3 S M h hw; exact False.elim hw
  | succ n ih =>
    intro v0 v1 v2 v3 S M h hw
    unfold wX9_work_36 at hw ⊢
    refine cr_R h hw (fun a1 hw => ?_)
    refine cr_aI h hw (fun a2 hw => ?_)
    refine ⟨fun c3 => ?_, fun c3 => ?_⟩
    · have hw := hw.1 c3
      obtain ⟨n1, hw⟩ := hw
      exact ⟨n1, rX9_work_94 hp n1 _ _ _ _ _ _ h hw⟩
    · have hw := hw.2 c3
      obtain ⟨n1, hw⟩ := hw
      exact ⟨n1, rX9_work_49 hp ih n1 _ _ _ _ _ _ _ h hw⟩
set_option maxRecDepth 100000 in
set_option maxHeartbeats 4000000 in
theorem rX9_work_7 {g : Nat → Nat} {post post' : Pool → Prop} (hp : ∀ S M, CR g S M → post' M → post S) : ∀ (n : Nat) (v0 : Option Nat) (v1 : Int32) (v2 : Int32) (v3 : Int32) (S M : Pool), CR g S M → wX9_work_7 post' n v0 v1 v2 v3 M → wX9_work_7 post n (v0.map g) v1 v2 v3 S := by
  intro n
  induction n with
  | zero => intro v0 v1 v2 v3 S M h hw; exact False.elim hw
  | succ n ih =>
    intro v0 v1 v2 v3 S M h hw
    unfold wX9_work_7 at hw ⊢
    refine ⟨fun c1 => ?_, fun c1 => ?_⟩
    · have hw := hw.1 c1
      obtain ⟨n1, hw⟩ := hw
      exact ⟨n1, rX9_work_36 hp n1 _ _ _ _ _ _ h hw⟩
    · have hw := hw.2 c1
      refine cr_R h hw (fun a2 hw => ?_)
      refine cr_sZ h hw (fun S M h hw => ?_)
      refine cr_R h hw (fun a3 hw => ?_)
      refine cr_sZ h hw (fun S M h hw => ?_)
      exact ih _ _ _ _ _ _ h hw
set_option maxRecDepth 100000 in
set_option maxHeartbeats 4000000 in
theorem rX9_work {g : Nat → Nat} {post post' : Pool → Prop} (hp : ∀ S M, CR g S M → post' M → post S) : ∀ (v0 : Option Nat) (v1 : Int32) (v2 : Int32) (S M : Pool), CR g S M → wX9_work post' v0 v1 v2 M → wX9_work post (v0.map g) v1 v2 S := by
  intro v0 v1 v2 S M h hw
  unfold wX9_work at hw ⊢
  refine cr_pI h hw (fun S M h hw => ?_)
  obtain ⟨n1, hw⟩ := hw
  exact ⟨n1, rX9_work_7 hp n1 _ _ _ _ _ _ h hw⟩
-- X9_finds
set_option maxRecDepth 100000 in
set_option maxHeartbeats 4000000 in
theorem rX9_finds_14 {g : Nat → Nat} {post post' : Int32 → Pool → Prop} (hp : ∀ v S M, CR g S M → post' v M → post v S) : ∀ (v0 : Option Nat) (v1 : Int32) (v2 : Int32) (z0 : Int32) (z1 : Option Nat) (S M : Pool), CR g S M → wX9_finds_14 post' v0 v1 v2 z0 z1 M → wX9_finds_14 post (v0.map g) v1 v2 z0 (z1.map g) S := by
  intro v0 v1 v2 z0 z1 S M h hw
  unfold wX9_finds_14 at hw ⊢
  refine cr_pI h hw (fun S M h hw => ?_)
  refine cr_I h hw (fun a1 hw => ?_)
  refine ⟨fun c2 => ?_, fun c2 => ?_⟩
  · have hw := hw.1 c2
    refine cr_rc h hw (fun hw => ?_)
    refine rX9_work (fun S M h hw => ?_) _ _ _ _ _ h hw
    refine cr_I h hw (fun a3 hw => ?_)
    exact hp _ _ _ h hw
  · have hw := hw.2 c2
    exact hp _ _ _ h hw
set_option maxRecDepth 100000 in
set_option maxHeartbeats 4000000 in
theorem rX9_finds {g : Nat → Nat} {post post' : Int32 → Pool → Prop} (hp : ∀ v S M, CR g S M → post' v M → post v S) : ∀ (v0 : Option Nat) (v1 : Int32) (v2 : Int32) (S M : Pool), CR g S M → wX9_finds post' v0 v1 v2 M → wX9_finds post (v0.map g) v1 v2 S := by
  intro v0 v1 v2 S M h hw
  unfold wX9_finds at hw ⊢
  refine cr_rc h hw (fun hw => ?_)
  refine rX9_isQuestion (fun a1 S M h hw => ?_) _ _ _ _ h hw
  refine ⟨fun c2 => ?_, fun c2 => ?_⟩
  · have hw := hw.1 c2
    exact rX9_finds_14 hp _ _ _ _ _ _ _ h hw
  · have hw := hw.2 c2
    exact rX9_finds_14 hp _ _ _ _ _ _ _ h hw
-- X9_found
set_option maxRecDepth 100000 in
set_option maxHeartbeats 4000000 in
theorem rX9_found_14 {g : Nat → Nat} {post post' : Int32 → Pool → Prop} (hp : ∀ v S M, CR g S M → post' v M → post v S) : ∀ (v0 : Option Nat) (v1 : Int32) (v2 : Int32) (v3 : Int32) (z0 : Int32) (z1 : Option Nat) (S M : Pool), CR g S M → wX9_found_14 post' v0 v1 v2 v3 z0 z1 M → wX9_found_14 post (v0.map g) v1 v2 v3 z0 (z1.map g) S := by
  intro v0 v1 v2 v3 z0 z1 S M h hw
  unfold wX9_found_14 at hw ⊢
  refine cr_pI h hw (fun S M h hw => ?_)
  refine cr_I h hw (fun a1 hw => ?_)
  refine ⟨fun c2 => ?_, fun c2 => ?_⟩
  · have hw := hw.1 c2
    refine cr_rc h hw (fun hw => ?_)
    refine rX9_work (fun S M h hw => ?_) _ _ _ _ _ h hw
    refine ⟨fun c3 => ?_, fun c3 => ?_⟩
    · have hw := hw.1 c3
      exact hp _ _ _ h hw
    · have hw := hw.2 c3
      refine cr_I h hw (fun a4 hw => ?_)
      refine ⟨fun c5 => ?_, fun c5 => ?_⟩
      · have hw := hw.1 c5
        exact hp _ _ _ h hw
      · have hw := hw.2 c5
        refine cr_R h hw (fun a6 hw => ?_)
        refine cr_aI h hw (fun a7 hw => ?_)
        exact hp _ _ _ h hw
  · have hw := hw.2 c2
    exact hp _ _ _ h hw
set_option maxRecDepth 100000 in
set_option maxHeartbeats 4000000 in
theorem rX9_found {g : Nat → Nat} {post post' : Int32 → Pool → Prop} (hp : ∀ v S M, CR g S M → post' v M → post v S) : ∀ (v0 : Option Nat) (v1 : Int32) (v2 : Int32) (v3 : Int32) (S M : Pool), CR g S M → wX9_found post' v0 v1 v2 v3 M → wX9_found post (v0.map g) v1 v2 v3 S := by
  intro v0 v1 v2 v3 S M h hw
  unfold wX9_found at hw ⊢
  refine cr_rc h hw (fun hw => ?_)
  refine rX9_isQuestion (fun a1 S M h hw => ?_) _ _ _ _ h hw
  refine ⟨fun c2 => ?_, fun c2 => ?_⟩
  · have hw := hw.1 c2
    exact rX9_found_14 hp _ _ _ _ _ _ _ _ h hw
  · have hw := hw.2 c2
    exact rX9_found_14 hp _ _ _ _ _ _ _ _ h hw
-- X9_isLater
set_option maxRecDepth 100000 in
set_option maxHeartbeats 4000000 in
theorem rX9_isLater_40 {g : Nat → Nat} {post post' : Int32 → Pool → Prop} (hp : ∀ v S M, CR g S M → post' v M → post v S) : ∀ (S M : Pool), CR g S M → wX9_isLater_40 post' M → wX9_isLater_40 post S := by
  intro S M h hw
  unfold wX9_isLater_40 at hw ⊢
  exact ⟨hw.1, hp _ _ _ h hw.2⟩
set_option maxRecDepth 100000 in
set_option maxHeartbeats 4000000 in
theorem rX9_isLater {g : Nat → Nat} {post post' : Int32 → Pool → Prop} (hp : ∀ v S M, CR g S M → post' v M → post v S) : ∀ (v0 : Option Nat) (v1 : Int32) (v2 : Int32) (S M : Pool), CR g S M → wX9_isLater post' v0 v1 v2 M → wX9_isLater post (v0.map g) v1 v2 S := by
  intro v0 v1 v2 S M h hw
  unfold wX9_isLater at hw ⊢
  refine ⟨fun c1 => ?_, fun c1 => ?_⟩
  · have hw := hw.1 c1
    exact rX9_isLater_40 hp _ _ h hw
  · have hw := hw.2 c1
    refine cr_R h hw (fun a2 hw => ?_)
    refine cr_aI h hw (fun a3 hw => ?_)
    refine cr_R h hw (fun a4 hw => ?_)
    refine cr_aI h hw (fun a5 hw => ?_)
    refine ⟨fun c6 => ?_, fun c6 => ?_⟩
    · have hw := hw.1 c6
      exact rX9_isLater_40 hp _ _ h hw
    · have hw := hw.2 c6
      refine cr_R h hw (fun a7 hw => ?_)
      refine cr_aI h hw (fun a8 hw => ?_)
      refine cr_R h hw (fun a9 hw => ?_)
      refine cr_aI h hw (fun a10 hw => ?_)
      refine ⟨fun c11 => ?_, fun c11 => ?_⟩
      · have hw := hw.1 c11
        refine ⟨fun c12 => ?_, fun c12 => ?_⟩
        · have hw := hw.1 c12
          exact ⟨hw.1, hp _ _ _ h hw.2⟩
        · have hw := hw.2 c12
          exact rX9_isLater_40 hp _ _ h hw
      · have hw := hw.2 c11
        exact ⟨hw.1, hp _ _ _ h hw.2⟩
-- X9_proof
set_option maxRecDepth 100000 in
set_option maxHeartbeats 4000000 in
theorem rX9_proof_165 {g : Nat → Nat} {K64 K64' : Option Nat → Int32 → Int32 → Int32 → Int32 → Int32 → Pool → Prop} {post post' : Int32 → Pool → Prop} (hp : ∀ v S M, CR g S M → post' v M → post v S) (hK64 : ∀ (v0 : Option Nat) (v1 : Int32) (v4 : Int32) (v5 : Int32) (v6 : Int32) (v7 : Int32) (S M : Pool), CR g S M → K64' v0 v1 v4 v5 v6 v7 M → K64 (v0.map g) v1 v4 v5 v6 v7 S) : ∀ (v0 : Option Nat) (v1 : Int32) (v4 : Int32) (v6 : Int32) (v8 : Int32) (v9 : Int32) (S M : Pool), CR g S M → wX9_proof_165 K64' post' v0 v1 v4 v6 v8 v9 M → wX9_proof_165 K64 post (v0.map g) v1 v4 v6 v8 v9 S := by
  intro v0 v1 v4 v6 v8 v9 S M h hw
  unfold wX9_proof_165 at hw ⊢
  exact hK64 _ _ _ _ _ _ _ _ h hw
set_option maxRecDepth 100000 in
set_option maxHeartbeats 4000000 in
theorem rX9_proof_159 {g : Nat → Nat} {K64 K64' : Option Nat → Int32 → Int32 → Int32 → Int32 → Int32 → Pool → Prop} {K97 K97' : Option Nat → Int32 → Int32 → Int32 → Int32 → Int32 → Int32 → Int32 → Int32 → Pool → Prop} {post post' : Int32 → Pool → Prop} (hp : ∀ v S M, CR g S M → post' v M → post v S) (hK64 : ∀ (v0 : Option Nat) (v1 : Int32) (v4 : Int32) (v5 : Int32) (v6 : Int32) (v7 : Int32) (S M : Pool), CR g S M → K64' v0 v1 v4 v5 v6 v7 M → K64 (v0.map g) v1 v4 v5 v6 v7 S) (hK97 : ∀ (v0 : Option Nat) (v1 : Int32) (v4 : Int32) (v5 : Int32) (v6 : Int32) (v7 : Int32) (v8 : Int32) (v9 : Int32) (v10 : Int32) (S M : Pool), CR g S M → K97' v0 v1 v4 v5 v6 v7 v8 v9 v10 M → K97 (v0.map g) v1 v4 v5 v6 v7 v8 v9 v10 S) : ∀ (v0 : Option Nat) (v1 : Int32) (v4 : Int32) (v5 : Int32) (v6 : Int32) (v7 : Int32) (v8 : Int32) (v9 : Int32) (v10 : Int32) (S M : Pool), CR g S M → wX9_proof_159 K64' K97' post' v0 v1 v4 v5 v6 v7 v8 v9 v10 M → wX9_proof_159 K64 K97 post (v0.map g) v1 v4 v5 v6 v7 v8 v9 v10 S := by
  intro v0 v1 v4 v5 v6 v7 v8 v9 v10 S M h hw
  unfold wX9_proof_159 at hw ⊢
  exact hK97 _ _ _ _ _ _ _ _ _ _ _ h hw
set_option maxRecDepth 100000 in
set_option maxHeartbeats 4000000 in
theorem rX9_proof_97 {g : Nat → Nat} {K64 K64' : Option Nat → Int32 → Int32 → Int32 → Int32 → Int32 → Pool → Prop} {post post' : Int32 → Pool → Prop} (hp : ∀ v S M, CR g S M → post' v M → post v S) (hK64 : ∀ (v0 : Option Nat) (v1 : Int32) (v4 : Int32) (v5 : Int32) (v6 : Int32) (v7 : Int32) (S M : Pool), CR g S M → K64' v0 v1 v4 v5 v6 v7 M → K64 (v0.map g) v1 v4 v5 v6 v7 S) : ∀ (n : Nat) (v0 : Option Nat) (v1 : Int32) (v4 : Int32) (v5 : Int32) (v6 : Int32) (v7 : Int32) (v8 : Int32) (v9 : Int32) (v10 : Int32) (S M : Pool), CR g S M → wX9_proof_97 K64' post' n v0 v1 v4 v5 v6 v7 v8 v9 v10 M → wX9_proof_97 K64 post n (v0.map g) v1 v4 v5 v6 v7 v8 v9 v10 S := by
  intro n
  induction n with
  | zero => intro v0 v1 v4 v5 v6 v7 v8 v9 v10 S M h hw; exact False.elim hw
  | succ n ih =>
    intro v0 v1 v4 v5 v6 v7 v8 v9 v10 S M h hw
    unfold wX9_proof_97 at hw ⊢
    refine cr_I h hw (fun a1 hw => ?_)
    refine ⟨fun c2 => ?_, fun c2 => ?_⟩
    · have hw := hw.1 c2
      exact rX9_proof_165 hp hK64 _ _ _ _ _ _ _ _ h hw
    · have hw := hw.2 c2
      refine ⟨fun c3 => ?_, fun c3 => ?_⟩
      · have hw := hw.1 c3
        exact rX9_proof_165 hp hK64 _ _ _ _ _ _ _ _ h hw
      · have hw := hw.2 c3
        refine cr_R h hw (fun a4 hw => ?_)
        refine cr_aI h hw (fun a5 hw => ?_)
        refine ⟨fun c6 => ?_, fun c6 => ?_⟩
        · have hw := hw.1 c6
          exact rX9_proof_159 hp hK64 ih _ _ _ _ _ _ _ _ _ _ _ h hw
        · have hw := hw.2 c6
          refine cr_rc h hw (fun hw => ?_)
          refine rX9_leads (fun a7 S M h hw => ?_) _ _ _ _ _ _ _ _ h hw
          refine ⟨fun c8 => ?_, fun c8 => ?_⟩
          · have hw := hw.1 c8
            exact rX9_proof_159 hp hK64 ih _ _ _ _ _ _ _ _ _ _ _ h hw
          · have hw := hw.2 c8
            refine cr_rc h hw (fun hw => ?_)
            refine rX9_isLater (fun a9 S M h hw => ?_) _ _ _ _ _ h hw
            refine ⟨fun c10 => ?_, fun c10 => ?_⟩
            · have hw := hw.1 c10
              exact rX9_proof_159 hp hK64 ih _ _ _ _ _ _ _ _ _ _ _ h hw
            · have hw := hw.2 c10
              exact rX9_proof_159 hp hK64 ih _ _ _ _ _ _ _ _ _ _ _ h hw
set_option maxRecDepth 100000 in
set_option maxHeartbeats 4000000 in
theorem rX9_proof_64 {g : Nat → Nat} {post post' : Int32 → Pool → Prop} (hp : ∀ v S M, CR g S M → post' v M → post v S) : ∀ (n : Nat) (v0 : Option Nat) (v1 : Int32) (v4 : Int32) (v5 : Int32) (v6 : Int32) (v7 : Int32) (S M : Pool), CR g S M → wX9_proof_64 post' n v0 v1 v4 v5 v6 v7 M → wX9_proof_64 post n (v0.map g) v1 v4 v5 v6 v7 S := by
  intro n
  induction n with
  | zero => intro v0 v1 v4 v5 v6 v7 S M h hw; exact False.elim hw
  | succ n ih =>
    intro v0 v1 v4 v5 v6 v7 S M h hw
    unfold wX9_proof_64 at hw ⊢
    refine ⟨fun c1 => ?_, fun c1 => ?_⟩
    · have hw := hw.1 c1
      refine ⟨fun c2 => ?_, fun c2 => ?_⟩
      · have hw := hw.1 c2
        exact hp _ _ _ h hw
      · have hw := hw.2 c2
        refine ⟨fun c3 => ?_, fun c3 => ?_⟩
        · have hw := hw.1 c3
          exact hp _ _ _ h hw
        · have hw := hw.2 c3
          refine cr_R h hw (fun a4 hw => ?_)
          refine cr_aI h hw (fun a5 hw => ?_)
          exact hp _ _ _ h hw
    · have hw := hw.2 c1
      refine cr_R h hw (fun a6 hw => ?_)
      refine cr_sI h hw (fun S M h hw => ?_)
      refine cr_rc h hw (fun hw => ?_)
      refine rX9_before (fun a7 S M h hw => ?_) _ _ _ _ _ h hw
      obtain ⟨n1, hw⟩ := hw
      exact ⟨n1, rX9_proof_97 hp ih n1 _ _ _ _ _ _ _ _ _ _ _ h hw⟩
set_option maxRecDepth 100000 in
set_option maxHeartbeats 4000000 in
theorem rX9_proof_14 {g : Nat → Nat} {post post' : Int32 → Pool → Prop} (hp : ∀ v S M, CR g S M → post' v M → post v S) : ∀ (v0 : Option Nat) (v1 : Int32) (v2 : Int32) (v3 : Int32) (v4 : Int32) (z0 : Int32) (z1 : Option Nat) (S M : Pool), CR g S M → wX9_proof_14 post' v0 v1 v2 v3 v4 z0 z1 M → wX9_proof_14 post (v0.map g) v1 v2 v3 v4 z0 (z1.map g) S := by
  intro v0 v1 v2 v3 v4 z0 z1 S M h hw
  unfold wX9_proof_14 at hw ⊢
  refine cr_pI h hw (fun S M h hw => ?_)
  refine cr_I h hw (fun a1 hw => ?_)
  refine ⟨fun c2 => ?_, fun c2 => ?_⟩
  · have hw := hw.1 c2
    refine cr_rc h hw (fun hw => ?_)
    refine rX9_work (fun S M h hw => ?_) _ _ _ _ _ h hw
    refine ⟨fun c3 => ?_, fun c3 => ?_⟩
    · have hw := hw.1 c3
      exact hp _ _ _ h hw
    · have hw := hw.2 c3
      refine cr_I h hw (fun a4 hw => ?_)
      refine ⟨fun c5 => ?_, fun c5 => ?_⟩
      · have hw := hw.1 c5
        refine cr_rc h hw (fun hw => ?_)
        refine rX9_lastStep (fun a6 S M h hw => ?_) _ _ _ _ h hw
        refine cr_R h hw (fun a7 hw => ?_)
        refine cr_aI h hw (fun a8 hw => ?_)
        obtain ⟨n1, hw⟩ := hw
        exact ⟨n1, rX9_proof_64 hp n1 _ _ _ _ _ _ _ _ h hw⟩
      · have hw := hw.2 c5
        exact hp _ _ _ h hw
  · have hw := hw.2 c2
    exact hp _ _ _ h hw
set_option maxRecDepth 100000 in
set_option maxHeartbeats 4000000 in
theorem rX9_proof {g : Nat → Nat} {post post' : Int32 → Pool → Prop} (hp : ∀ v S M, CR g S M → post' v M → post v S) : ∀ (v0 : Option Nat) (v1 : Int32) (v2 : Int32) (v3 : Int32) (v4 : Int32) (S M : Pool), CR g S M → wX9_proof post' v0 v1 v2 v3 v4 M → wX9_proof post (v0.map g) v1 v2 v3 v4 S := by
  intro v0 v1 v2 v3 v4 S M h hw
  unfold wX9_proof at hw ⊢
  refine cr_rc h hw (fun hw => ?_)
  refine rX9_isQuestion (fun a1 S M h hw => ?_) _ _ _ _ h hw
  refine ⟨fun c2 => ?_, fun c2 => ?_⟩
  · have hw := hw.1 c2
    exact rX9_proof_14 hp _ _ _ _ _ _ _ _ _ h hw
  · have hw := hw.2 c2
    exact rX9_proof_14 hp _ _ _ _ _ _ _ _ _ h hw
-- X9_exempt
set_option maxRecDepth 100000 in
set_option maxHeartbeats 4000000 in
theorem rX9_exempt_38 {g : Nat → Nat} {post post' : Int32 → Pool → Prop} (hp : ∀ v S M, CR g S M → post' v M → post v S) : ∀ (v0 : Option Nat) (v1 : Int32) (v2 : Int32) (v3 : Int32) (z0 : Int32) (z1 : Option Nat) (S M : Pool), CR g S M → wX9_exempt_38 post' v0 v1 v2 v3 z0 z1 M → wX9_exempt_38 post (v0.map g) v1 v2 v3 z0 (z1.map g) S := by
  intro v0 v1 v2 v3 z0 z1 S M h hw
  unfold wX9_exempt_38 at hw ⊢
  refine cr_pI h hw (fun S M h hw => ?_)
  refine cr_I h hw (fun a1 hw => ?_)
  refine ⟨fun c2 => ?_, fun c2 => ?_⟩
  · have hw := hw.1 c2
    refine cr_I h hw (fun a3 hw => ?_)
    refine ⟨fun c4 => ?_, fun c4 => ?_⟩
    · have hw := hw.1 c4
      exact hp _ _ _ h hw
    · have hw := hw.2 c4
      refine cr_R h hw (fun a5 hw => ?_)
      refine cr_I h hw (fun a6 hw => ?_)
      refine cr_sI h hw (fun S M h hw => ?_)
      refine cr_R h hw (fun a7 hw => ?_)
      refine cr_I h hw (fun a8 hw => ?_)
      refine cr_sI h hw (fun S M h hw => ?_)
      refine cr_R h hw (fun a9 hw => ?_)
      refine cr_I h hw (fun a10 hw => ?_)
      refine cr_sI h hw (fun S M h hw => ?_)
      refine cr_I h hw (fun a11 hw => ?_)
      refine cr_pI h hw (fun S M h hw => ?_)
      refine cr_I h hw (fun a12 hw => ?_)
      exact hp _ _ _ h hw
  · have hw := hw.2 c2
    exact hp _ _ _ h hw
set_option maxRecDepth 100000 in
set_option maxHeartbeats 4000000 in
theorem rX9_exempt_33 {g : Nat → Nat} {post post' : Int32 → Pool → Prop} (hp : ∀ v S M, CR g S M → post' v M → post v S) : ∀ (v0 : Option Nat) (v1 : Int32) (v2 : Int32) (v3 : Int32) (z0 : Option Nat) (S M : Pool), CR g S M → wX9_exempt_33 post' v0 v1 v2 v3 z0 M → wX9_exempt_33 post (v0.map g) v1 v2 v3 (z0.map g) S := by
  intro v0 v1 v2 v3 z0 S M h hw
  unfold wX9_exempt_33 at hw ⊢
  exact rX9_exempt_38 hp _ _ _ _ _ _ _ _ h hw
set_option maxRecDepth 100000 in
set_option maxHeartbeats 4000000 in
theorem rX9_exempt {g : Nat → Nat} {post post' : Int32 → Pool → Prop} (hp : ∀ v S M, CR g S M → post' v M → post v S) : ∀ (v0 : Option Nat) (v1 : Int32) (v2 : Int32) (v3 : Int32) (S M : Pool), CR g S M → wX9_exempt post' v0 v1 v2 v3 M → wX9_exempt post (v0.map g) v1 v2 v3 S := by
  intro v0 v1 v2 v3 S M h hw
  unfold wX9_exempt at hw ⊢
  refine cr_rc h hw (fun hw => ?_)
  refine rX9_isQuestion (fun a1 S M h hw => ?_) _ _ _ _ h hw
  refine ⟨fun c2 => ?_, fun c2 => ?_⟩
  · have hw := hw.1 c2
    exact rX9_exempt_38 hp _ _ _ _ _ _ _ _ h hw
  · have hw := hw.2 c2
    refine rX9_isIn (fun a3 S M h hw => ?_) _ _ _ _ _ h hw
    refine ⟨fun c4 => ?_, fun c4 => ?_⟩
    · have hw := hw.1 c4
      exact rX9_exempt_33 hp _ _ _ _ _ _ _ h hw
    · have hw := hw.2 c4
      refine rX9_isIn (fun a5 S M h hw => ?_) _ _ _ _ _ h hw
      refine ⟨fun c6 => ?_, fun c6 => ?_⟩
      · have hw := hw.1 c6
        exact rX9_exempt_33 hp _ _ _ _ _ _ _ h hw
      · have hw := hw.2 c6
        exact rX9_exempt_38 hp _ _ _ _ _ _ _ _ h hw
-- X9_isExempt
set_option maxRecDepth 100000 in
set_option maxHeartbeats 4000000 in
theorem rX9_isExempt_54 {g : Nat → Nat} {K2 K2' : Option Nat → Int32 → Int32 → Int32 → Pool → Prop} {post post' : Int32 → Pool → Prop} (hp : ∀ v S M, CR g S M → post' v M → post v S) (hK2 : ∀ (v0 : Option Nat) (v1 : Int32) (v2 : Int32) (v3 : Int32) (S M : Pool), CR g S M → K2' v0 v1 v2 v3 M → K2 (v0.map g) v1 v2 v3 S) : ∀ (v0 : Option Nat) (v1 : Int32) (v2 : Int32) (v3 : Int32) (S M : Pool), CR g S M → wX9_isExempt_54 K2' post' v0 v1 v2 v3 M → wX9_isExempt_54 K2 post (v0.map g) v1 v2 v3 S := by
  intro v0 v1 v2 v3 S M h hw
  unfold wX9_isExempt_54 at hw ⊢
  exact hK2 _ _ _ _ _ _ h hw
set_option maxRecDepth 100000 in
set_option maxHeartbeats 4000000 in
theorem rX9_isExempt_2 {g : Nat → Nat} {post post' : Int32 → Pool → Prop} (hp : ∀ v S M, CR g S M → post' v M → post v S) : ∀ (n : Nat) (v0 : Option Nat) (v1 : Int32) (v2 : Int32) (v3 : Int32) (S M : Pool), CR g S M → wX9_isExempt_2 post' n v0 v1 v2 v3 M → wX9_isExempt_2 post n (v0.map g) v1 v2 v3 S := by
  intro n
  induction n with
  | zero => intro v0 v1 v2 v3 S M h hw; exact False.elim hw
  | succ n ih =>
    intro v0 v1 v2 v3 S M h hw
    unfold wX9_isExempt_2 at hw ⊢
    refine cr_I h hw (fun a1 hw => ?_)
    refine ⟨fun c2 => ?_, fun c2 => ?_⟩
    · have hw := hw.1 c2
      exact ⟨hw.1, hp _ _ _ h hw.2⟩
    · have hw := hw.2 c2
      refine cr_R h hw (fun a3 hw => ?_)
      refine cr_aI h hw (fun a4 hw => ?_)
      refine ⟨fun c5 => ?_, fun c5 => ?_⟩
      · have hw := hw.1 c5
        refine cr_R h hw (fun a6 hw => ?_)
        refine cr_aI h hw (fun a7 hw => ?_)
        refine cr_R h hw (fun a8 hw => ?_)
        refine cr_aI h hw (fun a9 hw => ?_)
        refine ⟨fun c10 => ?_, fun c10 => ?_⟩
        · have hw := hw.1 c10
          refine cr_R h hw (fun a11 hw => ?_)
          refine cr_aI h hw (fun a12 hw => ?_)
          refine cr_R h hw (fun a13 hw => ?_)
          refine cr_aI h hw (fun a14 hw => ?_)
          refine ⟨fun c15 => ?_, fun c15 => ?_⟩
          · have hw := hw.1 c15
            exact rX9_isExempt_54 hp ih _ _ _ _ _ _ h hw
          · have hw := hw.2 c15
            exact ⟨hw.1, hp _ _ _ h hw.2⟩
        · have hw := hw.2 c10
          exact rX9_isExempt_54 hp ih _ _ _ _ _ _ h hw
      · have hw := hw.2 c5
        exact rX9_isExempt_54 hp ih _ _ _ _ _ _ h hw
set_option maxRecDepth 100000 in
set_option maxHeartbeats 4000000 in
theorem rX9_isExempt {g : Nat → Nat} {post post' : Int32 → Pool → Prop} (hp : ∀ v S M, CR g S M → post' v M → post v S) : ∀ (v0 : Option Nat) (v1 : Int32) (v2 : Int32) (S M : Pool), CR g S M → wX9_isExempt post' v0 v1 v2 M → wX9_isExempt post (v0.map g) v1 v2 S := by
  intro v0 v1 v2 S M h hw
  unfold wX9_isExempt at hw ⊢
  obtain ⟨n1, hw⟩ := hw
  exact ⟨n1, rX9_isExempt_2 hp n1 _ _ _ _ _ _ h hw⟩
-- X9_spared
set_option maxRecDepth 100000 in
set_option maxHeartbeats 4000000 in
theorem rX9_spared_67 {g : Nat → Nat} {K37 K37' : Option Nat → Int32 → Int32 → Int32 → Pool → Prop} {post post' : Int32 → Pool → Prop} (hp : ∀ v S M, CR g S M → post' v M → post v S) (hK37 : ∀ (v0 : Option Nat) (v1 : Int32) (v3 : Int32) (v4 : Int32) (S M : Pool), CR g S M → K37' v0 v1 v3 v4 M → K37 (v0.map g) v1 v3 v4 S) : ∀ (v0 : Option Nat) (v1 : Int32) (v4 : Int32) (z0 : Int32) (z1 : Int32) (S M : Pool), CR g S M → wX9_spared_67 K37' post' v0 v1 v4 z0 z1 M → wX9_spared_67 K37 post (v0.map g) v1 v4 z0 z1 S := by
  intro v0 v1 v4 z0 z1 S M h hw
  unfold wX9_spared_67 at hw ⊢
  exact hK37 _ _ _ _ _ _ h hw
set_option maxRecDepth 100000 in
set_option maxHeartbeats 4000000 in
theorem rX9_spared_37 {g : Nat → Nat} {post post' : Int32 → Pool → Prop} (hp : ∀ v S M, CR g S M → post' v M → post v S) : ∀ (n : Nat) (v0 : Option Nat) (v1 : Int32) (v3 : Int32) (v4 : Int32) (S M : Pool), CR g S M → wX9_spared_37 post' n v0 v1 v3 v4 M → wX9_spared_37 post n (v0.map g) v1 v3 v4 S := by
  intro n
  induction n with
  | zero => intro v0 v1 v3 v4 S M h hw; exact False.elim hw
  | succ n ih =>
    intro v0 v1 v3 v4 S M h hw
    unfold wX9_spared_37 at hw ⊢
    refine cr_I h hw (fun a1 hw => ?_)
    refine ⟨fun c2 => ?_, fun c2 => ?_⟩
    · have hw := hw.1 c2
      exact hp _ _ _ h hw
    · have hw := hw.2 c2
      refine cr_R h hw (fun a3 hw => ?_)
      refine cr_aI h hw (fun a4 hw => ?_)
      refine cr_rc h hw (fun hw => ?_)
      refine rX9_isExempt (fun a5 S M h hw => ?_) _ _ _ _ _ h hw
      refine ⟨fun c6 => ?_, fun c6 => ?_⟩
      · have hw := hw.1 c6
        exact rX9_spared_67 hp ih _ _ _ _ _ _ _ h hw
      · have hw := hw.2 c6
        exact rX9_spared_67 hp ih _ _ _ _ _ _ _ h hw
set_option maxRecDepth 100000 in
set_option maxHeartbeats 4000000 in
theorem rX9_spared_14 {g : Nat → Nat} {post post' : Int32 → Pool → Prop} (hp : ∀ v S M, CR g S M → post' v M → post v S) : ∀ (v0 : Option Nat) (v1 : Int32) (v2 : Int32) (z0 : Int32) (z1 : Option Nat) (S M : Pool), CR g S M → wX9_spared_14 post' v0 v1 v2 z0 z1 M → wX9_spared_14 post (v0.map g) v1 v2 z0 (z1.map g) S := by
  intro v0 v1 v2 z0 z1 S M h hw
  unfold wX9_spared_14 at hw ⊢
  refine cr_pI h hw (fun S M h hw => ?_)
  refine cr_I h hw (fun a1 hw => ?_)
  refine ⟨fun c2 => ?_, fun c2 => ?_⟩
  · have hw := hw.1 c2
    refine cr_rc h hw (fun hw => ?_)
    refine rX9_work (fun S M h hw => ?_) _ _ _ _ _ h hw
    obtain ⟨n1, hw⟩ := hw
    exact ⟨n1, rX9_spared_37 hp n1 _ _ _ _ _ _ h hw⟩
  · have hw := hw.2 c2
    exact hp _ _ _ h hw
set_option maxRecDepth 100000 in
set_option maxHeartbeats 4000000 in
theorem rX9_spared {g : Nat → Nat} {post post' : Int32 → Pool → Prop} (hp : ∀ v S M, CR g S M → post' v M → post v S) : ∀ (v0 : Option Nat) (v1 : Int32) (v2 : Int32) (S M : Pool), CR g S M → wX9_spared post' v0 v1 v2 M → wX9_spared post (v0.map g) v1 v2 S := by
  intro v0 v1 v2 S M h hw
  unfold wX9_spared at hw ⊢
  refine cr_rc h hw (fun hw => ?_)
  refine rX9_isQuestion (fun a1 S M h hw => ?_) _ _ _ _ h hw
  refine ⟨fun c2 => ?_, fun c2 => ?_⟩
  · have hw := hw.1 c2
    exact rX9_spared_14 hp _ _ _ _ _ _ _ h hw
  · have hw := hw.2 c2
    exact rX9_spared_14 hp _ _ _ _ _ _ _ h hw
-- X9_gap
set_option maxRecDepth 100000 in
set_option maxHeartbeats 4000000 in
theorem rX9_gap_16 {g : Nat → Nat} {post post' : Pool → Prop} (hp : ∀ S M, CR g S M → post' M → post S) : ∀ (v0 : Option Nat) (v1 : Int32) (z0 : Int32) (z1 : Option Nat) (S M : Pool), CR g S M → wX9_gap_16 post' v0 v1 z0 z1 M → wX9_gap_16 post (v0.map g) v1 z0 (z1.map g) S := by
  intro v0 v1 z0 z1 S M h hw
  unfold wX9_gap_16 at hw ⊢
  refine cr_pI h hw (fun S M h hw => ?_)
  refine cr_I h hw (fun a1 hw => ?_)
  refine ⟨fun c2 => ?_, fun c2 => ?_⟩
  · have hw := hw.1 c2
    refine cr_pI h hw (fun S M h hw => ?_)
    exact hp _ _ h hw
  · have hw := hw.2 c2
    exact hp _ _ h hw
set_option maxRecDepth 100000 in
set_option maxHeartbeats 4000000 in
theorem rX9_gap {g : Nat → Nat} {post post' : Pool → Prop} (hp : ∀ S M, CR g S M → post' M → post S) : ∀ (v0 : Option Nat) (v1 : Int32) (S M : Pool), CR g S M → wX9_gap post' v0 v1 M → wX9_gap post (v0.map g) v1 S := by
  intro v0 v1 S M h hw
  unfold wX9_gap at hw ⊢
  refine rX9_isIn (fun a1 S M h hw => ?_) _ _ _ _ _ h hw
  refine ⟨fun c2 => ?_, fun c2 => ?_⟩
  · have hw := hw.1 c2
    exact rX9_gap_16 hp _ _ _ _ _ _ h hw
  · have hw := hw.2 c2
    exact rX9_gap_16 hp _ _ _ _ _ _ h hw
-- X9_meet
set_option maxRecDepth 100000 in
set_option maxHeartbeats 4000000 in
theorem rX9_meet_95 {g : Nat → Nat} {post post' : Int32 → Pool → Prop} (hp : ∀ v S M, CR g S M → post' v M → post v S) : ∀ (S M : Pool), CR g S M → wX9_meet_95 post' M → wX9_meet_95 post S := by
  intro S M h hw
  unfold wX9_meet_95 at hw ⊢
  exact ⟨hw.1, hp _ _ _ h hw.2⟩
set_option maxRecDepth 100000 in
set_option maxHeartbeats 4000000 in
theorem rX9_meet_44 {g : Nat → Nat} {post post' : Int32 → Pool → Prop} (hp : ∀ v S M, CR g S M → post' v M → post v S) : ∀ (v0 : Option Nat) (v1 : Int32) (v2 : Int32) (z0 : Int32) (S M : Pool), CR g S M → wX9_meet_44 post' v0 v1 v2 z0 M → wX9_meet_44 post (v0.map g) v1 v2 z0 S := by
  intro v0 v1 v2 z0 S M h hw
  unfold wX9_meet_44 at hw ⊢
  refine cr_I h hw (fun a1 hw => ?_)
  refine ⟨fun c2 => ?_, fun c2 => ?_⟩
  · have hw := hw.1 c2
    exact ⟨hw.1, hp _ _ _ h hw.2⟩
  · have hw := hw.2 c2
    refine cr_R h hw (fun a3 hw => ?_)
    refine cr_aI h hw (fun a4 hw => ?_)
    refine cr_R h hw (fun a5 hw => ?_)
    refine cr_aI h hw (fun a6 hw => ?_)
    refine ⟨fun c7 => ?_, fun c7 => ?_⟩
    · have hw := hw.1 c7
      exact rX9_meet_95 hp _ _ h hw
    · have hw := hw.2 c7
      refine cr_R h hw (fun a8 hw => ?_)
      refine cr_aI h hw (fun a9 hw => ?_)
      refine cr_R h hw (fun a10 hw => ?_)
      refine cr_aI h hw (fun a11 hw => ?_)
      refine ⟨fun c12 => ?_, fun c12 => ?_⟩
      · have hw := hw.1 c12
        exact rX9_meet_95 hp _ _ h hw
      · have hw := hw.2 c12
        exact ⟨hw.1, hp _ _ _ h hw.2⟩
set_option maxRecDepth 100000 in
set_option maxHeartbeats 4000000 in
theorem rX9_meet {g : Nat → Nat} {post post' : Int32 → Pool → Prop} (hp : ∀ v S M, CR g S M → post' v M → post v S) : ∀ (v0 : Option Nat) (v1 : Int32) (v2 : Int32) (S M : Pool), CR g S M → wX9_meet post' v0 v1 v2 M → wX9_meet post (v0.map g) v1 v2 S := by
  intro v0 v1 v2 S M h hw
  unfold wX9_meet at hw ⊢
  refine cr_R h hw (fun a1 hw => ?_)
  refine cr_aI h hw (fun a2 hw => ?_)
  refine cr_R h hw (fun a3 hw => ?_)
  refine cr_aI h hw (fun a4 hw => ?_)
  refine ⟨fun c5 => ?_, fun c5 => ?_⟩
  · have hw := hw.1 c5
    refine cr_R h hw (fun a6 hw => ?_)
    refine cr_aI h hw (fun a7 hw => ?_)
    refine cr_R h hw (fun a8 hw => ?_)
    refine cr_aI h hw (fun a9 hw => ?_)
    exact rX9_meet_44 hp _ _ _ _ _ _ h hw
  · have hw := hw.2 c5
    refine cr_R h hw (fun a10 hw => ?_)
    refine cr_aI h hw (fun a11 hw => ?_)
    refine cr_R h hw (fun a12 hw => ?_)
    refine cr_aI h hw (fun a13 hw => ?_)
    exact rX9_meet_44 hp _ _ _ _ _ _ h hw
-- X9_gather
set_option maxRecDepth 100000 in
set_option maxHeartbeats 4000000 in
theorem rX9_gather_206 {g : Nat → Nat} {K113 K113' : Option Nat → Int32 → Pool → Prop} {K123 K123' : Option Nat → Int32 → Int32 → Pool → Prop} {post post' : Pool → Prop} (hp : ∀ S M, CR g S M → post' M → post S) (hK113 : ∀ (v0 : Option Nat) (v1 : Int32) (S M : Pool), CR g S M → K113' v0 v1 M → K113 (v0.map g) v1 S) (hK123 : ∀ (v0 : Option Nat) (v1 : Int32) (v2 : Int32) (S M : Pool), CR g S M → K123' v0 v1 v2 M → K123 (v0.map g) v1 v2 S) : ∀ (v0 : Option Nat) (v1 : Int32) (v2 : Int32) (S M : Pool), CR g S M → wX9_gather_206 K113' K123' post' v0 v1 v2 M → wX9_gather_206 K113 K123 post (v0.map g) v1 v2 S := by
  intro v0 v1 v2 S M h hw
  unfold wX9_gather_206 at hw ⊢
  exact hK123 _ _ _ _ _ h hw
set_option maxRecDepth 100000 in
set_option maxHeartbeats 4000000 in
theorem rX9_gather_200 {g : Nat → Nat} {K113 K113' : Option Nat → Int32 → Pool → Prop} {K123 K123' : Option Nat → Int32 → Int32 → Pool → Prop} {K174 K174' : Option Nat → Int32 → Int32 → Int32 → Int32 → Int32 → Pool → Prop} {post post' : Pool → Prop} (hp : ∀ S M, CR g S M → post' M → post S) (hK113 : ∀ (v0 : Option Nat) (v1 : Int32) (S M : Pool), CR g S M → K113' v0 v1 M → K113 (v0.map g) v1 S) (hK123 : ∀ (v0 : Option Nat) (v1 : Int32) (v2 : Int32) (S M : Pool), CR g S M → K123' v0 v1 v2 M → K123 (v0.map g) v1 v2 S) (hK174 : ∀ (v0 : Option Nat) (v1 : Int32) (v2 : Int32) (v3 : Int32) (v4 : Int32) (v5 : Int32) (S M : Pool), CR g S M → K174' v0 v1 v2 v3 v4 v5 M → K174 (v0.map g) v1 v2 v3 v4 v5 S) : ∀ (v0 : Option Nat) (v1 : Int32) (v2 : Int32) (v3 : Int32) (v4 : Int32) (v5 : Int32) (S M : Pool), CR g S M → wX9_gather_200 K113' K123' K174' post' v0 v1 v2 v3 v4 v5 M → wX9_gather_200 K113 K123 K174 post (v0.map g) v1 v2 v3 v4 v5 S := by
  intro v0 v1 v2 v3 v4 v5 S M h hw
  unfold wX9_gather_200 at hw ⊢
  exact hK174 _ _ _ _ _ _ _ _ h hw
set_option maxRecDepth 100000 in
set_option maxHeartbeats 4000000 in
theorem rX9_gather_174 {g : Nat → Nat} {K113 K113' : Option Nat → Int32 → Pool → Prop} {K123 K123' : Option Nat → Int32 → Int32 → Pool → Prop} {post post' : Pool → Prop} (hp : ∀ S M, CR g S M → post' M → post S) (hK113 : ∀ (v0 : Option Nat) (v1 : Int32) (S M : Pool), CR g S M → K113' v0 v1 M → K113 (v0.map g) v1 S) (hK123 : ∀ (v0 : Option Nat) (v1 : Int32) (v2 : Int32) (S M : Pool), CR g S M → K123' v0 v1 v2 M → K123 (v0.map g) v1 v2 S) : ∀ (n : Nat) (v0 : Option Nat) (v1 : Int32) (v2 : Int32) (v3 : Int32) (v4 : Int32) (v5 : Int32) (S M : Pool), CR g S M → wX9_gather_174 K113' K123' post' n v0 v1 v2 v3 v4 v5 M → wX9_gather_174 K113 K123 post n (v0.map g) v1 v2 v3 v4 v5 S := by
  intro n
  induction n with
  | zero => intro v0 v1 v2 v3 v4 v5 S M h hw; exact False.elim hw
  | succ n ih =>
    intro v0 v1 v2 v3 v4 v5 S M h hw
    unfold wX9_gather_174 at hw ⊢
    refine ⟨fun c1 => ?_, fun c1 => ?_⟩
    · have hw := hw.1 c1
      exact rX9_gather_206 hp hK113 hK123 _ _ _ _ _ h hw
    · have hw := hw.2 c1
      refine cr_R h hw (fun a2 hw => ?_)
      refine cr_aI h hw (fun a3 hw => ?_)
      refine ⟨fun c4 => ?_, fun c4 => ?_⟩
      · have hw := hw.1 c4
        refine cr_R h hw (fun a5 hw => ?_)
        refine cr_sI h hw (fun S M h hw => ?_)
        exact rX9_gather_200 hp hK113 hK123 ih _ _ _ _ _ _ _ _ h hw
      · have hw := hw.2 c4
        exact rX9_gather_200 hp hK113 hK123 ih _ _ _ _ _ _ _ _ h hw
set_option maxRecDepth 100000 in
set_option maxHeartbeats 4000000 in
theorem rX9_gather_123 {g : Nat → Nat} {K113 K113' : Option Nat → Int32 → Pool → Prop} {post post' : Pool → Prop} (hp : ∀ S M, CR g S M → post' M → post S) (hK113 : ∀ (v0 : Option Nat) (v1 : Int32) (S M : Pool), CR g S M → K113' v0 v1 M → K113 (v0.map g) v1 S) : ∀ (n : Nat) (v0 : Option Nat) (v1 : Int32) (v2 : Int32) (S M : Pool), CR g S M → wX9_gather_123 K113' post' n v0 v1 v2 M → wX9_gather_123 K113 post n (v0.map g) v1 v2 S := by
  intro n
  induction n with
  | zero => intro v0 v1 v2 S M h hw; exact False.elim hw
  | succ n ih =>
    intro v0 v1 v2 S M h hw
    unfold wX9_gather_123 at hw ⊢
    refine ⟨fun c1 => ?_, fun c1 => ?_⟩
    · have hw := hw.1 c1
      exact hK113 _ _ _ _ h hw
    · have hw := hw.2 c1
      refine cr_R h hw (fun a2 hw => ?_)
      refine cr_aI h hw (fun a3 hw => ?_)
      refine cr_R h hw (fun a4 hw => ?_)
      refine cr_aI h hw (fun a5 hw => ?_)
      refine ⟨fun c6 => ?_, fun c6 => ?_⟩
      · have hw := hw.1 c6
        exact rX9_gather_206 hp hK113 ih _ _ _ _ _ h hw
      · have hw := hw.2 c6
        refine cr_R h hw (fun a7 hw => ?_)
        refine cr_aI h hw (fun a8 hw => ?_)
        refine cr_R h hw (fun a9 hw => ?_)
        refine cr_aI h hw (fun a10 hw => ?_)
        refine cr_rc h hw (fun hw => ?_)
        refine rX9_meet (fun a11 S M h hw => ?_) _ _ _ _ _ h hw
        refine ⟨fun c12 => ?_, fun c12 => ?_⟩
        · have hw := hw.1 c12
          exact rX9_gather_206 hp hK113 ih _ _ _ _ _ h hw
        · have hw := hw.2 c12
          obtain ⟨n1, hw⟩ := hw
          exact ⟨n1, rX9_gather_174 hp hK113 ih n1 _ _ _ _ _ _ _ _ h hw⟩
set_option maxRecDepth 100000 in
set_option maxHeartbeats 4000000 in
theorem rX9_gather_113 {g : Nat → Nat} {post post' : Pool → Prop} (hp : ∀ S M, CR g S M → post' M → post S) : ∀ (n : Nat) (v0 : Option Nat) (v1 : Int32) (S M : Pool), CR g S M → wX9_gather_113 post' n v0 v1 M → wX9_gather_113 post n (v0.map g) v1 S := by
  intro n
  induction n with
  | zero => intro v0 v1 S M h hw; exact False.elim hw
  | succ n ih =>
    intro v0 v1 S M h hw
    unfold wX9_gather_113 at hw ⊢
    refine cr_I h hw (fun a1 hw => ?_)
    refine ⟨fun c2 => ?_, fun c2 => ?_⟩
    · have hw := hw.1 c2
      exact hp _ _ h hw
    · have hw := hw.2 c2
      obtain ⟨n1, hw⟩ := hw
      exact ⟨n1, rX9_gather_123 hp ih n1 _ _ _ _ _ h hw⟩
set_option maxRecDepth 100000 in
set_option maxHeartbeats 4000000 in
theorem rX9_gather_99 {g : Nat → Nat} {K7 K7' : Option Nat → Int32 → Pool → Prop} {K26 K26' : Option Nat → Int32 → Int32 → Pool → Prop} {post post' : Pool → Prop} (hp : ∀ S M, CR g S M → post' M → post S) (hK7 : ∀ (v0 : Option Nat) (v1 : Int32) (S M : Pool), CR g S M → K7' v0 v1 M → K7 (v0.map g) v1 S) (hK26 : ∀ (v0 : Option Nat) (v1 : Int32) (v2 : Int32) (S M : Pool), CR g S M → K26' v0 v1 v2 M → K26 (v0.map g) v1 v2 S) : ∀ (v0 : Option Nat) (v1 : Int32) (v2 : Int32) (S M : Pool), CR g S M → wX9_gather_99 K7' K26' post' v0 v1 v2 M → wX9_gather_99 K7 K26 post (v0.map g) v1 v2 S := by
  intro v0 v1 v2 S M h hw
  unfold wX9_gather_99 at hw ⊢
  exact hK26 _ _ _ _ _ h hw
set_option maxRecDepth 100000 in
set_option maxHeartbeats 4000000 in
theorem rX9_gather_26 {g : Nat → Nat} {K7 K7' : Option Nat → Int32 → Pool → Prop} {post post' : Pool → Prop} (hp : ∀ S M, CR g S M → post' M → post S) (hK7 : ∀ (v0 : Option Nat) (v1 : Int32) (S M : Pool), CR g S M → K7' v0 v1 M → K7 (v0.map g) v1 S) : ∀ (n : Nat) (v0 : Option Nat) (v1 : Int32) (v2 : Int32) (S M : Pool), CR g S M → wX9_gather_26 K7' post' n v0 v1 v2 M → wX9_gather_26 K7 post n (v0.map g) v1 v2 S := by
  intro n
  induction n with
  | zero => intro v0 v1 v2 S M h hw; exact False.elim hw
  | succ n ih =>
    intro v0 v1 v2 S M h hw
    unfold wX9_gather_26 at hw ⊢
    refine cr_I h hw (fun a1 hw => ?_)
    refine ⟨fun c2 => ?_, fun c2 => ?_⟩
    · have hw := hw.1 c2
      exact hK7 _ _ _ _ h hw
    · have hw := hw.2 c2
      refine cr_R h hw (fun a3 hw => ?_)
      refine cr_aI h hw (fun a4 hw => ?_)
      refine cr_rc h hw (fun hw => ?_)
      refine rX9_isExempt (fun a5 S M h hw => ?_) _ _ _ _ _ h hw
      refine ⟨fun c6 => ?_, fun c6 => ?_⟩
      · have hw := hw.1 c6
        refine cr_R h hw (fun a7 hw => ?_)
        refine cr_I h hw (fun a8 hw => ?_)
        refine cr_sI h hw (fun S M h hw => ?_)
        refine cr_R h hw (fun a9 hw => ?_)
        refine cr_I h hw (fun a10 hw => ?_)
        refine cr_R h hw (fun a11 hw => ?_)
        refine cr_aI h hw (fun a12 hw => ?_)
        refine cr_sI h hw (fun S M h hw => ?_)
        refine cr_R h hw (fun a13 hw => ?_)
        refine cr_I h hw (fun a14 hw => ?_)
        refine cr_I h hw (fun a15 hw => ?_)
        refine cr_sI h hw (fun S M h hw => ?_)
        refine cr_I h hw (fun a16 hw => ?_)
        refine cr_pI h hw (fun S M h hw => ?_)
        exact rX9_gather_99 hp hK7 ih _ _ _ _ _ h hw
      · have hw := hw.2 c6
        exact rX9_gather_99 hp hK7 ih _ _ _ _ _ h hw
set_option maxRecDepth 100000 in
set_option maxHeartbeats 4000000 in
theorem rX9_gather_7 {g : Nat → Nat} {post post' : Pool → Prop} (hp : ∀ S M, CR g S M → post' M → post S) : ∀ (n : Nat) (v0 : Option Nat) (v1 : Int32) (S M : Pool), CR g S M → wX9_gather_7 post' n v0 v1 M → wX9_gather_7 post n (v0.map g) v1 S := by
  intro n
  induction n with
  | zero => intro v0 v1 S M h hw; exact False.elim hw
  | succ n ih =>
    intro v0 v1 S M h hw
    unfold wX9_gather_7 at hw ⊢
    refine cr_I h hw (fun a1 hw => ?_)
    refine ⟨fun c2 => ?_, fun c2 => ?_⟩
    · have hw := hw.1 c2
      obtain ⟨n1, hw⟩ := hw
      exact ⟨n1, rX9_gather_113 hp n1 _ _ _ _ h hw⟩
    · have hw := hw.2 c2
      refine cr_I h hw (fun a3 hw => ?_)
      refine cr_rc h hw (fun hw => ?_)
      refine rX9_work (fun S M h hw => ?_) _ _ _ _ _ h hw
      obtain ⟨n1, hw⟩ := hw
      exact ⟨n1, rX9_gather_26 hp ih n1 _ _ _ _ _ h hw⟩
set_option maxRecDepth 100000 in
set_option maxHeartbeats 4000000 in
theorem rX9_gather {g : Nat → Nat} {post post' : Pool → Prop} (hp : ∀ S M, CR g S M → post' M → post S) : ∀ (v0 : Option Nat) (S M : Pool), CR g S M → wX9_gather post' v0 M → wX9_gather post (v0.map g) S := by
  intro v0 S M h hw
  unfold wX9_gather at hw ⊢
  refine cr_pI h hw (fun S M h hw => ?_)
  obtain ⟨n1, hw⟩ := hw
  exact ⟨n1, rX9_gather_7 hp n1 _ _ _ _ h hw⟩
-- X9_cases
set_option maxRecDepth 100000 in
set_option maxHeartbeats 4000000 in
theorem rX9_cases_74 {g : Nat → Nat} {K13 K13' : Option Nat → Int32 → Int32 → Pool → Prop} {post post' : Int32 → Pool → Prop} (hp : ∀ v S M, CR g S M → post' v M → post v S) (hK13 : ∀ (v0 : Option Nat) (v1 : Int32) (v2 : Int32) (S M : Pool), CR g S M → K13' v0 v1 v2 M → K13 (v0.map g) v1 v2 S) : ∀ (v0 : Option Nat) (v2 : Int32) (z0 : Int32) (z1 : Int32) (S M : Pool), CR g S M → wX9_cases_74 K13' post' v0 v2 z0 z1 M → wX9_cases_74 K13 post (v0.map g) v2 z0 z1 S := by
  intro v0 v2 z0 z1 S M h hw
  unfold wX9_cases_74 at hw ⊢
  exact hK13 _ _ _ _ _ h hw
set_option maxRecDepth 100000 in
set_option maxHeartbeats 4000000 in
theorem rX9_cases_57 {g : Nat → Nat} {K13 K13' : Option Nat → Int32 → Int32 → Pool → Prop} {K26 K26' : Option Nat → Int32 → Int32 → Int32 → Int32 → Pool → Prop} {post post' : Int32 → Pool → Prop} (hp : ∀ v S M, CR g S M → post' v M → post v S) (hK13 : ∀ (v0 : Option Nat) (v1 : Int32) (v2 : Int32) (S M : Pool), CR g S M → K13' v0 v1 v2 M → K13 (v0.map g) v1 v2 S) (hK26 : ∀ (v0 : Option Nat) (v1 : Int32) (v2 : Int32) (v3 : Int32) (v4 : Int32) (S M : Pool), CR g S M → K26' v0 v1 v2 v3 v4 M → K26 (v0.map g) v1 v2 v3 v4 S) : ∀ (v0 : Option Nat) (v1 : Int32) (v2 : Int32) (v4 : Int32) (z0 : Int32) (S M : Pool), CR g S M → wX9_cases_57 K13' K26' post' v0 v1 v2 v4 z0 M → wX9_cases_57 K13 K26 post (v0.map g) v1 v2 v4 z0 S := by
  intro v0 v1 v2 v4 z0 S M h hw
  unfold wX9_cases_57 at hw ⊢
  exact hK26 _ _ _ _ _ _ _ h hw
set_option maxRecDepth 100000 in
set_option maxHeartbeats 4000000 in
theorem rX9_cases_56 {g : Nat → Nat} {K13 K13' : Option Nat → Int32 → Int32 → Pool → Prop} {K26 K26' : Option Nat → Int32 → Int32 → Int32 → Int32 → Pool → Prop} {post post' : Int32 → Pool → Prop} (hp : ∀ v S M, CR g S M → post' v M → post v S) (hK13 : ∀ (v0 : Option Nat) (v1 : Int32) (v2 : Int32) (S M : Pool), CR g S M → K13' v0 v1 v2 M → K13 (v0.map g) v1 v2 S) (hK26 : ∀ (v0 : Option Nat) (v1 : Int32) (v2 : Int32) (v3 : Int32) (v4 : Int32) (S M : Pool), CR g S M → K26' v0 v1 v2 v3 v4 M → K26 (v0.map g) v1 v2 v3 v4 S) : ∀ (v0 : Option Nat) (v1 : Int32) (v2 : Int32) (v4 : Int32) (S M : Pool), CR g S M → wX9_cases_56 K13' K26' post' v0 v1 v2 v4 M → wX9_cases_56 K13 K26 post (v0.map g) v1 v2 v4 S := by
  intro v0 v1 v2 v4 S M h hw
  unfold wX9_cases_56 at hw ⊢
  exact rX9_cases_57 hp hK13 hK26 _ _ _ _ _ _ _ h hw
set_option maxRecDepth 100000 in
set_option maxHeartbeats 4000000 in
theorem rX9_cases_26 {g : Nat → Nat} {K13 K13' : Option Nat → Int32 → Int32 → Pool → Prop} {post post' : Int32 → Pool → Prop} (hp : ∀ v S M, CR g S M → post' v M → post v S) (hK13 : ∀ (v0 : Option Nat) (v1 : Int32) (v2 : Int32) (S M : Pool), CR g S M → K13' v0 v1 v2 M → K13 (v0.map g) v1 v2 S) : ∀ (n : Nat) (v0 : Option Nat) (v1 : Int32) (v2 : Int32) (v3 : Int32) (v4 : Int32) (S M : Pool), CR g S M → wX9_cases_26 K13' post' n v0 v1 v2 v3 v4 M → wX9_cases_26 K13 post n (v0.map g) v1 v2 v3 v4 S := by
  intro n
  induction n with
  | zero => intro v0 v1 v2 v3 v4 S M h hw; exact False.elim hw
  | succ n ih =>
    intro v0 v1 v2 v3 v4 S M h hw
    unfold wX9_cases_26 at hw ⊢
    refine ⟨fun c1 => ?_, fun c1 => ?_⟩
    · have hw := hw.1 c1
      refine ⟨fun c2 => ?_, fun c2 => ?_⟩
      · have hw := hw.1 c2
        exact rX9_cases_74 hp hK13 _ _ _ _ _ _ h hw
      · have hw := hw.2 c2
        exact rX9_cases_74 hp hK13 _ _ _ _ _ _ h hw
    · have hw := hw.2 c1
      refine ⟨fun c3 => ?_, fun c3 => ?_⟩
      · have hw := hw.1 c3
        exact rX9_cases_56 hp hK13 ih _ _ _ _ _ _ h hw
      · have hw := hw.2 c3
        refine cr_R h hw (fun a4 hw => ?_)
        refine cr_aI h hw (fun a5 hw => ?_)
        refine cr_R h hw (fun a6 hw => ?_)
        refine cr_aI h hw (fun a7 hw => ?_)
        refine ⟨fun c8 => ?_, fun c8 => ?_⟩
        · have hw := hw.1 c8
          exact rX9_cases_56 hp hK13 ih _ _ _ _ _ _ h hw
        · have hw := hw.2 c8
          exact rX9_cases_57 hp hK13 ih _ _ _ _ _ _ _ h hw
set_option maxRecDepth 100000 in
set_option maxHeartbeats 4000000 in
theorem rX9_cases_13 {g : Nat → Nat} {post post' : Int32 → Pool → Prop} (hp : ∀ v S M, CR g S M → post' v M → post v S) : ∀ (n : Nat) (v0 : Option Nat) (v1 : Int32) (v2 : Int32) (S M : Pool), CR g S M → wX9_cases_13 post' n v0 v1 v2 M → wX9_cases_13 post n (v0.map g) v1 v2 S := by
  intro n
  induction n with
  | zero => intro v0 v1 v2 S M h hw; exact False.elim hw
  | succ n ih =>
    intro v0 v1 v2 S M h hw
    unfold wX9_cases_13 at hw ⊢
    refine cr_I h hw (fun a1 hw => ?_)
    refine ⟨fun c2 => ?_, fun c2 => ?_⟩
    · have hw := hw.1 c2
      exact hp _ _ _ h hw
    · have hw := hw.2 c2
      obtain ⟨n1, hw⟩ := hw
      exact ⟨n1, rX9_cases_26 hp ih n1 _ _ _ _ _ _ _ h hw⟩
set_option maxRecDepth 100000 in
set_option maxHeartbeats 4000000 in
theorem rX9_cases {g : Nat → Nat} {post post' : Int32 → Pool → Prop} (hp : ∀ v S M, CR g S M → post' v M → post v S) : ∀ (v0 : Option Nat) (S M : Pool), CR g S M → wX9_cases post' v0 M → wX9_cases post (v0.map g) S := by
  intro v0 S M h hw
  unfold wX9_cases at hw ⊢
  refine cr_pI h hw (fun S M h hw => ?_)
  refine cr_rc h hw (fun hw => ?_)
  refine rX9_gather (fun S M h hw => ?_) _ _ _ h hw
  obtain ⟨n1, hw⟩ := hw
  exact ⟨n1, rX9_cases_13 hp n1 _ _ _ _ _ h hw⟩
-- X9_joined
set_option maxRecDepth 100000 in
set_option maxHeartbeats 4000000 in
theorem rX9_joined_120 {g : Nat → Nat} {K43 K43' : Option Nat → Int32 → Int32 → Int32 → Int32 → Pool → Prop} {post post' : Int32 → Pool → Prop} (hp : ∀ v S M, CR g S M → post' v M → post v S) (hK43 : ∀ (v0 : Option Nat) (v1 : Int32) (v2 : Int32) (v3 : Int32) (v4 : Int32) (S M : Pool), CR g S M → K43' v0 v1 v2 v3 v4 M → K43 (v0.map g) v1 v2 v3 v4 S) : ∀ (v0 : Option Nat) (v1 : Int32) (v2 : Int32) (v3 : Int32) (v4 : Int32) (S M : Pool), CR g S M → wX9_joined_120 K43' post' v0 v1 v2 v3 v4 M → wX9_joined_120 K43 post (v0.map g) v1 v2 v3 v4 S := by
  intro v0 v1 v2 v3 v4 S M h hw
  unfold wX9_joined_120 at hw ⊢
  exact hK43 _ _ _ _ _ _ _ h hw
set_option maxRecDepth 100000 in
set_option maxHeartbeats 4000000 in
theorem rX9_joined_112 {g : Nat → Nat} {K43 K43' : Option Nat → Int32 → Int32 → Int32 → Int32 → Pool → Prop} {K80 K80' : Option Nat → Int32 → Int32 → Int32 → Int32 → Int32 → Pool → Prop} {post post' : Int32 → Pool → Prop} (hp : ∀ v S M, CR g S M → post' v M → post v S) (hK43 : ∀ (v0 : Option Nat) (v1 : Int32) (v2 : Int32) (v3 : Int32) (v4 : Int32) (S M : Pool), CR g S M → K43' v0 v1 v2 v3 v4 M → K43 (v0.map g) v1 v2 v3 v4 S) (hK80 : ∀ (v0 : Option Nat) (v1 : Int32) (v2 : Int32) (v3 : Int32) (v4 : Int32) (v5 : Int32) (S M : Pool), CR g S M → K80' v0 v1 v2 v3 v4 v5 M → K80 (v0.map g) v1 v2 v3 v4 v5 S) : ∀ (v0 : Option Nat) (v1 : Int32) (v2 : Int32) (v4 : Int32) (v5 : Int32) (z0 : Int32) (z1 : Int32) (S M : Pool), CR g S M → wX9_joined_112 K43' K80' post' v0 v1 v2 v4 v5 z0 z1 M → wX9_joined_112 K43 K80 post (v0.map g) v1 v2 v4 v5 z0 z1 S := by
  intro v0 v1 v2 v4 v5 z0 z1 S M h hw
  unfold wX9_joined_112 at hw ⊢
  exact hK80 _ _ _ _ _ _ _ _ h hw
set_option maxRecDepth 100000 in
set_option maxHeartbeats 4000000 in
theorem rX9_joined_80 {g : Nat → Nat} {K43 K43' : Option Nat → Int32 → Int32 → Int32 → Int32 → Pool → Prop} {post post' : Int32 → Pool → Prop} (hp : ∀ v S M, CR g S M → post' v M → post v S) (hK43 : ∀ (v0 : Option Nat) (v1 : Int32) (v2 : Int32) (v3 : Int32) (v4 : Int32) (S M : Pool), CR g S M → K43' v0 v1 v2 v3 v4 M → K43 (v0.map g) v1 v2 v3 v4 S) : ∀ (n : Nat) (v0 : Option Nat) (v1 : Int32) (v2 : Int32) (v3 : Int32) (v4 : Int32) (v5 : Int32) (S M : Pool), CR g S M → wX9_joined_80 K43' post' n v0 v1 v2 v3 v4 v5 M → wX9_joined_80 K43 post n (v0.map g) v1 v2 v3 v4 v5 S := by
  intro n
  induction n with
  | zero => intro v0 v1 v2 v3 v4 v5 S M h hw; exact False.elim hw
  | succ n ih =>
    intro v0 v1 v2 v3 v4 v5 S M h hw
    unfold wX9_joined_80 at hw ⊢
    refine cr_I h hw (fun a1 hw => ?_)
    refine ⟨fun c2 => ?_, fun c2 => ?_⟩
    · have hw := hw.1 c2
      exact rX9_joined_120 hp hK43 _ _ _ _ _ _ _ h hw
    · have hw := hw.2 c2
      refine cr_R h hw (fun a3 hw => ?_)
      refine cr_aI h hw (fun a4 hw => ?_)
      refine cr_R h hw (fun a5 hw => ?_)
      refine cr_aI h hw (fun a6 hw => ?_)
      refine ⟨fun c7 => ?_, fun c7 => ?_⟩
      · have hw := hw.1 c7
        exact rX9_joined_112 hp hK43 ih _ _ _ _ _ _ _ _ _ h hw
      · have hw := hw.2 c7
        exact rX9_joined_112 hp hK43 ih _ _ _ _ _ _ _ _ _ h hw
set_option maxRecDepth 100000 in
set_option maxHeartbeats 4000000 in
theorem rX9_joined_43 {g : Nat → Nat} {post post' : Int32 → Pool → Prop} (hp : ∀ v S M, CR g S M → post' v M → post v S) : ∀ (n : Nat) (v0 : Option Nat) (v1 : Int32) (v2 : Int32) (v3 : Int32) (v4 : Int32) (S M : Pool), CR g S M → wX9_joined_43 post' n v0 v1 v2 v3 v4 M → wX9_joined_43 post n (v0.map g) v1 v2 v3 v4 S := by
  intro n
  induction n with
  | zero => intro v0 v1 v2 v3 v4 S M h hw; exact False.elim hw
  | succ n ih =>
    intro v0 v1 v2 v3 v4 S M h hw
    unfold wX9_joined_43 at hw ⊢
    refine cr_I h hw (fun a1 hw => ?_)
    refine ⟨fun c2 => ?_, fun c2 => ?_⟩
    · have hw := hw.1 c2
      exact hp _ _ _ h hw
    · have hw := hw.2 c2
      refine cr_R h hw (fun a3 hw => ?_)
      refine cr_aI h hw (fun a4 hw => ?_)
      refine ⟨fun c5 => ?_, fun c5 => ?_⟩
      · have hw := hw.1 c5
        refine cr_R h hw (fun a6 hw => ?_)
        refine cr_aI h hw (fun a7 hw => ?_)
        refine ⟨fun c8 => ?_, fun c8 => ?_⟩
        · have hw := hw.1 c8
          obtain ⟨n1, hw⟩ := hw
          exact ⟨n1, rX9_joined_80 hp ih n1 _ _ _ _ _ _ _ _ h hw⟩
        · have hw := hw.2 c8
          exact rX9_joined_120 hp ih _ _ _ _ _ _ _ h hw
      · have hw := hw.2 c5
        exact rX9_joined_120 hp ih _ _ _ _ _ _ _ h hw
set_option maxRecDepth 100000 in
set_option maxHeartbeats 4000000 in
theorem rX9_joined_22 {g : Nat → Nat} {post post' : Int32 → Pool → Prop} (hp : ∀ v S M, CR g S M → post' v M → post v S) : ∀ (v0 : Option Nat) (v1 : Int32) (v2 : Int32) (z0 : Int32) (z1 : Option Nat) (S M : Pool), CR g S M → wX9_joined_22 post' v0 v1 v2 z0 z1 M → wX9_joined_22 post (v0.map g) v1 v2 z0 (z1.map g) S := by
  intro v0 v1 v2 z0 z1 S M h hw
  unfold wX9_joined_22 at hw ⊢
  refine cr_pI h hw (fun S M h hw => ?_)
  refine cr_I h hw (fun a1 hw => ?_)
  refine ⟨fun c2 => ?_, fun c2 => ?_⟩
  · have hw := hw.1 c2
    refine cr_rc h hw (fun hw => ?_)
    refine rX9_gather (fun S M h hw => ?_) _ _ _ h hw
    obtain ⟨n1, hw⟩ := hw
    exact ⟨n1, rX9_joined_43 hp n1 _ _ _ _ _ _ _ h hw⟩
  · have hw := hw.2 c2
    exact hp _ _ _ h hw
set_option maxRecDepth 100000 in
set_option maxHeartbeats 4000000 in
theorem rX9_joined_17 {g : Nat → Nat} {post post' : Int32 → Pool → Prop} (hp : ∀ v S M, CR g S M → post' v M → post v S) : ∀ (v0 : Option Nat) (v1 : Int32) (v2 : Int32) (z0 : Option Nat) (S M : Pool), CR g S M → wX9_joined_17 post' v0 v1 v2 z0 M → wX9_joined_17 post (v0.map g) v1 v2 (z0.map g) S := by
  intro v0 v1 v2 z0 S M h hw
  unfold wX9_joined_17 at hw ⊢
  exact rX9_joined_22 hp _ _ _ _ _ _ _ h hw
set_option maxRecDepth 100000 in
set_option maxHeartbeats 4000000 in
theorem rX9_joined {g : Nat → Nat} {post post' : Int32 → Pool → Prop} (hp : ∀ v S M, CR g S M → post' v M → post v S) : ∀ (v0 : Option Nat) (v1 : Int32) (v2 : Int32) (S M : Pool), CR g S M → wX9_joined post' v0 v1 v2 M → wX9_joined post (v0.map g) v1 v2 S := by
  intro v0 v1 v2 S M h hw
  unfold wX9_joined at hw ⊢
  refine cr_rc h hw (fun hw => ?_)
  refine rX9_isQuestion (fun a1 S M h hw => ?_) _ _ _ _ h hw
  refine ⟨fun c2 => ?_, fun c2 => ?_⟩
  · have hw := hw.1 c2
    exact rX9_joined_17 hp _ _ _ _ _ _ h hw
  · have hw := hw.2 c2
    refine cr_rc h hw (fun hw => ?_)
    refine rX9_isAct (fun a3 S M h hw => ?_) _ _ _ _ h hw
    refine ⟨fun c4 => ?_, fun c4 => ?_⟩
    · have hw := hw.1 c4
      exact rX9_joined_17 hp _ _ _ _ _ _ h hw
    · have hw := hw.2 c4
      exact rX9_joined_22 hp _ _ _ _ _ _ _ h hw
-- X9_cost
set_option maxRecDepth 100000 in
set_option maxHeartbeats 4000000 in
theorem rX9_cost_118 {g : Nat → Nat} {K31 K31' : Option Nat → Int32 → Int32 → Int32 → Int32 → Pool → Prop} {post post' : Int32 → Pool → Prop} (hp : ∀ v S M, CR g S M → post' v M → post v S) (hK31 : ∀ (v0 : Option Nat) (v1 : Int32) (v2 : Int32) (v3 : Int32) (v4 : Int32) (S M : Pool), CR g S M → K31' v0 v1 v2 v3 v4 M → K31 (v0.map g) v1 v2 v3 v4 S) : ∀ (v0 : Option Nat) (v1 : Int32) (v2 : Int32) (v3 : Int32) (v4 : Int32) (S M : Pool), CR g S M → wX9_cost_118 K31' post' v0 v1 v2 v3 v4 M → wX9_cost_118 K31 post (v0.map g) v1 v2 v3 v4 S := by
  intro v0 v1 v2 v3 v4 S M h hw
  unfold wX9_cost_118 at hw ⊢
  exact hK31 _ _ _ _ _ _ _ h hw
set_option maxRecDepth 100000 in
set_option maxHeartbeats 4000000 in
theorem rX9_cost_115 {g : Nat → Nat} {K31 K31' : Option Nat → Int32 → Int32 → Int32 → Int32 → Pool → Prop} {post post' : Int32 → Pool → Prop} (hp : ∀ v S M, CR g S M → post' v M → post v S) (hK31 : ∀ (v0 : Option Nat) (v1 : Int32) (v2 : Int32) (v3 : Int32) (v4 : Int32) (S M : Pool), CR g S M → K31' v0 v1 v2 v3 v4 M → K31 (v0.map g) v1 v2 v3 v4 S) : ∀ (v0 : Option Nat) (v1 : Int32) (v2 : Int32) (v4 : Int32) (v5 : Int32) (S M : Pool), CR g S M → wX9_cost_115 K31' post' v0 v1 v2 v4 v5 M → wX9_cost_115 K31 post (v0.map g) v1 v2 v4 v5 S := by
  intro v0 v1 v2 v4 v5 S M h hw
  unfold wX9_cost_115 at hw ⊢
  exact rX9_cost_118 hp hK31 _ _ _ _ _ _ _ h hw
set_option maxRecDepth 100000 in
set_option maxHeartbeats 4000000 in
theorem rX9_cost_95 {g : Nat → Nat} {K31 K31' : Option Nat → Int32 → Int32 → Int32 → Int32 → Pool → Prop} {K66 K66' : Option Nat → Int32 → Int32 → Int32 → Int32 → Int32 → Int32 → Pool → Prop} {post post' : Int32 → Pool → Prop} (hp : ∀ v S M, CR g S M → post' v M → post v S) (hK31 : ∀ (v0 : Option Nat) (v1 : Int32) (v2 : Int32) (v3 : Int32) (v4 : Int32) (S M : Pool), CR g S M → K31' v0 v1 v2 v3 v4 M → K31 (v0.map g) v1 v2 v3 v4 S) (hK66 : ∀ (v0 : Option Nat) (v1 : Int32) (v2 : Int32) (v3 : Int32) (v4 : Int32) (v5 : Int32) (v6 : Int32) (S M : Pool), CR g S M → K66' v0 v1 v2 v3 v4 v5 v6 M → K66 (v0.map g) v1 v2 v3 v4 v5 v6 S) : ∀ (v0 : Option Nat) (v1 : Int32) (v2 : Int32) (v3 : Int32) (v4 : Int32) (v6 : Int32) (z0 : Int32) (z1 : Int32) (S M : Pool), CR g S M → wX9_cost_95 K31' K66' post' v0 v1 v2 v3 v4 v6 z0 z1 M → wX9_cost_95 K31 K66 post (v0.map g) v1 v2 v3 v4 v6 z0 z1 S := by
  intro v0 v1 v2 v3 v4 v6 z0 z1 S M h hw
  unfold wX9_cost_95 at hw ⊢
  exact hK66 _ _ _ _ _ _ _ _ _ h hw
set_option maxRecDepth 100000 in
set_option maxHeartbeats 4000000 in
theorem rX9_cost_66 {g : Nat → Nat} {K31 K31' : Option Nat → Int32 → Int32 → Int32 → Int32 → Pool → Prop} {post post' : Int32 → Pool → Prop} (hp : ∀ v S M, CR g S M → post' v M → post v S) (hK31 : ∀ (v0 : Option Nat) (v1 : Int32) (v2 : Int32) (v3 : Int32) (v4 : Int32) (S M : Pool), CR g S M → K31' v0 v1 v2 v3 v4 M → K31 (v0.map g) v1 v2 v3 v4 S) : ∀ (n : Nat) (v0 : Option Nat) (v1 : Int32) (v2 : Int32) (v3 : Int32) (v4 : Int32) (v5 : Int32) (v6 : Int32) (S M : Pool), CR g S M → wX9_cost_66 K31' post' n v0 v1 v2 v3 v4 v5 v6 M → wX9_cost_66 K31 post n (v0.map g) v1 v2 v3 v4 v5 v6 S := by
  intro n
  induction n with
  | zero => intro v0 v1 v2 v3 v4 v5 v6 S M h hw; exact False.elim hw
  | succ n ih =>
    intro v0 v1 v2 v3 v4 v5 v6 S M h hw
    unfold wX9_cost_66 at hw ⊢
    refine cr_I h hw (fun a1 hw => ?_)
    refine ⟨fun c2 => ?_, fun c2 => ?_⟩
    · have hw := hw.1 c2
      refine ⟨fun c3 => ?_, fun c3 => ?_⟩
      · have hw := hw.1 c3
        exact rX9_cost_115 hp hK31 _ _ _ _ _ _ _ h hw
      · have hw := hw.2 c3
        refine ⟨fun c4 => ?_, fun c4 => ?_⟩
        · have hw := hw.1 c4
          exact rX9_cost_118 hp hK31 _ _ _ _ _ _ _ h hw
        · have hw := hw.2 c4
          exact rX9_cost_115 hp hK31 _ _ _ _ _ _ _ h hw
    · have hw := hw.2 c2
      refine cr_rc h hw (fun hw => ?_)
      refine rX9_fits (fun a5 S M h hw => ?_) _ _ _ _ _ _ _ h hw
      refine ⟨fun c6 => ?_, fun c6 => ?_⟩
      · have hw := hw.1 c6
        exact rX9_cost_95 hp hK31 ih _ _ _ _ _ _ _ _ _ _ h hw
      · have hw := hw.2 c6
        exact rX9_cost_95 hp hK31 ih _ _ _ _ _ _ _ _ _ _ h hw
set_option maxRecDepth 100000 in
set_option maxHeartbeats 4000000 in
theorem rX9_cost_31 {g : Nat → Nat} {post post' : Int32 → Pool → Prop} (hp : ∀ v S M, CR g S M → post' v M → post v S) : ∀ (n : Nat) (v0 : Option Nat) (v1 : Int32) (v2 : Int32) (v3 : Int32) (v4 : Int32) (S M : Pool), CR g S M → wX9_cost_31 post' n v0 v1 v2 v3 v4 M → wX9_cost_31 post n (v0.map g) v1 v2 v3 v4 S := by
  intro n
  induction n with
  | zero => intro v0 v1 v2 v3 v4 S M h hw; exact False.elim hw
  | succ n ih =>
    intro v0 v1 v2 v3 v4 S M h hw
    unfold wX9_cost_31 at hw ⊢
    refine cr_R h hw (fun a1 hw => ?_)
    refine cr_aI h hw (fun a2 hw => ?_)
    refine ⟨fun c3 => ?_, fun c3 => ?_⟩
    · have hw := hw.1 c3
      exact hp _ _ _ h hw
    · have hw := hw.2 c3
      refine cr_R h hw (fun a4 hw => ?_)
      refine cr_aI h hw (fun a5 hw => ?_)
      refine ⟨fun c6 => ?_, fun c6 => ?_⟩
      · have hw := hw.1 c6
        obtain ⟨n1, hw⟩ := hw
        exact ⟨n1, rX9_cost_66 hp ih n1 _ _ _ _ _ _ _ _ _ h hw⟩
      · have hw := hw.2 c6
        exact rX9_cost_118 hp ih _ _ _ _ _ _ _ h hw
set_option maxRecDepth 100000 in
set_option maxHeartbeats 4000000 in
theorem rX9_cost_14 {g : Nat → Nat} {post post' : Int32 → Pool → Prop} (hp : ∀ v S M, CR g S M → post' v M → post v S) : ∀ (v0 : Option Nat) (v1 : Int32) (v2 : Int32) (z0 : Int32) (z1 : Option Nat) (S M : Pool), CR g S M → wX9_cost_14 post' v0 v1 v2 z0 z1 M → wX9_cost_14 post (v0.map g) v1 v2 z0 (z1.map g) S := by
  intro v0 v1 v2 z0 z1 S M h hw
  unfold wX9_cost_14 at hw ⊢
  refine cr_pI h hw (fun S M h hw => ?_)
  refine cr_I h hw (fun a1 hw => ?_)
  refine ⟨fun c2 => ?_, fun c2 => ?_⟩
  · have hw := hw.1 c2
    obtain ⟨n1, hw⟩ := hw
    exact ⟨n1, rX9_cost_31 hp n1 _ _ _ _ _ _ _ h hw⟩
  · have hw := hw.2 c2
    exact hp _ _ _ h hw
set_option maxRecDepth 100000 in
set_option maxHeartbeats 4000000 in
theorem rX9_cost {g : Nat → Nat} {post post' : Int32 → Pool → Prop} (hp : ∀ v S M, CR g S M → post' v M → post v S) : ∀ (v0 : Option Nat) (v1 : Int32) (v2 : Int32) (S M : Pool), CR g S M → wX9_cost post' v0 v1 v2 M → wX9_cost post (v0.map g) v1 v2 S := by
  intro v0 v1 v2 S M h hw
  unfold wX9_cost at hw ⊢
  refine cr_rc h hw (fun hw => ?_)
  refine rX9_isQuestion (fun a1 S M h hw => ?_) _ _ _ _ h hw
  refine ⟨fun c2 => ?_, fun c2 => ?_⟩
  · have hw := hw.1 c2
    exact rX9_cost_14 hp _ _ _ _ _ _ _ h hw
  · have hw := hw.2 c2
    exact rX9_cost_14 hp _ _ _ _ _ _ _ h hw
-- X9_widest
set_option maxRecDepth 100000 in
set_option maxHeartbeats 4000000 in
theorem rX9_widest_133 {g : Nat → Nat} {K40 K40' : Option Nat → Int32 → Int32 → Int32 → Pool → Prop} {post post' : Int32 → Pool → Prop} (hp : ∀ v S M, CR g S M → post' v M → post v S) (hK40 : ∀ (v0 : Option Nat) (v3 : Int32) (v4 : Int32) (v5 : Int32) (S M : Pool), CR g S M → K40' v0 v3 v4 v5 M → K40 (v0.map g) v3 v4 v5 S) : ∀ (v0 : Option Nat) (v3 : Int32) (v4 : Int32) (v5 : Int32) (S M : Pool), CR g S M → wX9_widest_133 K40' post' v0 v3 v4 v5 M → wX9_widest_133 K40 post (v0.map g) v3 v4 v5 S := by
  intro v0 v3 v4 v5 S M h hw
  unfold wX9_widest_133 at hw ⊢
  exact hK40 _ _ _ _ _ _ h hw
set_option maxRecDepth 100000 in
set_option maxHeartbeats 4000000 in
theorem rX9_widest_100 {g : Nat → Nat} {K40 K40' : Option Nat → Int32 → Int32 → Int32 → Pool → Prop} {K55 K55' : Option Nat → Int32 → Int32 → Int32 → Int32 → Int32 → Int32 → Pool → Prop} {post post' : Int32 → Pool → Prop} (hp : ∀ v S M, CR g S M → post' v M → post v S) (hK40 : ∀ (v0 : Option Nat) (v3 : Int32) (v4 : Int32) (v5 : Int32) (S M : Pool), CR g S M → K40' v0 v3 v4 v5 M → K40 (v0.map g) v3 v4 v5 S) (hK55 : ∀ (v0 : Option Nat) (v3 : Int32) (v4 : Int32) (v5 : Int32) (v6 : Int32) (v7 : Int32) (v8 : Int32) (S M : Pool), CR g S M → K55' v0 v3 v4 v5 v6 v7 v8 M → K55 (v0.map g) v3 v4 v5 v6 v7 v8 S) : ∀ (v0 : Option Nat) (v3 : Int32) (v4 : Int32) (v5 : Int32) (v6 : Int32) (v8 : Int32) (v9 : Int32) (z0 : Int32) (z1 : Int32) (S M : Pool), CR g S M → wX9_widest_100 K40' K55' post' v0 v3 v4 v5 v6 v8 v9 z0 z1 M → wX9_widest_100 K40 K55 post (v0.map g) v3 v4 v5 v6 v8 v9 z0 z1 S := by
  intro v0 v3 v4 v5 v6 v8 v9 z0 z1 S M h hw
  unfold wX9_widest_100 at hw ⊢
  exact hK55 _ _ _ _ _ _ _ _ _ h hw
set_option maxRecDepth 100000 in
set_option maxHeartbeats 4000000 in
theorem rX9_widest_55 {g : Nat → Nat} {K40 K40' : Option Nat → Int32 → Int32 → Int32 → Pool → Prop} {post post' : Int32 → Pool → Prop} (hp : ∀ v S M, CR g S M → post' v M → post v S) (hK40 : ∀ (v0 : Option Nat) (v3 : Int32) (v4 : Int32) (v5 : Int32) (S M : Pool), CR g S M → K40' v0 v3 v4 v5 M → K40 (v0.map g) v3 v4 v5 S) : ∀ (n : Nat) (v0 : Option Nat) (v3 : Int32) (v4 : Int32) (v5 : Int32) (v6 : Int32) (v7 : Int32) (v8 : Int32) (S M : Pool), CR g S M → wX9_widest_55 K40' post' n v0 v3 v4 v5 v6 v7 v8 M → wX9_widest_55 K40 post n (v0.map g) v3 v4 v5 v6 v7 v8 S := by
  intro n
  induction n with
  | zero => intro v0 v3 v4 v5 v6 v7 v8 S M h hw; exact False.elim hw
  | succ n ih =>
    intro v0 v3 v4 v5 v6 v7 v8 S M h hw
    unfold wX9_widest_55 at hw ⊢
    refine cr_I h hw (fun a1 hw => ?_)
    refine ⟨fun c2 => ?_, fun c2 => ?_⟩
    · have hw := hw.1 c2
      refine ⟨fun c3 => ?_, fun c3 => ?_⟩
      · have hw := hw.1 c3
        exact rX9_widest_133 hp hK40 _ _ _ _ _ _ h hw
      · have hw := hw.2 c3
        exact rX9_widest_133 hp hK40 _ _ _ _ _ _ h hw
    · have hw := hw.2 c2
      refine cr_R h hw (fun a4 hw => ?_)
      refine cr_R h hw (fun a5 hw => ?_)
      refine cr_aI h hw (fun a6 hw => ?_)
      refine cr_aI h hw (fun a7 hw => ?_)
      refine ⟨fun c8 => ?_, fun c8 => ?_⟩
      · have hw := hw.1 c8
        exact rX9_widest_100 hp hK40 ih _ _ _ _ _ _ _ _ _ _ _ h hw
      · have hw := hw.2 c8
        exact rX9_widest_100 hp hK40 ih _ _ _ _ _ _ _ _ _ _ _ h hw
set_option maxRecDepth 100000 in
set_option maxHeartbeats 4000000 in
theorem rX9_widest_40 {g : Nat → Nat} {post post' : Int32 → Pool → Prop} (hp : ∀ v S M, CR g S M → post' v M → post v S) : ∀ (n : Nat) (v0 : Option Nat) (v3 : Int32) (v4 : Int32) (v5 : Int32) (S M : Pool), CR g S M → wX9_widest_40 post' n v0 v3 v4 v5 M → wX9_widest_40 post n (v0.map g) v3 v4 v5 S := by
  intro n
  induction n with
  | zero => intro v0 v3 v4 v5 S M h hw; exact False.elim hw
  | succ n ih =>
    intro v0 v3 v4 v5 S M h hw
    unfold wX9_widest_40 at hw ⊢
    refine ⟨fun c1 => ?_, fun c1 => ?_⟩
    · have hw := hw.1 c1
      exact hp _ _ _ h hw
    · have hw := hw.2 c1
      obtain ⟨n1, hw⟩ := hw
      exact ⟨n1, rX9_widest_55 hp ih n1 _ _ _ _ _ _ _ _ _ h hw⟩
set_option maxRecDepth 100000 in
set_option maxHeartbeats 4000000 in
theorem rX9_widest_14 {g : Nat → Nat} {post post' : Int32 → Pool → Prop} (hp : ∀ v S M, CR g S M → post' v M → post v S) : ∀ (v0 : Option Nat) (v1 : Int32) (v2 : Int32) (z0 : Int32) (z1 : Option Nat) (S M : Pool), CR g S M → wX9_widest_14 post' v0 v1 v2 z0 z1 M → wX9_widest_14 post (v0.map g) v1 v2 z0 (z1.map g) S := by
  intro v0 v1 v2 z0 z1 S M h hw
  unfold wX9_widest_14 at hw ⊢
  refine cr_pI h hw (fun S M h hw => ?_)
  refine cr_I h hw (fun a1 hw => ?_)
  refine ⟨fun c2 => ?_, fun c2 => ?_⟩
  · have hw := hw.1 c2
    refine cr_rc h hw (fun hw => ?_)
    refine rX9_work (fun S M h hw => ?_) _ _ _ _ _ h hw
    obtain ⟨n1, hw⟩ := hw
    exact ⟨n1, rX9_widest_40 hp n1 _ _ _ _ _ _ h hw⟩
  · have hw := hw.2 c2
    exact hp _ _ _ h hw
set_option maxRecDepth 100000 in
set_option maxHeartbeats 4000000 in
theorem rX9_widest {g : Nat → Nat} {post post' : Int32 → Pool → Prop} (hp : ∀ v S M, CR g S M → post' v M → post v S) : ∀ (v0 : Option Nat) (v1 : Int32) (v2 : Int32) (S M : Pool), CR g S M → wX9_widest post' v0 v1 v2 M → wX9_widest post (v0.map g) v1 v2 S := by
  intro v0 v1 v2 S M h hw
  unfold wX9_widest at hw ⊢
  refine cr_rc h hw (fun hw => ?_)
  refine rX9_isQuestion (fun a1 S M h hw => ?_) _ _ _ _ h hw
  refine ⟨fun c2 => ?_, fun c2 => ?_⟩
  · have hw := hw.1 c2
    exact rX9_widest_14 hp _ _ _ _ _ _ _ h hw
  · have hw := hw.2 c2
    exact rX9_widest_14 hp _ _ _ _ _ _ _ h hw
-- X9_count
set_option maxRecDepth 100000 in
set_option maxHeartbeats 4000000 in
theorem rX9_count_129 {g : Nat → Nat} {post post' : Int32 → Pool → Prop} (hp : ∀ v S M, CR g S M → post' v M → post v S) : ∀ (n : Nat) (v0 : Option Nat) (v2 : Int32) (v3 : Int32) (S M : Pool), CR g S M → wX9_count_129 post' n v0 v2 v3 M → wX9_count_129 post n (v0.map g) v2 v3 S := by
  intro n
  induction n with
  | zero => intro v0 v2 v3 S M h hw; exact False.elim hw
  | succ n ih =>
    intro v0 v2 v3 S M h hw
    unfold wX9_count_129 at hw ⊢
    refine cr_I h hw (fun a1 hw => ?_)
    refine ⟨fun c2 => ?_, fun c2 => ?_⟩
    · have hw := hw.1 c2
      exact hp _ _ _ h hw
    · have hw := hw.2 c2
      refine cr_I h hw (fun a3 hw => ?_)
      refine cr_rc h hw (fun hw => ?_)
      refine rX9_work (fun S M h hw => ?_) _ _ _ _ _ h hw
      refine cr_I h hw (fun a4 hw => ?_)
      exact ih _ _ _ _ _ h hw
set_option maxRecDepth 100000 in
set_option maxHeartbeats 4000000 in
theorem rX9_count_117 {g : Nat → Nat} {K88 K88' : Option Nat → Int32 → Int32 → Pool → Prop} {post post' : Int32 → Pool → Prop} (hp : ∀ v S M, CR g S M → post' v M → post v S) (hK88 : ∀ (v0 : Option Nat) (v2 : Int32) (v3 : Int32) (S M : Pool), CR g S M → K88' v0 v2 v3 M → K88 (v0.map g) v2 v3 S) : ∀ (v0 : Option Nat) (v3 : Int32) (z0 : Int32) (z1 : Int32) (S M : Pool), CR g S M → wX9_count_117 K88' post' v0 v3 z0 z1 M → wX9_count_117 K88 post (v0.map g) v3 z0 z1 S := by
  intro v0 v3 z0 z1 S M h hw
  unfold wX9_count_117 at hw ⊢
  exact hK88 _ _ _ _ _ h hw
set_option maxRecDepth 100000 in
set_option maxHeartbeats 4000000 in
theorem rX9_count_88 {g : Nat → Nat} {post post' : Int32 → Pool → Prop} (hp : ∀ v S M, CR g S M → post' v M → post v S) : ∀ (n : Nat) (v0 : Option Nat) (v2 : Int32) (v3 : Int32) (S M : Pool), CR g S M → wX9_count_88 post' n v0 v2 v3 M → wX9_count_88 post n (v0.map g) v2 v3 S := by
  intro n
  induction n with
  | zero => intro v0 v2 v3 S M h hw; exact False.elim hw
  | succ n ih =>
    intro v0 v2 v3 S M h hw
    unfold wX9_count_88 at hw ⊢
    refine cr_I h hw (fun a1 hw => ?_)
    refine ⟨fun c2 => ?_, fun c2 => ?_⟩
    · have hw := hw.1 c2
      exact hp _ _ _ h hw
    · have hw := hw.2 c2
      refine cr_R h hw (fun a3 hw => ?_)
      refine cr_aI h hw (fun a4 hw => ?_)
      refine cr_R h hw (fun a5 hw => ?_)
      refine cr_aI h hw (fun a6 hw => ?_)
      refine ⟨fun c7 => ?_, fun c7 => ?_⟩
      · have hw := hw.1 c7
        exact rX9_count_117 hp ih _ _ _ _ _ _ h hw
      · have hw := hw.2 c7
        exact rX9_count_117 hp ih _ _ _ _ _ _ h hw
set_option maxRecDepth 100000 in
set_option maxHeartbeats 4000000 in
theorem rX9_count {g : Nat → Nat} {post post' : Int32 → Pool → Prop} (hp : ∀ v S M, CR g S M → post' v M → post v S) : ∀ (v0 : Option Nat) (v1 : Int32) (S M : Pool), CR g S M → wX9_count post' v0 v1 M → wX9_count post (v0.map g) v1 S := by
  intro v0 v1 S M h hw
  unfold wX9_count at hw ⊢
  refine cr_pI h hw (fun S M h hw => ?_)
  refine ⟨fun c7 => ?_, fun c7 => ?_⟩
  · have hw := hw.1 c7
    exact hp _ _ _ h hw
  · have hw := hw.2 c7
    refine ⟨fun c8 => ?_, fun c8 => ?_⟩
    · have hw := hw.1 c8
      refine cr_I h hw (fun a1 hw => ?_)
      exact hp _ _ _ h hw
    · have hw := hw.2 c8
      refine ⟨fun c9 => ?_, fun c9 => ?_⟩
      · have hw := hw.1 c9
        refine cr_I h hw (fun a2 hw => ?_)
        exact hp _ _ _ h hw
      · have hw := hw.2 c9
        refine ⟨fun c10 => ?_, fun c10 => ?_⟩
        · have hw := hw.1 c10
          refine cr_I h hw (fun a3 hw => ?_)
          exact hp _ _ _ h hw
        · have hw := hw.2 c10
          refine ⟨fun c11 => ?_, fun c11 => ?_⟩
          · have hw := hw.1 c11
            refine cr_I h hw (fun a4 hw => ?_)
            exact hp _ _ _ h hw
          · have hw := hw.2 c11
            refine ⟨fun c12 => ?_, fun c12 => ?_⟩
            · have hw := hw.1 c12
              refine cr_I h hw (fun a5 hw => ?_)
              exact hp _ _ _ h hw
            · have hw := hw.2 c12
              refine ⟨fun c13 => ?_, fun c13 => ?_⟩
              · have hw := hw.1 c13
                refine cr_I h hw (fun a6 hw => ?_)
                exact hp _ _ _ h hw
              · have hw := hw.2 c13
                refine ⟨fun c14 => ?_, fun c14 => ?_⟩
                · have hw := hw.1 c14
                  obtain ⟨n1, hw⟩ := hw
                  exact ⟨n1, rX9_count_88 hp n1 _ _ _ _ _ h hw⟩
                · have hw := hw.2 c14
                  obtain ⟨n1, hw⟩ := hw
                  exact ⟨n1, rX9_count_129 hp n1 _ _ _ _ _ h hw⟩
