/-! what reading may change -/
def sl (c k : Nat) : Bool := (c == 0 && (k == 29 || k == 30 || k == 31 || k == 32)) || ((c == 12 || c == 13 || c == 19 || c == 20 || c == 21) && decide (8 ≤ k)) || ((c == 14 || c == 15 || c == 17 || c == 18) && decide (48 ≤ k)) || (c == 16 && decide (144 ≤ k))
def BB (I : Mem) : Prop := ∀ c k, c = 14 ∨ c = 17 → 48 ≤ k → k < 54 → I c k = 0 ∨ I c k = 1
def PR (I J : Mem) : Prop := (∀ c k, sl c k = false → J c k = I c k) ∧ (BB I → BB J)
theorem PR_rfl {I : Mem} : PR I I := ⟨fun _ _ _ => rfl, id⟩
theorem PR_trans {I J K : Mem} (h1 : PR I J) (h2 : PR J K) : PR I K := ⟨fun c k h => (h2.1 c k h).trans (h1.1 c k h), fun b => h2.2 (h1.2 b)⟩
theorem PR_p {I J : Mem} {c k : Nat} {v : Int32} (h : PR I J) (hs : sl c k = true) (hv : c = 14 ∨ c = 17 → v = 0 ∨ v = 1 := by simp) : PR I (p2 J c k v) := by
  refine ⟨fun d j hd => ?_, fun b d j hd h1 h2 => ?_⟩
  · by_cases e : d = c
    · subst e
      by_cases e2 : j = k
      · subst e2; rw [hs] at hd; cases hd
      · rw [p2_row e2]; exact h.1 d j hd
    · rw [p2_ne e]; exact h.1 d j hd
  · by_cases e : d = c
    · subst e
      by_cases e2 : j = k
      · subst e2; rw [p2_same]; exact hv hd
      · rw [p2_row e2]; exact h.2 b d j hd h1 h2
    · rw [p2_ne e]; exact h.2 b d j hd h1 h2
theorem PR_st {I Q : Mem} {p : Nat} {m : Int32} (h : PR I Q) : PR I (st Q p m) := PR_p (PR_p h rfl) rfl
theorem PR_row {I J : Mem} {c : Nat} (h : PR I J) (hc : ∀ k, sl c k = false) : J c = I c := funext fun k => h.1 c k (hc k)
def HT (Q : Mem) (T : Nat → Int32) (n : Nat) : Prop := TX Q n ∧ Q 26 = T
theorem HT_pr {I J : Mem} {T : Nat → Int32} {n : Nat} (h : PR I J) (hx : HT I T n) : HT J T n := ⟨⟨(h.1 0 28 (by decide)).trans hx.1.1, hx.1.2⟩, (PR_row h (fun k => by simp [sl])).trans hx.2⟩
section
variable {Q0 Q : Mem} {T : Nat → Int32} {n p s d : Nat} {m v : Int32} {post : Int32 → Pool → Prop}
theorem w_sign (hx : HT Q T n) (hp : p ≤ n) (h : post (if skp T n p < n then T (skp T n p) else -1) (mp (st Q (skp T n p) m))) : wX9_sign post (some 0) (mp (st Q p m)) := by
  obtain ⟨hx, rfl⟩ := hx
  exact q_sign' hx hp h
theorem w_wend (hx : HT Q T n) (hp : p ≤ n) (h : post (nI (wep T n p)) (mp (st Q p m))) : wX9_wordEnd post (some 0) (mp (st Q p m)) := by
  obtain ⟨hx, rfl⟩ := hx
  exact q_wend' hx hp h
theorem w_isW {w : Nat} (hw : w < 9) (hx : HT Q T n) (hp : p ≤ n) (h : post (bI (isWb T n (skp T n p) w = true)) (mp (st Q (skp T n p) m))) : wX9_isWord post (some 0) (cwd w) (mp (st Q p m)) := by
  obtain ⟨hx, rfl⟩ := hx
  exact q_isW hw hx hp h
theorem w_digits {lo hi : Int32} (hx : HT Q T n) (hp : p ≤ n) (hN : numS T n (skp T n p) lo hi = none → ∀ a', post 0 (mp (st (p2 Q 0 30 (nI (skp T n p))) a' m))) (hS : ∀ v, numS T n (skp T n p) lo hi = some v → post 1 (mp (st Q (dep T n (skp T n p)) v))) : wX9_digits post (some 0) lo hi (mp (st Q p m)) := by
  obtain ⟨hx, rfl⟩ := hx
  exact q_digits hx hp hN hS
theorem w_fld (hx : HT Q T n) (hp : p ≤ n) (h : post (oI (fldS T n (skp T n p))) (mp (st Q (skp T n p) m))) : wX9_fieldHere post (some 0) (mp (st Q p m)) := by
  obtain ⟨hx, rfl⟩ := hx
  exact q_fld hx hp h
theorem w_rdF (hx : HT Q T n) (hp : p ≤ n) (hN : fldS T n (skp T n p) = none → post 0 (mp (st (p2 Q 0 30 (nI (skp T n p))) (skp T n p) m))) (hS : ∀ f, fldS T n (skp T n p) = some f → post 1 (mp (st (p2 Q 0 32 (bitF (Q 0 32) f)) (wep T n (skp T n p)) (nI f)))) : wX9_readField post (some 0) (mp (st Q p m)) := by
  obtain ⟨hx, rfl⟩ := hx
  exact q_rdF hx hp hN hS
theorem w_pass {w : Nat} (hw : w < 9) (hx : HT Q T n) (hp : p ≤ n) (hN : isWb T n (skp T n p) w = false → post 0 (mp (st (p2 Q 0 30 (nI (skp T n p))) (skp T n p) m))) (hS : isWb T n (skp T n p) w = true → post 1 (mp (st Q (wep T n (skp T n p)) m))) : wX9_passes post (some 0) (cwd w) (mp (st Q p m)) := by
  obtain ⟨hx, rfl⟩ := hx
  exact q_pass hw hx hp hN hS
/-- the two ways a piece of reading goes on -/
def GO (Q0 : Mem) (T : Nat → Int32) (n : Nat) (post : Int32 → Pool → Prop) (r : Sum Nat (Mem × Nat)) : Prop := (∀ f J, r = .inl f → PR Q0 J → J 0 30 = nI f → post 0 (mp J)) ∧ ∀ Q' p' a m, r = .inr (Q', p') → PR Q0 Q' → a ≤ n → skp T n a = p' → post 1 (mp (st Q' a m))
theorem GO_f {f a : Nat} (h : GO Q0 T n post (.inl f)) (hQ : PR Q0 Q) : post 0 (mp (st (p2 Q 0 30 (nI f)) a m)) := h.1 f _ rfl (PR_st (PR_p hQ rfl)) (by rw [st_0 (by decide) (by decide), p2_same])
theorem sl18 {d : Nat} (h : 48 ≤ d) : sl 18 d = true := by simp [sl, h]
theorem sl17 {d : Nat} (h : 48 ≤ d) : sl 17 d = true := by simp [sl, h]
theorem sl15 {d : Nat} (h : 48 ≤ d) : sl 15 d = true := by simp [sl, h]
theorem sl14 {d : Nat} (h : 48 ≤ d) : sl 14 d = true := by simp [sl, h]
theorem sl16 {d : Nat} (h : 144 ≤ d) : sl 16 d = true := by simp [sl, h]
theorem w_295 {a : Nat} (hx : HT Q0 T n) (hQ : PR Q0 Q) (hs : s < 6) (hd : d = 48 + s) (ha : a ≤ n) (h : GO Q0 T n post (withS T n s d Q (skp T n a))) : wX9_readStep_295 post (some 0) (nI s) (nI d) (mp (st Q a m)) := by
  have hn := hx.1.2
  have hx' := HT_pr hQ hx
  have hsa := skp_le (T := T) ha
  unfold wX9_readStep_295
  rw [cw_within, m_rc]
  refine w_isW (by decide) hx' ha ?_
  rw [bI_br]
  unfold withS at h
  refine brc (fun h1 => ?_) fun h1 => ?_
  · rw [if_pos h1] at h
    refine brc (fun h2 => ?_) fun h2 => ?_
    · rw [show (0 : Int32) = nI 0 from rfl, nI_eq (by omega) (by omega)] at h2
      rw [if_pos h2] at h
      simp only [m_rc, m_I, st_29, q_wrong, true_or, true_and]
      rw [st_s0 (by decide) (by decide)]
      exact GO_f h hQ
    · have h3 : ¬ s = 0 := fun z => h2 (by rw [z]; rfl)
      rw [if_neg h3] at h
      rw [m_rc]
      refine w_wend hx' hsa ?_
      rw [m_pI, st_s29, m_rc]
      have hwa := wep_le (T := T) hsa
      refine w_digits hx' hwa (fun g a' => ?_) (fun v g => ?_)
      · rw [g] at h
        simp only [c00, brT, true_or, true_and]
        exact GO_f h hQ
      · rw [g] at h
        simp (disch := first | decide | omega) only [m_I, m_R, m_rc, m_pI, m_aI, m_aZ, m_sI, m_sZ, z01, z11, ix3, ix6, ix250, ix1, ix2, nI_add, nI_clamp, vin, true_and, and_true, or_true, true_or, mN3, mN6, mN7, mN8, mN9, mN10, mN12, mN13, mN14, mN15, mN16, mN17, mN18, mN19, mN20, mN21, mN23, mN24, mN25, mN26, mN33, mN34, mN35, mN37, mN39, mN40, mN41, c10, brF, st_31, st_sc]
        exact h.2 _ _ _ _ rfl (PR_p hQ (sl18 (by omega))) (dep_le (skp_le hwa)) rfl
  · rw [if_neg h1] at h
    simp only [true_or, or_true, true_and]
    exact h.2 _ _ _ _ rfl hQ hsa skp_sk
theorem cnt_told {f : Nat} (hf : f < 3) (h1 : Q 16 (3 * d + f) = -1) (hv : ¬ v = -1) : cnt (fun x => Q 16 (3 * d + x) = -1) 3 = cnt (fun x => p2 Q 16 (3 * d + f) v 16 (3 * d + x) = -1) 3 + 1 := by
  rw [← cnt_ins (p := fun x => p2 Q 16 (3 * d + f) v 16 (3 * d + x) = -1) (v := f) (by rw [p2_same]; exact hv) hf]
  refine cnt_cong fun x hx => ?_
  by_cases e : x = f
  · subst e; exact ⟨fun _ => .inr rfl, fun _ => h1⟩
  · rw [p2_row (by omega)]
    exact ⟨.inl, fun z => z.elim id fun z => absurd z e⟩
theorem w_160 (hx : HT Q0 T n) (hs : s < 6) (hd : d = 48 + s) : ∀ k Q a m, PR Q0 Q → a ≤ n → skp T n a = a → GO Q0 T n post (match condS T n d k Q a with | .inl f => .inl f | .inr (Q', p') => tailS T n s d Q' p') → k = cnt (fun f => Q 16 (3 * d + f) = -1) 3 + 1 → wX9_readStep_160 post k (some 0) (nI s) (nI d) (oI (fldS T n a)) (mp (st Q a m)) := by
  have hn := hx.1.2
  intro k
  induction k with
  | zero => intro Q a m hQ ha hsa h hg; omega
  | succ k ih =>
    intro Q a m hQ ha hsa h hg
    have hx' := HT_pr hQ hx
    unfold condS at h
    unfold wX9_readStep_160
    cases hf : fldS T n a with
    | none =>
      rw [hf] at h
      rw [brt (show oI none = -1 from rfl), cw_first, m_rc]
      refine w_isW (by decide) hx' ha ?_
      rw [bI_br, hsa]
      simp only at h
      unfold tailS at h
      refine brc (fun h1 => ?_) fun h1 => ?_
      · rw [if_pos h1] at h
        simp (disch := first | decide | omega) only [m_I, m_R, m_rc, m_pI, m_aI, m_aZ, m_sI, m_sZ, z01, z11, ix3, ix6, ix250, ix1, ix2, nI_add, nI_clamp, vin, true_and, and_true, or_true, true_or, mN3, mN6, mN7, mN8, mN9, mN10, mN12, mN13, mN14, mN15, mN16, mN17, mN18, mN19, mN20, mN21, mN23, mN24, mN25, mN26, mN33, mN34, mN35, mN37, mN39, mN40, mN41, st_c]
        refine brc (fun h2 => ?_) fun h2 => ?_
        · rw [if_neg (fun z => z h2)] at h
          refine w_wend hx' ha ?_
          simp (disch := first | decide | omega) only [m_I, m_R, m_rc, m_pI, m_aI, m_aZ, m_sI, m_sZ, z01, z11, ix3, ix6, ix250, ix1, ix2, nI_add, nI_clamp, vin, true_and, and_true, or_true, true_or, mN3, mN6, mN7, mN8, mN9, mN10, mN12, mN13, mN14, mN15, mN16, mN17, mN18, mN19, mN20, mN21, mN23, mN24, mN25, mN26, mN33, mN34, mN35, mN37, mN39, mN40, mN41, st_s29, st_sc]
          exact w_295 hx (PR_p hQ (sl17 (by omega))) hs hd (wep_le ha) h
        · rw [if_pos h2] at h
          simp only [q_wrong, st_29, true_or, true_and]
          rw [st_s0 (by decide) (by decide)]
          exact GO_f h hQ
      · rw [if_neg h1] at h
        exact w_295 hx hQ hs hd ha (by rw [hsa]; exact h)
    | some f =>
      have hf3 := fldS_lt hf
      rw [hf] at h
      simp only at h
      rw [brf (show ¬ oI (some f) = -1 from nI_nm1 (by omega))]
      unfold oI
      simp (disch := first | decide | omega) only [m_I, m_R, m_rc, m_pI, m_aI, m_aZ, m_sI, m_sZ, z01, z11, ix3, ix6, ix250, ix1, ix2, nI_add, nI_clamp, vin, true_and, and_true, or_true, true_or, mN3, mN6, mN7, mN8, mN9, mN10, mN12, mN13, mN14, mN15, mN16, mN17, mN18, mN19, mN20, mN21, mN23, mN24, mN25, mN26, mN33, mN34, mN35, mN37, mN39, mN40, mN41, st_c]
      refine brc (fun h1 => ?_) fun h1 => ?_
      · rw [if_neg (fun z => z h1)] at h
        refine w_wend hx' ha ?_
        have hwa := wep_le (T := T) ha
        rw [m_pI, st_s29]
        have hgo : ∀ hi : Int32, hi = (if f = 2 then 15 else 30) → wX9_readStep_210 (wX9_readStep_160 post k) post (some 0) (nI s) (nI d) (nI f) hi 0 (some 0) (mp (st Q (wep T n a) m)) := by
          intro hi hhi
          unfold wX9_readStep_210
          rw [m_rc]
          refine w_digits hx' hwa (fun g a' => ?_) (fun v g => ?_)
          · rw [← hhi, g] at h
            simp only [c00, brT, true_or, true_and]
            exact GO_f h hQ
          · rw [← hhi, g] at h
            simp only at h
            simp (disch := first | decide | omega) only [m_I, m_R, m_rc, m_pI, m_aI, m_aZ, m_sI, m_sZ, z01, z11, ix3, ix6, ix250, ix1, ix2, nI_add, nI_clamp, vin, true_and, and_true, or_true, true_or, mN3, mN6, mN7, mN8, mN9, mN10, mN12, mN13, mN14, mN15, mN16, mN17, mN18, mN19, mN20, mN21, mN23, mN24, mN25, mN26, mN33, mN34, mN35, mN37, mN39, mN40, mN41, c10, brF, st_31, st_sc, st_0, p2_ne, st_s0]
            have hQ2 : PR Q0 (p2 (p2 Q 16 (3 * d + f) v) 0 32 (bitF (Q 0 32) f)) := PR_p (PR_p hQ (sl16 (by omega))) rfl
            have hda := dep_le (T := T) (skp_le (T := T) hwa)
            refine w_fld (HT_pr hQ2 hx) hda ?_
            refine ih _ _ _ hQ2 (skp_le hda) skp_sk h ?_
            have hv : ¬ v = -1 := fun z => by
              unfold numS at g
              split at g
              · cases g
              · rename_i hc
                cases g
                exact hc (.inr (.inr (.inl (by rw [z]; decide))))
            have := cnt_told hf3 h1 hv
            rw [p2_ne (by decide : (16 : Nat) ≠ 0)]
            omega
        refine brc (fun h2 => ?_) fun h2 => ?_
        · rw [show (2 : Int32) = nI 2 from rfl, nI_eq (by omega) (by omega)] at h2
          exact hgo 15 (by rw [if_pos h2])
        · exact hgo 30 (by rw [if_neg (fun z => h2 (by rw [z]; rfl))])
      · rw [if_pos h1] at h
        simp only [q_wrong, st_29, true_or, true_and]
        rw [st_s0 (by decide) (by decide)]
        exact GO_f h hQ
end
