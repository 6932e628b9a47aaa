/-! EACH LEVEL of the class -/
theorem op_tk : ∀ k, k < 104 → (∀ s, opk k = some s → (tg s = 6 ↔ k = 42 ∨ k = 47 ∨ k = 37) ∧ (tg s = 5 ↔ k = 43 ∨ k = 45) ∧ (tg s = 2 ↔ k = 8) ∧ (tg s = 1 ↔ k = 7) ∧ (tg s = 4 ↔ k = 60 ∨ k = 62 ∨ k = 61) ∧ nI k = opC s) ∧ (opk k = none → k ≠ 42 ∧ k ≠ 47 ∧ k ≠ 37 ∧ k ≠ 43 ∧ k ≠ 45 ∧ k ≠ 8 ∧ k ≠ 7 ∧ k ≠ 60 ∧ k ≠ 62 ∧ k ≠ 61) := by
  have k1 : ∀ k, k < 104 → ∀ s, s < 10 → opk k = some s → (tg s = 6 ↔ k = 42 ∨ k = 47 ∨ k = 37) ∧ (tg s = 5 ↔ k = 43 ∨ k = 45) ∧ (tg s = 2 ↔ k = 8) ∧ (tg s = 1 ↔ k = 7) ∧ (tg s = 4 ↔ k = 60 ∨ k = 62 ∨ k = 61) ∧ nI k = opC s := by
    intro k _ s _ e
    unfold opk at e
    repeat' split at e
    all_goals first | (cases e; subst_vars; exact ⟨by decide, by decide, by decide, by decide, by decide, by decide⟩) | cases e
  have k2 : ∀ k, k < 104 → opk k = none → k ≠ 42 ∧ k ≠ 47 ∧ k ≠ 37 ∧ k ≠ 43 ∧ k ≠ 45 ∧ k ≠ 8 ∧ k ≠ 7 ∧ k ≠ 60 ∧ k ≠ 62 ∧ k ≠ 61 := by decide +kernel
  exact fun k hk => ⟨fun s e => k1 k hk s (opk_lt e) e, k2 k hk⟩
theorem tk_lt {τ : Tape} {p : Nat} (hb : ∀ j, j < τ.1 → τ.2 j < 256) : tk τ p < 104 := by
  unfold tk
  split
  · split
    · split
      · have := kw_r (lw τ.2 (tq τ p) (tl τ p)); omega
      · decide
    · split
      · split <;> decide
      · split
        · rename_i h1 _ _ h2
          have := sg_lb _ (hb _ h1) h2; omega
        · decide
  · decide
theorem tk_ne {k a : Nat} (h : k < 104) (ha : a < 104) (e : k ≠ a) : ¬ nI k = nI a := fun z => e ((nI_eq (by omega) (by omega)).mp z)
theorem lvl_either {N t f d : Nat} {τ : Tape} {G : Nat → Nat → Int32 → St → Option (Int32 × St)} (hN : 20000 ≤ N) (hf : isF f) (hb : ∀ j, j < τ.1 → τ.2 j < 256) (hG : HG τ 2 f d G) : HG τ 1 f d (fun a b c σ => fo_X2_either N (RR t) a b c G σ) := by
  intro p u E σ pre
  refine lvl_loop (t := t) (m := 2) (Fn := fun n x y σ => f_X2_either_10 N (RR t) 2 f (nI d) G n x y σ) (B := fun rec x y σ => b_X2_either_10 N (RR t) 2 f (nI d) G rec x y σ) hN hf rfl (by decide) hG (fun n x y σ => rfl) (fun rec x4 σ => rfl) (fun rec i p1 σ hi e hno => ?_) (fun rec i p1 s σ hi e es hs => ?_) pre
  · have hk := tk_lt (p := p1) hb
    have ho := op_tk _ hk
    unfold b_X2_either_10 f_X2_either_59
    have : tk τ p1 ≠ 7 := fun z => by
      cases h : opk (tk τ p1) with
      | none => exact (ho.2 h).2.2.2.2.2.2.1 z
      | some s => exact hno s h ((ho.1 s h).2.2.2.1.mpr z)
    rw [if_neg (by decide), if_neg (show ¬ (30 : Int32) ≤ nI i from nI_ge hi (by decide)), r_2_0 rfl, e, if_neg (show ¬ nI (tk τ p1) = (7 : Int32) from tk_ne hk (by decide) this)]
    rfl
  · have ho := op_tk _ (tk_lt (p := p1) hb)
    have hk := (ho.1 s es).2.2.2.1.mp hs
    unfold b_X2_either_10
    rw [if_neg (by decide), if_neg (show ¬ (30 : Int32) ≤ nI i from nI_ge hi (by decide)), r_2_0 rfl, e, if_pos (by rw [hk]; rfl), nI_1 i, ← (ho.1 s es).2.2.2.2.2, hk]
    rfl
theorem lvl_both {N t f d : Nat} {τ : Tape} {G : Nat → Nat → Int32 → St → Option (Int32 × St)} (hN : 20000 ≤ N) (hf : isF f) (hb : ∀ j, j < τ.1 → τ.2 j < 256) (hG : HG τ 3 f d G) : HG τ 2 f d (fun a b c σ => fo_X2_both N (RR t) a b c G σ) := by
  intro p u E σ pre
  refine lvl_loop (t := t) (m := 3) (Fn := fun n x y σ => f_X2_both_10 N (RR t) 2 f (nI d) G n x y σ) (B := fun rec x y σ => b_X2_both_10 N (RR t) 2 f (nI d) G rec x y σ) hN hf rfl (by decide) hG (fun n x y σ => rfl) (fun rec x4 σ => rfl) (fun rec i p1 σ hi e hno => ?_) (fun rec i p1 s σ hi e es hs => ?_) pre
  · have hk := tk_lt (p := p1) hb
    have ho := op_tk _ hk
    unfold b_X2_both_10 f_X2_both_59
    have : tk τ p1 ≠ 8 := fun z => by
      cases h : opk (tk τ p1) with
      | none => exact (ho.2 h).2.2.2.2.2.1 z
      | some s => exact hno s h ((ho.1 s h).2.2.1.mpr z)
    rw [if_neg (by decide), if_neg (show ¬ (30 : Int32) ≤ nI i from nI_ge hi (by decide)), r_2_0 rfl, e, if_neg (show ¬ nI (tk τ p1) = (8 : Int32) from tk_ne hk (by decide) this)]
    rfl
  · have ho := op_tk _ (tk_lt (p := p1) hb)
    have hk := (ho.1 s es).2.2.1.mp hs
    unfold b_X2_both_10
    rw [if_neg (by decide), if_neg (show ¬ (30 : Int32) ≤ nI i from nI_ge hi (by decide)), r_2_0 rfl, e, if_pos (by rw [hk]; rfl), nI_1 i, ← (ho.1 s es).2.2.2.2.2, hk]
    rfl
theorem lvl_sum {N t f d : Nat} {τ : Tape} {G : Nat → Nat → Int32 → St → Option (Int32 × St)} (hN : 20000 ≤ N) (hf : isF f) (hb : ∀ j, j < τ.1 → τ.2 j < 256) (hG : HG τ 6 f d G) : HG τ 5 f d (fun a b c σ => fo_X2_sum N (RR t) a b c G σ) := by
  intro p u E σ pre
  refine lvl_loop (t := t) (m := 6) (Fn := fun n x y σ => f_X2_sum_10 N (RR t) 2 f (nI d) G n x y σ) (B := fun rec x y σ => b_X2_sum_10 N (RR t) 2 f (nI d) G rec x y σ) hN hf rfl (by decide) hG (fun n x y σ => rfl) (fun rec x4 σ => rfl) (fun rec i p1 σ hi e hno => ?_) (fun rec i p1 s σ hi e es hs => ?_) pre
  · have hk := tk_lt (p := p1) hb
    have ho := op_tk _ hk
    unfold b_X2_sum_10 f_X2_sum_81
    have : tk τ p1 ≠ 43 ∧ tk τ p1 ≠ 45 := by
      cases h : opk (tk τ p1) with
      | none => exact ⟨(ho.2 h).2.2.2.1, (ho.2 h).2.2.2.2.1⟩
      | some s => exact ⟨fun z => hno s h ((ho.1 s h).2.1.mpr (Or.inl z)), fun z => hno s h ((ho.1 s h).2.1.mpr (Or.inr z))⟩
    rw [if_neg (by decide), if_neg (show ¬ (30 : Int32) ≤ nI i from nI_ge hi (by decide)), r_2_0 rfl, e, if_neg (show ¬ nI (tk τ p1) = (43 : Int32) from tk_ne hk (by decide) this.1), if_neg (show ¬ nI (tk τ p1) = (45 : Int32) from tk_ne hk (by decide) this.2)]
    rfl
  · have hkl := tk_lt (p := p1) hb
    have ho := op_tk _ hkl
    have hk := (ho.1 s es).2.1.mp hs
    unfold b_X2_sum_10 f_X2_sum_45
    rw [if_neg (by decide), if_neg (show ¬ (30 : Int32) ≤ nI i from nI_ge hi (by decide)), r_2_0 rfl, e, nI_1 i, ← (ho.1 s es).2.2.2.2.2]
    rcases hk with hk | hk
    · rw [if_pos (by rw [hk]; rfl)]
      rfl
    · rw [if_neg (show ¬ nI (tk τ p1) = (43 : Int32) from tk_ne (a := 43) hkl (by decide) (by rw [hk]; decide)), if_pos (by rw [hk]; rfl)]
      rfl
theorem s_isTimes {N k : Nat} {ρ : Nat → Nat → Nat} {σ : St} (hk : k < 104) : f_X2_isTimes N ρ (nI k) σ = some (fl (decide (k = 42 ∨ k = 47 ∨ k = 37)), σ) := by
  unfold f_X2_isTimes f_X2_isTimes_18 f_X2_isTimes_23
  by_cases h1 : k = 42
  · rw [if_pos (by rw [h1]; rfl), decide_eq_true (Or.inl h1)]; rfl
  · rw [if_neg (show ¬ nI k = (42 : Int32) from tk_ne hk (by decide) h1)]
    by_cases h2 : k = 47
    · rw [if_pos (by rw [h2]; rfl), decide_eq_true (Or.inr (Or.inl h2))]; rfl
    · rw [if_neg (show ¬ nI k = (47 : Int32) from tk_ne hk (by decide) h2)]
      by_cases h3 : k = 37
      · rw [if_pos (by rw [h3]; rfl), decide_eq_true (Or.inr (Or.inr h3))]; rfl
      · rw [if_neg (show ¬ nI k = (37 : Int32) from tk_ne hk (by decide) h3), decide_eq_false (by omega)]; rfl
theorem lvl_term {N t f d : Nat} {τ : Tape} {G : Nat → Nat → Int32 → St → Option (Int32 × St)} (hN : 20000 ≤ N) (hf : isF f) (hb : ∀ j, j < τ.1 → τ.2 j < 256) (hG : HG τ 7 f d G) : HG τ 6 f d (fun a b c σ => fo_X2_term N (RR t) a b c G σ) := by
  intro p u E σ pre
  refine lvl_loop (t := t) (m := 7) (Fn := fun n x y σ => f_X2_term_10 N (RR t) 2 f (nI d) G n x y σ) (B := fun rec x y σ => b_X2_term_10 N (RR t) 2 f (nI d) G rec x y σ) hN hf rfl (by decide) hG (fun n x y σ => rfl) (fun rec x4 σ => rfl) (fun rec i p1 σ hi e hno => ?_) (fun rec i p1 s σ hi e es hs => ?_) pre
  · have hk := tk_lt (p := p1) hb
    have ho := op_tk _ hk
    unfold b_X2_term_10 f_X2_term_70
    have : ¬ (tk τ p1 = 42 ∨ tk τ p1 = 47 ∨ tk τ p1 = 37) := by
      cases h : opk (tk τ p1) with
      | none => have := ho.2 h; omega
      | some s => exact fun z => hno s h ((ho.1 s h).1.mpr z)
    rw [if_neg (by decide), if_neg (show ¬ (30 : Int32) ≤ nI i from nI_ge hi (by decide)), r_2_0 rfl, e, bnd_e (s_isTimes hk), decide_eq_false this, if_pos (show fl false = 0 from rfl)]
    rfl
  · have hkl := tk_lt (p := p1) hb
    have ho := op_tk _ hkl
    have hk := (ho.1 s es).1.mp hs
    unfold b_X2_term_10
    rw [if_neg (by decide), if_neg (show ¬ (30 : Int32) ≤ nI i from nI_ge hi (by decide)), r_2_0 rfl, e, bnd_e (s_isTimes hkl), decide_eq_true hk, if_neg (by decide), nI_1 i, e, ← (ho.1 s es).2.2.2.2.2]
    rfl
