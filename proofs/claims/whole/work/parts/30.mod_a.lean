/-! WHAT A FUNCTION MAY CHANGE -/
def Ag (S : Nat → Prop) (σ σ' : St) : Prop := ∀ p, ¬ S p → σ'.1 p = σ.1 p ∧ σ'.2 p = σ.2 p
theorem ag_refl {S : Nat → Prop} {σ : St} : Ag S σ σ := fun _ _ => ⟨rfl, rfl⟩
theorem ag_trans {S : Nat → Prop} {σ τ υ : St} (h : Ag S σ τ) (k : Ag S τ υ) : Ag S σ υ := fun p hp => ⟨(k p hp).1.trans (h p hp).1, (k p hp).2.trans (h p hp).2⟩
theorem ag_mono {S S' : Nat → Prop} {σ τ : St} (h : Ag S' σ τ) (hs : ∀ p, S' p → S p) : Ag S σ τ := fun p hp => h p (fun q => hp (hs p q))
theorem ag_call {S S' : Nat → Prop} {σ τ υ : St} (h : Ag S' σ τ) (hs : ∀ p, S' p → S p) (k : Ag S τ υ) : Ag S σ υ := ag_trans (ag_mono h hs) k
theorem ag_I {S : Nat → Prop} {σ τ υ : St} {b j : Nat} {x : Int32} (e : sI σ b j x = τ) (hb : S b) (k : Ag S τ υ) : Ag S σ υ := by
  subst e
  exact ag_trans (fun p hp => ⟨sI_ne (fun z => hp (by rw [z]; exact hb)), rfl⟩) k
theorem ag_J {S : Nat → Prop} {σ τ υ : St} {b j : Nat} {x : Int64} (e : sJ σ b j x = τ) (hb : S b) (k : Ag S τ υ) : Ag S σ υ := by
  subst e
  exact ag_trans (τ := sJ σ b j x) (fun p hp => ⟨rfl, sJ_ne (fun z => hp (by rw [z]; exact hb))⟩) k
theorem ag_C {S : Nat → Prop} {σ τ υ : St} {a b : Nat} {sp dp n : Int32} (e : cpyI σ a b sp dp n = τ) (hb : S b) (k : Ag S τ υ) : Ag S σ υ := by
  subst e
  exact ag_trans (fun p hp => ⟨cpyI_ne (fun z => hp (by rw [z]; exact hb)), rfl⟩) k
theorem ite_some {α : Type} {c : Prop} [Decidable c] {a b : Option α} {r : α} (h : (if c then a else b) = some r) : (c ∧ a = some r) ∨ (¬ c ∧ b = some r) := by
  by_cases hc : c
  · rw [if_pos hc] at h; exact Or.inl ⟨hc, h⟩
  · rw [if_neg hc] at h; exact Or.inr ⟨hc, h⟩

theorem m_J0_checkIndex_df160 {N : Nat} {ρ : Nat → Nat → Nat} {a1 a2 : Int32} {r : Int32} {σr σ : St} (hf : f_J0_checkIndex_df160 N ρ a1 a2 σ = some (r, σr)) : Ag (fun p => False) σ σr := by
  unfold f_J0_checkIndex_df160 at hf
  obtain ⟨_, hf⟩ := gd_some hf
  cases hf
  exact ag_refl
theorem m_J6_bitCount_0f7a4 {N : Nat} {ρ : Nat → Nat → Nat} {a1 : Int32} {r : Int32} {σr : St} {σ : St} (hf : f_J6_bitCount_0f7a4 N ρ a1 σ = some (r, σr)) : Ag (fun p => False) σ σr := by
  unfold f_J6_bitCount_0f7a4 at hf
  obtain ⟨y1, ey1, hf⟩ := nmd_some hf
  obtain ⟨y2, ey2, hf⟩ := nmd_some hf
  obtain ⟨y3, ey3, hf⟩ := nmd_some hf
  obtain ⟨y4, ey4, hf⟩ := nmd_some hf
  obtain ⟨y5, ey5, hf⟩ := nmd_some hf
  cases hf
  exact ag_refl
theorem m_J9_floorDiv_7cf53_21 {N : Nat} {ρ : Nat → Nat → Nat} {a1 : Int32} {a2 : Int32} {r : Int32} {σr : St} (x2 : Int32) (σ : St) (hf : f_J9_floorDiv_7cf53_21 N ρ a1 a2 x2 σ = some (r, σr)) : Ag (fun p => False) σ σr := by
  unfold f_J9_floorDiv_7cf53_21 at hf
  cases hf
  exact ag_refl
theorem m_J9_floorDiv_7cf53 {N : Nat} {ρ : Nat → Nat → Nat} {a1 : Int32} {a2 : Int32} {r : Int32} {σr : St} {σ : St} (hf : f_J9_floorDiv_7cf53 N ρ a1 a2 σ = some (r, σr)) : Ag (fun p => False) σ σr := by
  unfold f_J9_floorDiv_7cf53 at hf
  obtain ⟨_, hf⟩ := gd_some hf
  obtain ⟨y2, ey2, hf⟩ := nmd_some hf
  rcases ite_some hf with ⟨_, hf⟩ | ⟨_, hf⟩
  · skip
    exact m_J9_floorDiv_7cf53_21 _ _ hf
  · skip
    rcases ite_some hf with ⟨_, hf⟩ | ⟨_, hf⟩
    · skip
      exact m_J9_floorDiv_7cf53_21 _ _ hf
    · skip
      cases hf
      exact ag_refl
theorem m_J9_floorMod_7cf53_18 {N : Nat} {ρ : Nat → Nat → Nat} {a1 : Int32} {a2 : Int32} {r : Int32} {σr : St} (x2 : Int32) (σ : St) (hf : f_J9_floorMod_7cf53_18 N ρ a1 a2 x2 σ = some (r, σr)) : Ag (fun p => False) σ σr := by
  unfold f_J9_floorMod_7cf53_18 at hf
  cases hf
  exact ag_refl
theorem m_J9_floorMod_7cf53 {N : Nat} {ρ : Nat → Nat → Nat} {a1 : Int32} {a2 : Int32} {r : Int32} {σr : St} {σ : St} (hf : f_J9_floorMod_7cf53 N ρ a1 a2 σ = some (r, σr)) : Ag (fun p => False) σ σr := by
  unfold f_J9_floorMod_7cf53 at hf
  obtain ⟨_, hf⟩ := gd_some hf
  obtain ⟨y2, ey2, hf⟩ := nmd_some hf
  rcases ite_some hf with ⟨_, hf⟩ | ⟨_, hf⟩
  · skip
    exact m_J9_floorMod_7cf53_18 _ _ hf
  · skip
    rcases ite_some hf with ⟨_, hf⟩ | ⟨_, hf⟩
    · skip
      exact m_J9_floorMod_7cf53_18 _ _ hf
    · skip
      cases hf
      exact ag_refl
theorem k_J7_fill_53178_5 {N : Nat} {ρ : Nat → Nat → Nat} {a1 n1 : Nat} {a2 : Int32} {r : Int32} {σr : St} (rec5 : Int32 → Int32 → St → Option (Int32 × St)) (hrec5 : ∀ (x2 : Int32) (x3 : Int32) (σ : St), rec5 x2 x3 σ = some (r, σr) → Ag (fun p => p = a1) σ σr) (x2 : Int32) (x3 : Int32) (σ : St) (hf : b_J7_fill_53178_5 N ρ a1 n1 a2 rec5 x2 x3 σ = some (r, σr)) : Ag (fun p => p = a1) σ σr := by
  unfold b_J7_fill_53178_5 at hf
  rcases ite_some hf with ⟨_, hf⟩ | ⟨_, hf⟩
  · skip
    cases hf
    exact ag_refl
  · skip
    obtain ⟨_, hf⟩ := gd_some hf
    obtain ⟨σ3, eσ3, hf⟩ := nmd_some hf
    refine ag_I eσ3 rfl ?_
    exact hrec5 _ _ _ hf
theorem m_J7_fill_53178_5 {N : Nat} {ρ : Nat → Nat → Nat} {a1 n1 : Nat} {a2 : Int32} {r : Int32} {σr : St} : ∀ (n : Nat) (x2 : Int32) (x3 : Int32) (σ : St), f_J7_fill_53178_5 N ρ a1 n1 a2 n x2 x3 σ = some (r, σr) → Ag (fun p => p = a1) σ σr := by
  intro n
  induction n with
  | zero => intro x2 x3 σ hf; cases hf
  | succ n ih => intro x2 x3 σ hf; exact k_J7_fill_53178_5 _ ih x2 x3 σ hf
theorem m_J7_fill_53178 {N : Nat} {ρ : Nat → Nat → Nat} {a1 n1 : Nat} {a2 : Int32} {r : Int32} {σr : St} {σ : St} (hf : f_J7_fill_53178 N ρ a1 n1 a2 σ = some (r, σr)) : Ag (fun p => p = a1) σ σr := by
  unfold f_J7_fill_53178 at hf
  obtain ⟨y4, ey4, hf⟩ := nmd_some hf
  exact m_J7_fill_53178_5 N _ _ _ hf
theorem m_J0_coder_7d493_14 {N : Nat} {ρ : Nat → Nat → Nat} {i : Nat} {r : Int32} {σr : St} (s0 : Int32) (σ : St) (hf : f_J0_coder_7d493_14 N ρ i s0 σ = some (r, σr)) : Ag (fun p => False) σ σr := by
  unfold f_J0_coder_7d493_14 at hf
  obtain ⟨_, hf⟩ := gd_some hf
  cases hf
  exact ag_refl
theorem m_J0_coder_7d493 {N : Nat} {ρ : Nat → Nat → Nat} {i : Nat} {r : Int32} {σr : St} {σ : St} (hf : f_J0_coder_7d493 N ρ i σ = some (r, σr)) : Ag (fun p => False) σ σr := by
  unfold f_J0_coder_7d493 at hf
  rcases ite_some hf with ⟨_, hf⟩ | ⟨_, hf⟩
  · skip
    exact m_J0_coder_7d493_14 _ _ hf
  · skip
    exact m_J0_coder_7d493_14 _ _ hf
theorem m_J0_length_8abf5 {N : Nat} {ρ : Nat → Nat → Nat} {i : Nat} {r : Int32} {σr : St} {σ : St} (hf : f_J0_length_8abf5 N ρ i σ = some (r, σr)) : Ag (fun p => False) σ σr := by
  unfold f_J0_length_8abf5 at hf
  obtain ⟨_, σ2, q1, hf⟩ := bnd_some hf
  refine ag_call (m_J0_coder_7d493 q1) (fun _ h => h.elim) ?_
  cases hf
  exact ag_refl
theorem m_J0_isLatin1_aae02_18 {N : Nat} {ρ : Nat → Nat → Nat} {i : Nat} {r : Int32} {σr : St} (s0 : Int32) (σ : St) (hf : f_J0_isLatin1_aae02_18 N ρ i s0 σ = some (r, σr)) : Ag (fun p => False) σ σr := by
  unfold f_J0_isLatin1_aae02_18 at hf
  obtain ⟨_, hf⟩ := gd_some hf
  cases hf
  exact ag_refl
theorem m_J0_isLatin1_aae02_17 {N : Nat} {ρ : Nat → Nat → Nat} {i : Nat} {r : Int32} {σr : St} (σ : St) (hf : f_J0_isLatin1_aae02_17 N ρ i σ = some (r, σr)) : Ag (fun p => False) σ σr := by
  unfold f_J0_isLatin1_aae02_17 at hf
  exact m_J0_isLatin1_aae02_18 _ _ hf
theorem m_J0_isLatin1_aae02 {N : Nat} {ρ : Nat → Nat → Nat} {i : Nat} {r : Int32} {σr : St} {σ : St} (hf : f_J0_isLatin1_aae02 N ρ i σ = some (r, σr)) : Ag (fun p => False) σ σr := by
  unfold f_J0_isLatin1_aae02 at hf
  rcases ite_some hf with ⟨_, hf⟩ | ⟨_, hf⟩
  · skip
    exact m_J0_isLatin1_aae02_17 _ hf
  · skip
    rcases ite_some hf with ⟨_, hf⟩ | ⟨_, hf⟩
    · skip
      exact m_J0_isLatin1_aae02_18 _ _ hf
    · skip
      exact m_J0_isLatin1_aae02_17 _ hf
theorem m_J1_charAt_3b067 {N : Nat} {ρ : Nat → Nat → Nat} {a1 : Nat} {a2 : Int32} {r : Int32} {σr : St} {σ : St} (hf : f_J1_charAt_3b067 N ρ a1 a2 σ = some (r, σr)) : Ag (fun p => False) σ σr := by
  unfold f_J1_charAt_3b067 at hf
  obtain ⟨_, σ2, q1, hf⟩ := bnd_some hf
  refine ag_call (m_J0_checkIndex_df160 q1) (fun _ h => h.elim) ?_
  obtain ⟨_, hf⟩ := gd_some hf
  obtain ⟨_, hf⟩ := gd_some hf
  cases hf
  exact ag_refl
theorem m_J0_charAt_5068e {N : Nat} {ρ : Nat → Nat → Nat} {i : Nat} {a1 : Int32} {r : Int32} {σr : St} {σ : St} (hf : f_J0_charAt_5068e N ρ i a1 σ = some (r, σr)) : Ag (fun p => False) σ σr := by
  unfold f_J0_charAt_5068e at hf
  obtain ⟨_, σ2, q1, hf⟩ := bnd_some hf
  refine ag_call (m_J0_isLatin1_aae02 q1) (fun _ h => h.elim) ?_
  rcases ite_some hf with ⟨_, hf⟩ | ⟨_, hf⟩
  · skip
    cases hf
  · skip
    obtain ⟨_, σ6, q2, hf⟩ := bnd_some hf
    refine ag_call (m_J1_charAt_3b067 q2) (fun _ h => h.elim) ?_
    obtain ⟨_, hf⟩ := gd_some hf
    cases hf
    exact ag_refl
theorem m_J1_canEncode_9a6ad_16 {N : Nat} {ρ : Nat → Nat → Nat} {a1 : Int32} {r : Int32} {σr : St} (s0 : Int32) (σ : St) (hf : f_J1_canEncode_9a6ad_16 N ρ a1 s0 σ = some (r, σr)) : Ag (fun p => False) σ σr := by
  unfold f_J1_canEncode_9a6ad_16 at hf
  obtain ⟨_, hf⟩ := gd_some hf
  cases hf
  exact ag_refl
theorem m_J1_canEncode_9a6ad_15 {N : Nat} {ρ : Nat → Nat → Nat} {a1 : Int32} {r : Int32} {σr : St} (σ : St) (hf : f_J1_canEncode_9a6ad_15 N ρ a1 σ = some (r, σr)) : Ag (fun p => False) σ σr := by
  unfold f_J1_canEncode_9a6ad_15 at hf
  exact m_J1_canEncode_9a6ad_16 _ _ hf
theorem m_J1_canEncode_9a6ad {N : Nat} {ρ : Nat → Nat → Nat} {a1 : Int32} {r : Int32} {σr : St} {σ : St} (hf : f_J1_canEncode_9a6ad N ρ a1 σ = some (r, σr)) : Ag (fun p => False) σ σr := by
  unfold f_J1_canEncode_9a6ad at hf
  rcases ite_some hf with ⟨_, hf⟩ | ⟨_, hf⟩
  · skip
    exact m_J1_canEncode_9a6ad_15 _ hf
  · skip
    rcases ite_some hf with ⟨_, hf⟩ | ⟨_, hf⟩
    · skip
      exact m_J1_canEncode_9a6ad_15 _ hf
    · skip
      exact m_J1_canEncode_9a6ad_16 _ _ hf
theorem k_J1_indexOfChar_4cfef_7 {N : Nat} {ρ : Nat → Nat → Nat} {a1 : Nat} {a2 : Int32} {a3 : Int32} {a4 : Int32} {r : Int32} {σr : St} (rec7 : Int32 → Int32 → St → Option (Int32 × St)) (hrec7 : ∀ (x4 : Int32) (x5 : Int32) (σ : St), rec7 x4 x5 σ = some (r, σr) → Ag (fun p => False) σ σr) (x4 : Int32) (x5 : Int32) (σ : St) (hf : b_J1_indexOfChar_4cfef_7 N ρ a1 a2 a3 a4 rec7 x4 x5 σ = some (r, σr)) : Ag (fun p => False) σ σr := by
  unfold b_J1_indexOfChar_4cfef_7 at hf
  rcases ite_some hf with ⟨_, hf⟩ | ⟨_, hf⟩
  · skip
    cases hf
    exact ag_refl
  · skip
    obtain ⟨_, hf⟩ := gd_some hf
    rcases ite_some hf with ⟨_, hf⟩ | ⟨_, hf⟩
    · skip
      cases hf
      exact ag_refl
    · skip
      exact hrec7 _ _ _ hf
theorem m_J1_indexOfChar_4cfef_7 {N : Nat} {ρ : Nat → Nat → Nat} {a1 : Nat} {a2 : Int32} {a3 : Int32} {a4 : Int32} {r : Int32} {σr : St} : ∀ (n : Nat) (x4 : Int32) (x5 : Int32) (σ : St), f_J1_indexOfChar_4cfef_7 N ρ a1 a2 a3 a4 n x4 x5 σ = some (r, σr) → Ag (fun p => False) σ σr := by
  intro n
  induction n with
  | zero => intro x4 x5 σ hf; cases hf
  | succ n ih => intro x4 x5 σ hf; exact k_J1_indexOfChar_4cfef_7 _ ih x4 x5 σ hf
theorem m_J1_indexOfChar_4cfef {N : Nat} {ρ : Nat → Nat → Nat} {a1 : Nat} {a2 : Int32} {a3 : Int32} {a4 : Int32} {r : Int32} {σr : St} {σ : St} (hf : f_J1_indexOfChar_4cfef N ρ a1 a2 a3 a4 σ = some (r, σr)) : Ag (fun p => False) σ σr := by
  unfold f_J1_indexOfChar_4cfef at hf
  obtain ⟨y4, ey4, hf⟩ := nmd_some hf
  exact m_J1_indexOfChar_4cfef_7 N _ _ _ hf
theorem m_J1_indexOf_4cfef {N : Nat} {ρ : Nat → Nat → Nat} {a1 : Nat} {a2 : Int32} {a3 : Int32} {a4 : Int32} {r : Int32} {σr : St} {σ : St} (hf : f_J1_indexOf_4cfef N ρ a1 a2 a3 a4 σ = some (r, σr)) : Ag (fun p => False) σ σr := by
  unfold f_J1_indexOf_4cfef at hf
  obtain ⟨_, σ2, q1, hf⟩ := bnd_some hf
  refine ag_call (m_J1_canEncode_9a6ad q1) (fun _ h => h.elim) ?_
  rcases ite_some hf with ⟨_, hf⟩ | ⟨_, hf⟩
  · skip
    cases hf
    exact ag_refl
  · skip
    obtain ⟨y5, ey5, hf⟩ := nmd_some hf
    obtain ⟨y6, ey6, hf⟩ := nmd_some hf
    rcases ite_some hf with ⟨_, hf⟩ | ⟨_, hf⟩
    · skip
      obtain ⟨_, σ9, q2, hf⟩ := bnd_some hf
      refine ag_call (m_J1_indexOfChar_4cfef q2) (fun _ h => h.elim) ?_
      cases hf
      exact ag_refl
    · skip
      cases hf
      exact ag_refl
theorem m_J0_indexOf_7cf53_36 {N : Nat} {ρ : Nat → Nat → Nat} {i : Nat} {a1 : Int32} {a2 : Int32} {r : Int32} {σr : St} (s0 : Int32) (σ : St) (hf : f_J0_indexOf_7cf53_36 N ρ i a1 a2 s0 σ = some (r, σr)) : Ag (fun p => False) σ σr := by
  unfold f_J0_indexOf_7cf53_36 at hf
  cases hf
  exact ag_refl
theorem m_J0_indexOf_7cf53 {N : Nat} {ρ : Nat → Nat → Nat} {i : Nat} {a1 : Int32} {a2 : Int32} {r : Int32} {σr : St} {σ : St} (hf : f_J0_indexOf_7cf53 N ρ i a1 a2 σ = some (r, σr)) : Ag (fun p => False) σ σr := by
  unfold f_J0_indexOf_7cf53 at hf
  obtain ⟨_, σ2, q1, hf⟩ := bnd_some hf
  refine ag_call (m_J0_isLatin1_aae02 q1) (fun _ h => h.elim) ?_
  rcases ite_some hf with ⟨_, hf⟩ | ⟨_, hf⟩
  · skip
    cases hf
  · skip
    obtain ⟨_, σ6, q2, hf⟩ := bnd_some hf
    refine ag_call (m_J0_length_8abf5 q2) (fun _ h => h.elim) ?_
    obtain ⟨_, σ9, q3, hf⟩ := bnd_some hf
    refine ag_call (m_J1_indexOf_4cfef q3) (fun _ h => h.elim) ?_
    exact m_J0_indexOf_7cf53_36 _ _ hf
theorem m_J0_indexOf_0f7a4 {N : Nat} {ρ : Nat → Nat → Nat} {i : Nat} {a1 : Int32} {r : Int32} {σr : St} {σ : St} (hf : f_J0_indexOf_0f7a4 N ρ i a1 σ = some (r, σr)) : Ag (fun p => False) σ σr := by
  unfold f_J0_indexOf_0f7a4 at hf
  obtain ⟨_, σ2, q1, hf⟩ := bnd_some hf
  refine ag_call (m_J0_indexOf_7cf53 q1) (fun _ h => h.elim) ?_
  cases hf
  exact ag_refl
theorem m_X1_clear {N : Nat} {ρ : Nat → Nat → Nat} {this : Nat} {r : Int32} {σr : St} {σ : St} (hf : f_X1_clear N ρ this σ = some (r, σr)) : Ag (fun p => p = this) σ σr := by
  unfold f_X1_clear at hf
  obtain ⟨σ1, eσ1, hf⟩ := nmd_some hf
  refine ag_I eσ1 rfl ?_
  obtain ⟨σ2, eσ2, hf⟩ := nmd_some hf
  refine ag_I eσ2 rfl ?_
  cases hf
  exact ag_refl
theorem m_X1_isTold_12 {N : Nat} {ρ : Nat → Nat → Nat} {this : Nat} {r : Int32} {σr : St} (s0 : Int32) (σ : St) (hf : f_X1_isTold_12 N ρ this s0 σ = some (r, σr)) : Ag (fun p => False) σ σr := by
  unfold f_X1_isTold_12 at hf
  obtain ⟨_, hf⟩ := gd_some hf
  cases hf
  exact ag_refl
theorem m_X1_isTold {N : Nat} {ρ : Nat → Nat → Nat} {this : Nat} {r : Int32} {σr : St} {σ : St} (hf : f_X1_isTold N ρ this σ = some (r, σr)) : Ag (fun p => False) σ σr := by
  unfold f_X1_isTold at hf
  rcases ite_some hf with ⟨_, hf⟩ | ⟨_, hf⟩
  · skip
    exact m_X1_isTold_12 _ _ hf
  · skip
    exact m_X1_isTold_12 _ _ hf
theorem m_X1_add_37 {N : Nat} {ρ : Nat → Nat → Nat} {this : Nat} {a1 : Int32} {r : Int32} {σr : St} (σ : St) (hf : f_X1_add_37 N ρ this a1 σ = some (r, σr)) : Ag (fun p => p = ρ this 0 ∨ p = this) σ σr := by
  unfold f_X1_add_37 at hf
  cases hf
  exact ag_refl
theorem m_X1_add {N : Nat} {ρ : Nat → Nat → Nat} {this : Nat} {a1 : Int32} {r : Int32} {σr : St} {σ : St} (hf : f_X1_add N ρ this a1 σ = some (r, σr)) : Ag (fun p => p = ρ this 0 ∨ p = this) σ σr := by
  unfold f_X1_add at hf
  rcases ite_some hf with ⟨_, hf⟩ | ⟨_, hf⟩
  · skip
    exact m_X1_add_37 _ hf
  · skip
    rcases ite_some hf with ⟨_, hf⟩ | ⟨_, hf⟩
    · skip
      exact m_X1_add_37 _ hf
    · skip
      obtain ⟨_, hf⟩ := gd_some hf
      obtain ⟨σ4, eσ4, hf⟩ := nmd_some hf
      refine ag_I eσ4 (Or.inl rfl) ?_
      obtain ⟨σ5, eσ5, hf⟩ := nmd_some hf
      refine ag_I eσ5 (Or.inr rfl) ?_
      exact m_X1_add_37 _ hf
theorem m_X1_joined_166 {N : Nat} {ρ : Nat → Nat → Nat} {a1 : Int32} {a2 : Int32} {a3 : Int32} {r : Int32} {σr : St} (s0 : Int32) (σ : St) (hf : f_X1_joined_166 N ρ a1 a2 a3 s0 σ = some (r, σr)) : Ag (fun p => False) σ σr := by
  unfold f_X1_joined_166 at hf
  cases hf
  exact ag_refl
theorem m_X1_joined_165 {N : Nat} {ρ : Nat → Nat → Nat} {a1 : Int32} {a2 : Int32} {a3 : Int32} {r : Int32} {σr : St} (σ : St) (hf : f_X1_joined_165 N ρ a1 a2 a3 σ = some (r, σr)) : Ag (fun p => False) σ σr := by
  unfold f_X1_joined_165 at hf
  exact m_X1_joined_166 _ _ hf
theorem m_X1_joined_119 {N : Nat} {ρ : Nat → Nat → Nat} {a1 : Int32} {a2 : Int32} {a3 : Int32} {r : Int32} {σr : St} (s0 : Int32) (σ : St) (hf : f_X1_joined_119 N ρ a1 a2 a3 s0 σ = some (r, σr)) : Ag (fun p => False) σ σr := by
  unfold f_X1_joined_119 at hf
  cases hf
  exact ag_refl
theorem m_X1_joined_107 {N : Nat} {ρ : Nat → Nat → Nat} {a1 : Int32} {a2 : Int32} {a3 : Int32} {r : Int32} {σr : St} (s0 : Int32) (σ : St) (hf : f_X1_joined_107 N ρ a1 a2 a3 s0 σ = some (r, σr)) : Ag (fun p => False) σ σr := by
  unfold f_X1_joined_107 at hf
  cases hf
  exact ag_refl
theorem m_X1_joined_130 {N : Nat} {ρ : Nat → Nat → Nat} {a1 : Int32} {a2 : Int32} {a3 : Int32} {r : Int32} {σr : St} (s0 : Int32) (σ : St) (hf : f_X1_joined_130 N ρ a1 a2 a3 s0 σ = some (r, σr)) : Ag (fun p => False) σ σr := by
  unfold f_X1_joined_130 at hf
  cases hf
  exact ag_refl
theorem m_X1_joined_152 {N : Nat} {ρ : Nat → Nat → Nat} {a1 : Int32} {a2 : Int32} {a3 : Int32} {r : Int32} {σr : St} (s0 : Int32) (σ : St) (hf : f_X1_joined_152 N ρ a1 a2 a3 s0 σ = some (r, σr)) : Ag (fun p => False) σ σr := by
  unfold f_X1_joined_152 at hf
  cases hf
  exact ag_refl
theorem m_X1_joined_141 {N : Nat} {ρ : Nat → Nat → Nat} {a1 : Int32} {a2 : Int32} {a3 : Int32} {r : Int32} {σr : St} (s0 : Int32) (σ : St) (hf : f_X1_joined_141 N ρ a1 a2 a3 s0 σ = some (r, σr)) : Ag (fun p => False) σ σr := by
  unfold f_X1_joined_141 at hf
  cases hf
  exact ag_refl
theorem m_X1_joined_180 {N : Nat} {ρ : Nat → Nat → Nat} {a1 : Int32} {a2 : Int32} {a3 : Int32} {r : Int32} {σr : St} (s0 : Int32) (σ : St) (hf : f_X1_joined_180 N ρ a1 a2 a3 s0 σ = some (r, σr)) : Ag (fun p => False) σ σr := by
  unfold f_X1_joined_180 at hf
  cases hf
  exact ag_refl
theorem m_X1_joined_175 {N : Nat} {ρ : Nat → Nat → Nat} {a1 : Int32} {a2 : Int32} {a3 : Int32} {r : Int32} {σr : St} (σ : St) (hf : f_X1_joined_175 N ρ a1 a2 a3 σ = some (r, σr)) : Ag (fun p => False) σ σr := by
  unfold f_X1_joined_175 at hf
  exact m_X1_joined_180 _ _ hf
theorem m_X1_joined {N : Nat} {ρ : Nat → Nat → Nat} {a1 : Int32} {a2 : Int32} {a3 : Int32} {r : Int32} {σr : St} {σ : St} (hf : f_X1_joined N ρ a1 a2 a3 σ = some (r, σr)) : Ag (fun p => False) σ σr := by
  unfold f_X1_joined at hf
  rcases ite_some hf with ⟨_, hf⟩ | ⟨_, hf⟩
  · skip
    rcases ite_some hf with ⟨_, hf⟩ | ⟨_, hf⟩
    · skip
      exact m_X1_joined_165 _ hf
    · skip
      rcases ite_some hf with ⟨_, hf⟩ | ⟨_, hf⟩
      · skip
        exact m_X1_joined_165 _ hf
      · skip
        exact m_X1_joined_166 _ _ hf
  · skip
    rcases ite_some hf with ⟨_, hf⟩ | ⟨_, hf⟩
    · skip
      rcases ite_some hf with ⟨_, hf⟩ | ⟨_, hf⟩
      · skip
        exact m_X1_joined_119 _ _ hf
      · skip
        obtain ⟨_, hf⟩ := gd_some hf
        exact m_X1_joined_119 _ _ hf
    · skip
      rcases ite_some hf with ⟨_, hf⟩ | ⟨_, hf⟩
      · skip
        cases hf
        exact ag_refl
      · skip
        rcases ite_some hf with ⟨_, hf⟩ | ⟨_, hf⟩
        · skip
          cases hf
          exact ag_refl
        · skip
          rcases ite_some hf with ⟨_, hf⟩ | ⟨_, hf⟩
          · skip
            cases hf
            exact ag_refl
          · skip
            rcases ite_some hf with ⟨_, hf⟩ | ⟨_, hf⟩
            · skip
              rcases ite_some hf with ⟨_, hf⟩ | ⟨_, hf⟩
              · skip
                exact m_X1_joined_107 _ _ hf
              · skip
                obtain ⟨_, hf⟩ := gd_some hf
                exact m_X1_joined_107 _ _ hf
            · skip
              rcases ite_some hf with ⟨_, hf⟩ | ⟨_, hf⟩
              · skip
                rcases ite_some hf with ⟨_, hf⟩ | ⟨_, hf⟩
                · skip
                  exact m_X1_joined_130 _ _ hf
                · skip
                  exact m_X1_joined_130 _ _ hf
              · skip
                rcases ite_some hf with ⟨_, hf⟩ | ⟨_, hf⟩
                · skip
                  rcases ite_some hf with ⟨_, hf⟩ | ⟨_, hf⟩
                  · skip
                    exact m_X1_joined_152 _ _ hf
                  · skip
                    exact m_X1_joined_152 _ _ hf
                · skip
                  rcases ite_some hf with ⟨_, hf⟩ | ⟨_, hf⟩
                  · skip
                    rcases ite_some hf with ⟨_, hf⟩ | ⟨_, hf⟩
                    · skip
                      exact m_X1_joined_141 _ _ hf
                    · skip
                      exact m_X1_joined_141 _ _ hf
                  · skip
                    rcases ite_some hf with ⟨_, hf⟩ | ⟨_, hf⟩
                    · skip
                      rcases ite_some hf with ⟨_, hf⟩ | ⟨_, hf⟩
                      · skip
                        exact m_X1_joined_180 _ _ hf
                      · skip
                        exact m_X1_joined_175 _ hf
                    · skip
                      exact m_X1_joined_175 _ hf
theorem m_X1_valueBy_149 {N : Nat} {ρ : Nat → Nat → Nat} {this : Nat} {a1 n1 : Nat} {r : Int32} {σr : St} (rec4 : Int32 → Int32 → St → Option (Int32 × St)) (hrec4 : ∀ (x2 : Int32) (x3 : Int32) (σ : St), rec4 x2 x3 σ = some (r, σr) → Ag (fun p => p = ρ this 1) σ σr) (x2 : Int32) (x3 : Int32) (σ : St) (hf : f_X1_valueBy_149 N ρ this a1 n1 rec4 x2 x3 σ = some (r, σr)) : Ag (fun p => p = ρ this 1) σ σr := by
  unfold f_X1_valueBy_149 at hf
  exact hrec4 _ _ _ hf
theorem m_X1_valueBy_68 {N : Nat} {ρ : Nat → Nat → Nat} {this : Nat} {a1 n1 : Nat} {r : Int32} {σr : St} (rec4 : Int32 → Int32 → St → Option (Int32 × St)) (hrec4 : ∀ (x2 : Int32) (x3 : Int32) (σ : St), rec4 x2 x3 σ = some (r, σr) → Ag (fun p => p = ρ this 1) σ σr) (x2 : Int32) (x3 : Int32) (s0 : Int32) (s1 : Int32) (σ : St) (hf : f_X1_valueBy_68 N ρ this a1 n1 rec4 x2 x3 s0 s1 σ = some (r, σr)) : Ag (fun p => p = ρ this 1) σ σr := by
  unfold f_X1_valueBy_68 at hf
  obtain ⟨_, hf⟩ := gd_some hf
  obtain ⟨σ2, eσ2, hf⟩ := nmd_some hf
  refine ag_I eσ2 rfl ?_
  exact m_X1_valueBy_149 rec4 hrec4 _ _ _ hf
theorem m_X1_valueBy_58 {N : Nat} {ρ : Nat → Nat → Nat} {this : Nat} {a1 n1 : Nat} {r : Int32} {σr : St} (rec4 : Int32 → Int32 → St → Option (Int32 × St)) (hrec4 : ∀ (x2 : Int32) (x3 : Int32) (σ : St), rec4 x2 x3 σ = some (r, σr) → Ag (fun p => p = ρ this 1) σ σr) (x2 : Int32) (x3 : Int32) (x4 : Int32) (s0 : Int32) (σ : St) (hf : f_X1_valueBy_58 N ρ this a1 n1 rec4 x2 x3 x4 s0 σ = some (r, σr)) : Ag (fun p => p = ρ this 1) σ σr := by
  unfold f_X1_valueBy_58 at hf
  exact m_X1_valueBy_68 rec4 hrec4 _ _ _ _ _ hf
theorem m_X1_valueBy_109 {N : Nat} {ρ : Nat → Nat → Nat} {this : Nat} {a1 n1 : Nat} {r : Int32} {σr : St} (rec4 : Int32 → Int32 → St → Option (Int32 × St)) (hrec4 : ∀ (x2 : Int32) (x3 : Int32) (σ : St), rec4 x2 x3 σ = some (r, σr) → Ag (fun p => p = ρ this 1) σ σr) (x2 : Int32) (x3 : Int32) (s0 : Int32) (s1 : Int32) (σ : St) (hf : f_X1_valueBy_109 N ρ this a1 n1 rec4 x2 x3 s0 s1 σ = some (r, σr)) : Ag (fun p => p = ρ this 1) σ σr := by
  unfold f_X1_valueBy_109 at hf
  obtain ⟨_, hf⟩ := gd_some hf
  obtain ⟨σ4, eσ4, hf⟩ := nmd_some hf
  refine ag_I eσ4 rfl ?_
  exact m_X1_valueBy_149 rec4 hrec4 _ _ _ hf
theorem m_X1_valueBy_169 {N : Nat} {ρ : Nat → Nat → Nat} {this : Nat} {a1 n1 : Nat} {r : Int32} {σr : St} (s0 : Int32) (σ : St) (hf : f_X1_valueBy_169 N ρ this a1 n1 s0 σ = some (r, σr)) : Ag (fun p => p = ρ this 1) σ σr := by
  unfold f_X1_valueBy_169 at hf
  cases hf
  exact ag_refl
theorem m_X1_valueBy_155 {N : Nat} {ρ : Nat → Nat → Nat} {this : Nat} {a1 n1 : Nat} {r : Int32} {σr : St} (x2 : Int32) (σ : St) (hf : f_X1_valueBy_155 N ρ this a1 n1 x2 σ = some (r, σr)) : Ag (fun p => p = ρ this 1) σ σr := by
  unfold f_X1_valueBy_155 at hf
  rcases ite_some hf with ⟨_, hf⟩ | ⟨_, hf⟩
  · skip
    exact m_X1_valueBy_169 _ _ hf
  · skip
    obtain ⟨_, hf⟩ := gd_some hf
    exact m_X1_valueBy_169 _ _ hf
theorem k_X1_valueBy_4 {N : Nat} {ρ : Nat → Nat → Nat} {this : Nat} {a1 n1 : Nat} {r : Int32} {σr : St} (rec4 : Int32 → Int32 → St → Option (Int32 × St)) (hrec4 : ∀ (x2 : Int32) (x3 : Int32) (σ : St), rec4 x2 x3 σ = some (r, σr) → Ag (fun p => p = ρ this 1) σ σr) (x2 : Int32) (x3 : Int32) (σ : St) (hf : b_X1_valueBy_4 N ρ this a1 n1 rec4 x2 x3 σ = some (r, σr)) : Ag (fun p => p = ρ this 1) σ σr := by
  unfold b_X1_valueBy_4 at hf
  rcases ite_some hf with ⟨_, hf⟩ | ⟨_, hf⟩
  · skip
    exact m_X1_valueBy_155 _ _ hf
  · skip
    rcases ite_some hf with ⟨_, hf⟩ | ⟨_, hf⟩
    · skip
      exact m_X1_valueBy_155 _ _ hf
    · skip
      obtain ⟨_, hf⟩ := gd_some hf
      obtain ⟨y10, ey10, hf⟩ := nmd_some hf
      rcases ite_some hf with ⟨_, hf⟩ | ⟨_, hf⟩
      · skip
        rcases ite_some hf with ⟨_, hf⟩ | ⟨_, hf⟩
        · skip
          rcases ite_some hf with ⟨_, hf⟩ | ⟨_, hf⟩
          · skip
            exact m_X1_valueBy_149 rec4 hrec4 _ _ _ hf
          · skip
            obtain ⟨_, hf⟩ := gd_some hf
            rcases ite_some hf with ⟨_, hf⟩ | ⟨_, hf⟩
            · skip
              exact m_X1_valueBy_109 rec4 hrec4 _ _ _ _ _ hf
            · skip
              exact m_X1_valueBy_109 rec4 hrec4 _ _ _ _ _ hf
        · skip
          rcases ite_some hf with ⟨_, hf⟩ | ⟨_, hf⟩
          · skip
            exact m_X1_valueBy_149 rec4 hrec4 _ _ _ hf
          · skip
            obtain ⟨_, hf⟩ := gd_some hf
            obtain ⟨_, hf⟩ := gd_some hf
            obtain ⟨_, σ17, q1, hf⟩ := bnd_some hf
            refine ag_call (m_X1_joined q1) (fun _ h => h.elim) ?_
            obtain ⟨_, hf⟩ := gd_some hf
            obtain ⟨σ20, eσ20, hf⟩ := nmd_some hf
            refine ag_I eσ20 rfl ?_
            exact m_X1_valueBy_149 rec4 hrec4 _ _ _ hf
      · skip
        rcases ite_some hf with ⟨_, hf⟩ | ⟨_, hf⟩
        · skip
          exact m_X1_valueBy_149 rec4 hrec4 _ _ _ hf
        · skip
          rcases ite_some hf with ⟨_, hf⟩ | ⟨_, hf⟩
          · skip
            exact m_X1_valueBy_58 rec4 hrec4 _ _ _ _ _ hf
          · skip
            rcases ite_some hf with ⟨_, hf⟩ | ⟨_, hf⟩
            · skip
              obtain ⟨_, hf⟩ := gd_some hf
              exact m_X1_valueBy_68 rec4 hrec4 _ _ _ _ _ hf
            · skip
              exact m_X1_valueBy_58 rec4 hrec4 _ _ _ _ _ hf
theorem m_X1_valueBy_4 {N : Nat} {ρ : Nat → Nat → Nat} {this : Nat} {a1 n1 : Nat} {r : Int32} {σr : St} : ∀ (n : Nat) (x2 : Int32) (x3 : Int32) (σ : St), f_X1_valueBy_4 N ρ this a1 n1 n x2 x3 σ = some (r, σr) → Ag (fun p => p = ρ this 1) σ σr := by
  intro n
  induction n with
  | zero => intro x2 x3 σ hf; cases hf
  | succ n ih => intro x2 x3 σ hf; exact k_X1_valueBy_4 _ ih x2 x3 σ hf
theorem m_X1_valueBy {N : Nat} {ρ : Nat → Nat → Nat} {this : Nat} {a1 n1 : Nat} {r : Int32} {σr : St} {σ : St} (hf : f_X1_valueBy N ρ this a1 n1 σ = some (r, σr)) : Ag (fun p => p = ρ this 1) σ σr := by
  unfold f_X1_valueBy at hf
  exact m_X1_valueBy_4 N _ _ _ hf
theorem m_X10_hasRoomFor_17 {N : Nat} {ρ : Nat → Nat → Nat} {this : Nat} {a1 : Int32} {r : Int32} {σr : St} (s0 : Int32) (σ : St) (hf : f_X10_hasRoomFor_17 N ρ this a1 s0 σ = some (r, σr)) : Ag (fun p => False) σ σr := by
  unfold f_X10_hasRoomFor_17 at hf
  obtain ⟨_, hf⟩ := gd_some hf
  cases hf
  exact ag_refl
theorem m_X10_hasRoomFor {N : Nat} {ρ : Nat → Nat → Nat} {this : Nat} {a1 : Int32} {r : Int32} {σr : St} {σ : St} (hf : f_X10_hasRoomFor N ρ this a1 σ = some (r, σr)) : Ag (fun p => False) σ σr := by
  unfold f_X10_hasRoomFor at hf
  rcases ite_some hf with ⟨_, hf⟩ | ⟨_, hf⟩
  · skip
    exact m_X10_hasRoomFor_17 _ _ hf
  · skip
    exact m_X10_hasRoomFor_17 _ _ hf
theorem m_X10_put_47 {N : Nat} {ρ : Nat → Nat → Nat} {this : Nat} {a1 : Int32} {r : Int32} {σr : St} (rec3 : Int32 → St → Option (Int32 × St)) (hrec3 : ∀ (x2 : Int32) (σ : St), rec3 x2 σ = some (r, σr) → Ag (fun p => p = ρ this 0 ∨ p = this) σ σr) (x2 : Int32) (σ : St) (hf : f_X10_put_47 N ρ this a1 rec3 x2 σ = some (r, σr)) : Ag (fun p => p = ρ this 0 ∨ p = this) σ σr := by
  unfold f_X10_put_47 at hf
  exact hrec3 _ _ hf
theorem k_X10_put_3 {N : Nat} {ρ : Nat → Nat → Nat} {this : Nat} {a1 : Int32} {r : Int32} {σr : St} (rec3 : Int32 → St → Option (Int32 × St)) (hrec3 : ∀ (x2 : Int32) (σ : St), rec3 x2 σ = some (r, σr) → Ag (fun p => p = ρ this 0 ∨ p = this) σ σr) (x2 : Int32) (σ : St) (hf : b_X10_put_3 N ρ this a1 rec3 x2 σ = some (r, σr)) : Ag (fun p => p = ρ this 0 ∨ p = this) σ σr := by
  unfold b_X10_put_3 at hf
  rcases ite_some hf with ⟨_, hf⟩ | ⟨_, hf⟩
  · skip
    cases hf
    exact ag_refl
  · skip
    rcases ite_some hf with ⟨_, hf⟩ | ⟨_, hf⟩
    · skip
      exact m_X10_put_47 rec3 hrec3 _ _ hf
    · skip
      rcases ite_some hf with ⟨_, hf⟩ | ⟨_, hf⟩
      · skip
        exact m_X10_put_47 rec3 hrec3 _ _ hf
      · skip
        obtain ⟨_, hf⟩ := gd_some hf
        obtain ⟨σ5, eσ5, hf⟩ := nmd_some hf
        refine ag_I eσ5 (Or.inl rfl) ?_
        obtain ⟨σ6, eσ6, hf⟩ := nmd_some hf
        refine ag_I eσ6 (Or.inr rfl) ?_
        exact m_X10_put_47 rec3 hrec3 _ _ hf
theorem m_X10_put_3 {N : Nat} {ρ : Nat → Nat → Nat} {this : Nat} {a1 : Int32} {r : Int32} {σr : St} : ∀ (n : Nat) (x2 : Int32) (σ : St), f_X10_put_3 N ρ this a1 n x2 σ = some (r, σr) → Ag (fun p => p = ρ this 0 ∨ p = this) σ σr := by
  intro n
  induction n with
  | zero => intro x2 σ hf; cases hf
  | succ n ih => intro x2 σ hf; exact k_X10_put_3 _ ih x2 σ hf
theorem m_X10_put {N : Nat} {ρ : Nat → Nat → Nat} {this : Nat} {a1 : Int32} {r : Int32} {σr : St} {σ : St} (hf : f_X10_put N ρ this a1 σ = some (r, σr)) : Ag (fun p => p = ρ this 0 ∨ p = this) σ σr := by
  unfold f_X10_put at hf
  exact m_X10_put_3 N _ _ hf
theorem m_X0_clear {N : Nat} {ρ : Nat → Nat → Nat} {this : Nat} {r : Int32} {σr : St} {σ : St} (hf : f_X0_clear N ρ this σ = some (r, σr)) : Ag (fun p => p = this ∨ p = ρ this 8 ∨ p = ρ this 9) σ σr := by
  unfold f_X0_clear at hf
  obtain ⟨σ1, eσ1, hf⟩ := nmd_some hf
  refine ag_I eσ1 (Or.inl rfl) ?_
  obtain ⟨σ2, eσ2, hf⟩ := nmd_some hf
  refine ag_I eσ2 (Or.inl rfl) ?_
  obtain ⟨σ3, eσ3, hf⟩ := nmd_some hf
  refine ag_I eσ3 (Or.inl rfl) ?_
  obtain ⟨σ4, eσ4, hf⟩ := nmd_some hf
  refine ag_I eσ4 (Or.inl rfl) ?_
  obtain ⟨σ5, eσ5, hf⟩ := nmd_some hf
  refine ag_I eσ5 (Or.inl rfl) ?_
  obtain ⟨_, σ7, q1, hf⟩ := bnd_some hf
  refine ag_call (m_X1_clear q1) (fun _ h => (Or.inr (Or.inl h))) ?_
  obtain ⟨_, σ10, q2, hf⟩ := bnd_some hf
  refine ag_call (m_X1_clear q2) (fun _ h => (Or.inr (Or.inr h))) ?_
  cases hf
  exact ag_refl
theorem m_X0_hasHearth_23 {N : Nat} {ρ : Nat → Nat → Nat} {this : Nat} {a1 : Int32} {r : Int32} {σr : St} (s0 : Int32) (σ : St) (hf : f_X0_hasHearth_23 N ρ this a1 s0 σ = some (r, σr)) : Ag (fun p => False) σ σr := by
  unfold f_X0_hasHearth_23 at hf
  obtain ⟨_, hf⟩ := gd_some hf
  cases hf
  exact ag_refl
theorem m_X0_hasHearth_22 {N : Nat} {ρ : Nat → Nat → Nat} {this : Nat} {a1 : Int32} {r : Int32} {σr : St} (σ : St) (hf : f_X0_hasHearth_22 N ρ this a1 σ = some (r, σr)) : Ag (fun p => False) σ σr := by
  unfold f_X0_hasHearth_22 at hf
  exact m_X0_hasHearth_23 _ _ hf
theorem m_X0_hasHearth {N : Nat} {ρ : Nat → Nat → Nat} {this : Nat} {a1 : Int32} {r : Int32} {σr : St} {σ : St} (hf : f_X0_hasHearth N ρ this a1 σ = some (r, σr)) : Ag (fun p => False) σ σr := by
  unfold f_X0_hasHearth at hf
  rcases ite_some hf with ⟨_, hf⟩ | ⟨_, hf⟩
  · skip
    exact m_X0_hasHearth_22 _ hf
  · skip
    rcases ite_some hf with ⟨_, hf⟩ | ⟨_, hf⟩
    · skip
      exact m_X0_hasHearth_22 _ hf
    · skip
      rcases ite_some hf with ⟨_, hf⟩ | ⟨_, hf⟩
      · skip
        exact m_X0_hasHearth_22 _ hf
      · skip
        exact m_X0_hasHearth_23 _ _ hf
theorem m_X0_hasStool_22 {N : Nat} {ρ : Nat → Nat → Nat} {this : Nat} {a1 : Int32} {r : Int32} {σr : St} (s0 : Int32) (σ : St) (hf : f_X0_hasStool_22 N ρ this a1 s0 σ = some (r, σr)) : Ag (fun p => False) σ σr := by
  unfold f_X0_hasStool_22 at hf
  obtain ⟨_, hf⟩ := gd_some hf
  cases hf
  exact ag_refl
theorem m_X0_hasStool_21 {N : Nat} {ρ : Nat → Nat → Nat} {this : Nat} {a1 : Int32} {r : Int32} {σr : St} (σ : St) (hf : f_X0_hasStool_21 N ρ this a1 σ = some (r, σr)) : Ag (fun p => False) σ σr := by
  unfold f_X0_hasStool_21 at hf
  exact m_X0_hasStool_22 _ _ hf
theorem m_X0_hasStool {N : Nat} {ρ : Nat → Nat → Nat} {this : Nat} {a1 : Int32} {r : Int32} {σr : St} {σ : St} (hf : f_X0_hasStool N ρ this a1 σ = some (r, σr)) : Ag (fun p => False) σ σr := by
  unfold f_X0_hasStool at hf
  rcases ite_some hf with ⟨_, hf⟩ | ⟨_, hf⟩
  · skip
    exact m_X0_hasStool_21 _ hf
  · skip
    rcases ite_some hf with ⟨_, hf⟩ | ⟨_, hf⟩
    · skip
      exact m_X0_hasStool_21 _ hf
    · skip
      rcases ite_some hf with ⟨_, hf⟩ | ⟨_, hf⟩
      · skip
        exact m_X0_hasStool_21 _ hf
      · skip
        exact m_X0_hasStool_22 _ _ hf
theorem m_X0_allStools {N : Nat} {ρ : Nat → Nat → Nat} {this : Nat} {r : Int32} {σr : St} {σ : St} (hf : f_X0_allStools N ρ this σ = some (r, σr)) : Ag (fun p => False) σ σr := by
  unfold f_X0_allStools at hf
  cases hf
  exact ag_refl
theorem m_X0_wayOf_36 {N : Nat} {ρ : Nat → Nat → Nat} {this : Nat} {a1 : Int32} {a2 : Int32} {r : Int32} {σr : St} (s0 : Int32) (σ : St) (hf : f_X0_wayOf_36 N ρ this a1 a2 s0 σ = some (r, σr)) : Ag (fun p => False) σ σr := by
  unfold f_X0_wayOf_36 at hf
  cases hf
  exact ag_refl
theorem m_X0_wayOf_35 {N : Nat} {ρ : Nat → Nat → Nat} {this : Nat} {a1 : Int32} {a2 : Int32} {r : Int32} {σr : St} (σ : St) (hf : f_X0_wayOf_35 N ρ this a1 a2 σ = some (r, σr)) : Ag (fun p => False) σ σr := by
  unfold f_X0_wayOf_35 at hf
  exact m_X0_wayOf_36 _ _ hf
theorem m_X0_wayOf {N : Nat} {ρ : Nat → Nat → Nat} {this : Nat} {a1 : Int32} {a2 : Int32} {r : Int32} {σr : St} {σ : St} (hf : f_X0_wayOf N ρ this a1 a2 σ = some (r, σr)) : Ag (fun p => False) σ σr := by
  unfold f_X0_wayOf at hf
  obtain ⟨_, σ2, q1, hf⟩ := bnd_some hf
  refine ag_call (m_X0_hasStool q1) (fun _ h => h.elim) ?_
  rcases ite_some hf with ⟨_, hf⟩ | ⟨_, hf⟩
  · skip
    exact m_X0_wayOf_35 _ hf
  · skip
    obtain ⟨_, σ6, q2, hf⟩ := bnd_some hf
    refine ag_call (m_X0_hasHearth q2) (fun _ h => h.elim) ?_
    rcases ite_some hf with ⟨_, hf⟩ | ⟨_, hf⟩
    · skip
      exact m_X0_wayOf_35 _ hf
    · skip
      obtain ⟨_, hf⟩ := gd_some hf
      obtain ⟨_, hf⟩ := gd_some hf
      exact m_X0_wayOf_36 _ _ hf
theorem m_X0_quarrelIn_47 {N : Nat} {ρ : Nat → Nat → Nat} {this : Nat} {a1 : Int32} {r : Int32} {σr : St} (rec4 : Int32 → Int32 → St → Option (Int32 × St)) (hrec4 : ∀ (x2 : Int32) (x3 : Int32) (σ : St), rec4 x2 x3 σ = some (r, σr) → Ag (fun p => False) σ σr) (x2 : Int32) (x3 : Int32) (σ : St) (hf : f_X0_quarrelIn_47 N ρ this a1 rec4 x2 x3 σ = some (r, σr)) : Ag (fun p => False) σ σr := by
  unfold f_X0_quarrelIn_47 at hf
  exact hrec4 _ _ _ hf
theorem k_X0_quarrelIn_4 {N : Nat} {ρ : Nat → Nat → Nat} {this : Nat} {a1 : Int32} {r : Int32} {σr : St} (rec4 : Int32 → Int32 → St → Option (Int32 × St)) (hrec4 : ∀ (x2 : Int32) (x3 : Int32) (σ : St), rec4 x2 x3 σ = some (r, σr) → Ag (fun p => False) σ σr) (x2 : Int32) (x3 : Int32) (σ : St) (hf : b_X0_quarrelIn_4 N ρ this a1 rec4 x2 x3 σ = some (r, σr)) : Ag (fun p => False) σ σr := by
  unfold b_X0_quarrelIn_4 at hf
  rcases ite_some hf with ⟨_, hf⟩ | ⟨_, hf⟩
  · skip
    cases hf
    exact ag_refl
  · skip
    rcases ite_some hf with ⟨_, hf⟩ | ⟨_, hf⟩
    · skip
      exact m_X0_quarrelIn_47 rec4 hrec4 _ _ _ hf
    · skip
      rcases ite_some hf with ⟨_, hf⟩ | ⟨_, hf⟩
      · skip
        obtain ⟨_, hf⟩ := gd_some hf
        obtain ⟨y7, ey7, hf⟩ := nmd_some hf
        exact m_X0_quarrelIn_47 rec4 hrec4 _ _ _ hf
      · skip
        obtain ⟨_, hf⟩ := gd_some hf
        rcases ite_some hf with ⟨_, hf⟩ | ⟨_, hf⟩
        · skip
          exact m_X0_quarrelIn_47 rec4 hrec4 _ _ _ hf
        · skip
          cases hf
          exact ag_refl
theorem m_X0_quarrelIn_4 {N : Nat} {ρ : Nat → Nat → Nat} {this : Nat} {a1 : Int32} {r : Int32} {σr : St} : ∀ (n : Nat) (x2 : Int32) (x3 : Int32) (σ : St), f_X0_quarrelIn_4 N ρ this a1 n x2 x3 σ = some (r, σr) → Ag (fun p => False) σ σr := by
  intro n
  induction n with
  | zero => intro x2 x3 σ hf; cases hf
  | succ n ih => intro x2 x3 σ hf; exact k_X0_quarrelIn_4 _ ih x2 x3 σ hf
theorem m_X0_quarrelIn {N : Nat} {ρ : Nat → Nat → Nat} {this : Nat} {a1 : Int32} {r : Int32} {σr : St} {σ : St} (hf : f_X0_quarrelIn N ρ this a1 σ = some (r, σr)) : Ag (fun p => False) σ σr := by
  unfold f_X0_quarrelIn at hf
  exact m_X0_quarrelIn_4 N _ _ _ hf
theorem m_X0_setTerms {N : Nat} {ρ : Nat → Nat → Nat} {this : Nat} {a1 : Nat} {a2 : Int32} {a3 : Int32} {a4 : Int32} {a5 : Int32} {r : Int32} {σr : St} {σ : St} (hf : f_X0_setTerms N ρ this a1 a2 a3 a4 a5 σ = some (r, σr)) : Ag (fun p => p = ρ this 10) σ σr := by
  unfold f_X0_setTerms at hf
  obtain ⟨_, hf⟩ := gd_some hf
  obtain ⟨_, hf⟩ := gd_some hf
  obtain ⟨σ3, eσ3, hf⟩ := nmd_some hf
  refine ag_I eσ3 rfl ?_
  obtain ⟨_, hf⟩ := gd_some hf
  obtain ⟨σ5, eσ5, hf⟩ := nmd_some hf
  refine ag_I eσ5 rfl ?_
  obtain ⟨_, hf⟩ := gd_some hf
  obtain ⟨_, hf⟩ := gd_some hf
  obtain ⟨σ8, eσ8, hf⟩ := nmd_some hf
  refine ag_I eσ8 rfl ?_
  obtain ⟨_, hf⟩ := gd_some hf
  obtain ⟨_, hf⟩ := gd_some hf
  obtain ⟨σ11, eσ11, hf⟩ := nmd_some hf
  refine ag_I eσ11 rfl ?_
  obtain ⟨_, hf⟩ := gd_some hf
  obtain ⟨_, hf⟩ := gd_some hf
  obtain ⟨σ14, eσ14, hf⟩ := nmd_some hf
  refine ag_I eσ14 rfl ?_
  obtain ⟨_, hf⟩ := gd_some hf
  obtain ⟨σ16, eσ16, hf⟩ := nmd_some hf
  refine ag_I eσ16 rfl ?_
  cases hf
  exact ag_refl
theorem m_X0_loadOf_21 {N : Nat} {ρ : Nat → Nat → Nat} {this : Nat} {a1 : Nat} {a2 : Int32} {a3 : Int32} {a4 : Int32} {a5 : Int32} {r : Int32} {σr : St} (σ : St) (hf : f_X0_loadOf_21 N ρ this a1 a2 a3 a4 a5 σ = some (r, σr)) : Ag (fun p => p = ρ this 10 ∨ p = ρ (ρ this 8) 1) σ σr := by
  unfold f_X0_loadOf_21 at hf
  cases hf
  exact ag_refl
theorem m_X0_loadOf_72 {N : Nat} {ρ : Nat → Nat → Nat} {this : Nat} {a1 : Nat} {a2 : Int32} {a3 : Int32} {a4 : Int32} {a5 : Int32} {r : Int32} {σr : St} (s0 : Int32) (σ : St) (hf : f_X0_loadOf_72 N ρ this a1 a2 a3 a4 a5 s0 σ = some (r, σr)) : Ag (fun p => p = ρ this 10 ∨ p = ρ (ρ this 8) 1) σ σr := by
  unfold f_X0_loadOf_72 at hf
  cases hf
  exact ag_refl
theorem m_X0_loadOf {N : Nat} {ρ : Nat → Nat → Nat} {this : Nat} {a1 : Nat} {a2 : Int32} {a3 : Int32} {a4 : Int32} {a5 : Int32} {r : Int32} {σr : St} {σ : St} (hf : f_X0_loadOf N ρ this a1 a2 a3 a4 a5 σ = some (r, σr)) : Ag (fun p => p = ρ this 10 ∨ p = ρ (ρ this 8) 1) σ σr := by
  unfold f_X0_loadOf at hf
  obtain ⟨_, σ2, q1, hf⟩ := bnd_some hf
  refine ag_call (m_X0_hasStool q1) (fun _ h => h.elim) ?_
  rcases ite_some hf with ⟨_, hf⟩ | ⟨_, hf⟩
  · skip
    exact m_X0_loadOf_21 _ hf
  · skip
    obtain ⟨_, σ6, q2, hf⟩ := bnd_some hf
    refine ag_call (m_X0_hasHearth q2) (fun _ h => h.elim) ?_
    rcases ite_some hf with ⟨_, hf⟩ | ⟨_, hf⟩
    · skip
      exact m_X0_loadOf_21 _ hf
    · skip
      rcases ite_some hf with ⟨_, hf⟩ | ⟨_, hf⟩
      · skip
        obtain ⟨_, σ11, q3, hf⟩ := bnd_some hf
        refine ag_call (m_X0_setTerms q3) (fun _ h => (Or.inl h)) ?_
        obtain ⟨_, σ14, q4, hf⟩ := bnd_some hf
        refine ag_call (m_X1_isTold q4) (fun _ h => h.elim) ?_
        rcases ite_some hf with ⟨_, hf⟩ | ⟨_, hf⟩
        · skip
          obtain ⟨_, hf⟩ := gd_some hf
          obtain ⟨_, hf⟩ := gd_some hf
          exact m_X0_loadOf_72 _ _ hf
        · skip
          obtain ⟨_, σ20, q5, hf⟩ := bnd_some hf
          refine ag_call (m_X1_valueBy q5) (fun _ h => (Or.inr h)) ?_
          exact m_X0_loadOf_72 _ _ hf
      · skip
        exact m_X0_loadOf_21 _ hf
theorem m_X0_wearOf_16 {N : Nat} {ρ : Nat → Nat → Nat} {this : Nat} {a1 : Nat} {a2 : Int32} {a3 : Int32} {a4 : Int32} {r : Int32} {σr : St} (σ : St) (hf : f_X0_wearOf_16 N ρ this a1 a2 a3 a4 σ = some (r, σr)) : Ag (fun p => p = ρ this 10 ∨ p = ρ (ρ this 9) 1) σ σr := by
  unfold f_X0_wearOf_16 at hf
  cases hf
  exact ag_refl
theorem m_X0_wearOf_53 {N : Nat} {ρ : Nat → Nat → Nat} {this : Nat} {a1 : Nat} {a2 : Int32} {a3 : Int32} {a4 : Int32} {r : Int32} {σr : St} (s0 : Int32) (σ : St) (hf : f_X0_wearOf_53 N ρ this a1 a2 a3 a4 s0 σ = some (r, σr)) : Ag (fun p => p = ρ this 10 ∨ p = ρ (ρ this 9) 1) σ σr := by
  unfold f_X0_wearOf_53 at hf
  obtain ⟨_, hf⟩ := gd_some hf
  cases hf
  exact ag_refl
theorem m_X0_wearOf {N : Nat} {ρ : Nat → Nat → Nat} {this : Nat} {a1 : Nat} {a2 : Int32} {a3 : Int32} {a4 : Int32} {r : Int32} {σr : St} {σ : St} (hf : f_X0_wearOf N ρ this a1 a2 a3 a4 σ = some (r, σr)) : Ag (fun p => p = ρ this 10 ∨ p = ρ (ρ this 9) 1) σ σr := by
  unfold f_X0_wearOf at hf
  obtain ⟨_, σ3, q1, hf⟩ := bnd_some hf
  refine ag_call (m_X0_hasStool q1) (fun _ h => h.elim) ?_
  rcases ite_some hf with ⟨_, hf⟩ | ⟨_, hf⟩
  · skip
    exact m_X0_wearOf_16 _ hf
  · skip
    obtain ⟨_, σ7, q2, hf⟩ := bnd_some hf
    refine ag_call (m_X0_hasHearth q2) (fun _ h => h.elim) ?_
    rcases ite_some hf with ⟨_, hf⟩ | ⟨_, hf⟩
    · skip
      exact m_X0_wearOf_16 _ hf
    · skip
      obtain ⟨_, σ11, q3, hf⟩ := bnd_some hf
      refine ag_call (m_X0_setTerms q3) (fun _ h => (Or.inl h)) ?_
      obtain ⟨_, σ14, q4, hf⟩ := bnd_some hf
      refine ag_call (m_X1_isTold q4) (fun _ h => h.elim) ?_
      rcases ite_some hf with ⟨_, hf⟩ | ⟨_, hf⟩
      · skip
        exact m_X0_wearOf_53 _ _ hf
      · skip
        obtain ⟨_, σ18, q5, hf⟩ := bnd_some hf
        refine ag_call (m_X1_valueBy q5) (fun _ h => (Or.inr h)) ?_
        exact m_X0_wearOf_53 _ _ hf
theorem m_X0_bearing_67 {N : Nat} {ρ : Nat → Nat → Nat} {this : Nat} {a1 : Nat} {a2 : Int32} {a3 : Int32} {a4 : Int32} {a5 : Int32} {r : Int32} {σr : St} (rec6 : Int32 → Int32 → St → Option (Int32 × St)) (hrec6 : ∀ (x6 : Int32) (x7 : Int32) (σ : St), rec6 x6 x7 σ = some (r, σr) → Ag (fun p => p = ρ this 10 ∨ p = ρ (ρ this 8) 1) σ σr) (x6 : Int32) (x7 : Int32) (σ : St) (hf : f_X0_bearing_67 N ρ this a1 a2 a3 a4 a5 rec6 x6 x7 σ = some (r, σr)) : Ag (fun p => p = ρ this 10 ∨ p = ρ (ρ this 8) 1) σ σr := by
  unfold f_X0_bearing_67 at hf
  exact hrec6 _ _ _ hf
theorem m_X0_bearing_29 {N : Nat} {ρ : Nat → Nat → Nat} {this : Nat} {a1 : Nat} {a2 : Int32} {a3 : Int32} {a4 : Int32} {a5 : Int32} {r : Int32} {σr : St} (rec6 : Int32 → Int32 → St → Option (Int32 × St)) (hrec6 : ∀ (x6 : Int32) (x7 : Int32) (σ : St), rec6 x6 x7 σ = some (r, σr) → Ag (fun p => p = ρ this 10 ∨ p = ρ (ρ this 8) 1) σ σr) (x6 : Int32) (x7 : Int32) (s0 : Int32) (σ : St) (hf : f_X0_bearing_29 N ρ this a1 a2 a3 a4 a5 rec6 x6 x7 s0 σ = some (r, σr)) : Ag (fun p => p = ρ this 10 ∨ p = ρ (ρ this 8) 1) σ σr := by
  unfold f_X0_bearing_29 at hf
  rcases ite_some hf with ⟨_, hf⟩ | ⟨_, hf⟩
  · skip
    exact m_X0_bearing_67 rec6 hrec6 _ _ _ hf
  · skip
    obtain ⟨_, σ3, q1, hf⟩ := bnd_some hf
    refine ag_call (m_X0_loadOf q1) (fun _ h => by
          rcases h with h | h
          · exact (Or.inl h)
          · exact (Or.inr h)) ?_
    obtain ⟨_, hf⟩ := gd_some hf
    rcases ite_some hf with ⟨_, hf⟩ | ⟨_, hf⟩
    · skip
      exact m_X0_bearing_67 rec6 hrec6 _ _ _ hf
    · skip
      obtain ⟨y7, ey7, hf⟩ := nmd_some hf
      exact m_X0_bearing_67 rec6 hrec6 _ _ _ hf
theorem k_X0_bearing_6 {N : Nat} {ρ : Nat → Nat → Nat} {this : Nat} {a1 : Nat} {a2 : Int32} {a3 : Int32} {a4 : Int32} {a5 : Int32} {r : Int32} {σr : St} (rec6 : Int32 → Int32 → St → Option (Int32 × St)) (hrec6 : ∀ (x6 : Int32) (x7 : Int32) (σ : St), rec6 x6 x7 σ = some (r, σr) → Ag (fun p => p = ρ this 10 ∨ p = ρ (ρ this 8) 1) σ σr) (x6 : Int32) (x7 : Int32) (σ : St) (hf : b_X0_bearing_6 N ρ this a1 a2 a3 a4 a5 rec6 x6 x7 σ = some (r, σr)) : Ag (fun p => p = ρ this 10 ∨ p = ρ (ρ this 8) 1) σ σr := by
  unfold b_X0_bearing_6 at hf
  rcases ite_some hf with ⟨_, hf⟩ | ⟨_, hf⟩
  · skip
    cases hf
    exact ag_refl
  · skip
    rcases ite_some hf with ⟨_, hf⟩ | ⟨_, hf⟩
    · skip
      exact m_X0_bearing_29 rec6 hrec6 _ _ _ _ hf
    · skip
      exact m_X0_bearing_29 rec6 hrec6 _ _ _ _ hf
theorem m_X0_bearing_6 {N : Nat} {ρ : Nat → Nat → Nat} {this : Nat} {a1 : Nat} {a2 : Int32} {a3 : Int32} {a4 : Int32} {a5 : Int32} {r : Int32} {σr : St} : ∀ (n : Nat) (x6 : Int32) (x7 : Int32) (σ : St), f_X0_bearing_6 N ρ this a1 a2 a3 a4 a5 n x6 x7 σ = some (r, σr) → Ag (fun p => p = ρ this 10 ∨ p = ρ (ρ this 8) 1) σ σr := by
  intro n
  induction n with
  | zero => intro x6 x7 σ hf; cases hf
  | succ n ih => intro x6 x7 σ hf; exact k_X0_bearing_6 _ ih x6 x7 σ hf
theorem m_X0_bearing {N : Nat} {ρ : Nat → Nat → Nat} {this : Nat} {a1 : Nat} {a2 : Int32} {a3 : Int32} {a4 : Int32} {a5 : Int32} {r : Int32} {σr : St} {σ : St} (hf : f_X0_bearing N ρ this a1 a2 a3 a4 a5 σ = some (r, σr)) : Ag (fun p => p = ρ this 10 ∨ p = ρ (ρ this 8) 1) σ σr := by
  unfold f_X0_bearing at hf
  exact m_X0_bearing_6 N _ _ _ hf
theorem m_X9_begin {N : Nat} {ρ : Nat → Nat → Nat} {this : Nat} {a1 : Nat} {r : Int32} {σr : St} {σ : St} (hf : f_X9_begin N ρ this a1 σ = some (r, σr)) : Ag (fun p => p = ρ this 0 ∨ p = ρ this 1 ∨ p = ρ this 2 ∨ p = ρ this 3 ∨ p = this) σ σr := by
  unfold f_X9_begin at hf
  obtain ⟨_, hf⟩ := gd_some hf
  obtain ⟨σ2, eσ2, hf⟩ := nmd_some hf
  refine ag_C eσ2 (Or.inl rfl) ?_
  obtain ⟨_, hf⟩ := gd_some hf
  obtain ⟨σ4, eσ4, hf⟩ := nmd_some hf
  refine ag_C eσ4 (Or.inr (Or.inl rfl)) ?_
  obtain ⟨_, σ6, q1, hf⟩ := bnd_some hf
  refine ag_call (m_J7_fill_53178 q1) (fun _ h => (Or.inr (Or.inr (Or.inl h)))) ?_
  obtain ⟨_, σ9, q2, hf⟩ := bnd_some hf
  refine ag_call (m_J7_fill_53178 q2) (fun _ h => (Or.inr (Or.inr (Or.inr (Or.inl h))))) ?_
  obtain ⟨σ11, eσ11, hf⟩ := nmd_some hf
  refine ag_I eσ11 (Or.inr (Or.inr (Or.inr (Or.inr rfl)))) ?_
  obtain ⟨σ12, eσ12, hf⟩ := nmd_some hf
  refine ag_I eσ12 (Or.inr (Or.inr (Or.inr (Or.inr rfl)))) ?_
  cases hf
  exact ag_refl
theorem m_X9_copy {N : Nat} {ρ : Nat → Nat → Nat} {this : Nat} {a1 : Nat} {r : Int32} {σr : St} {σ : St} (hf : f_X9_copy N ρ this a1 σ = some (r, σr)) : Ag (fun p => p = ρ this 0 ∨ p = ρ this 1 ∨ p = ρ this 2 ∨ p = ρ this 3 ∨ p = this) σ σr := by
  unfold f_X9_copy at hf
  obtain ⟨_, hf⟩ := gd_some hf
  obtain ⟨σ2, eσ2, hf⟩ := nmd_some hf
  refine ag_C eσ2 (Or.inl rfl) ?_
  obtain ⟨_, hf⟩ := gd_some hf
  obtain ⟨σ4, eσ4, hf⟩ := nmd_some hf
  refine ag_C eσ4 (Or.inr (Or.inl rfl)) ?_
  obtain ⟨_, hf⟩ := gd_some hf
  obtain ⟨σ6, eσ6, hf⟩ := nmd_some hf
  refine ag_C eσ6 (Or.inr (Or.inr (Or.inl rfl))) ?_
  obtain ⟨_, hf⟩ := gd_some hf
  obtain ⟨σ8, eσ8, hf⟩ := nmd_some hf
  refine ag_C eσ8 (Or.inr (Or.inr (Or.inr (Or.inl rfl)))) ?_
  obtain ⟨σ9, eσ9, hf⟩ := nmd_some hf
  refine ag_I eσ9 (Or.inr (Or.inr (Or.inr (Or.inr rfl)))) ?_
  obtain ⟨σ10, eσ10, hf⟩ := nmd_some hf
  refine ag_I eσ10 (Or.inr (Or.inr (Or.inr (Or.inr rfl)))) ?_
  cases hf
  exact ag_refl
theorem m_X9_keepIn_13 {N : Nat} {ρ : Nat → Nat → Nat} {this : Nat} {a1 n1 : Nat} {a2 : Int32} {r : Int32} {σr : St} (σ : St) (hf : f_X9_keepIn_13 N ρ this a1 n1 a2 σ = some (r, σr)) : Ag (fun p => p = a1) σ σr := by
  unfold f_X9_keepIn_13 at hf
  cases hf
  exact ag_refl
theorem m_X9_keepIn {N : Nat} {ρ : Nat → Nat → Nat} {this : Nat} {a1 n1 : Nat} {a2 : Int32} {r : Int32} {σr : St} {σ : St} (hf : f_X9_keepIn N ρ this a1 n1 a2 σ = some (r, σr)) : Ag (fun p => p = a1) σ σr := by
  unfold f_X9_keepIn at hf
  rcases ite_some hf with ⟨_, hf⟩ | ⟨_, hf⟩
  · skip
    exact m_X9_keepIn_13 _ hf
  · skip
    rcases ite_some hf with ⟨_, hf⟩ | ⟨_, hf⟩
    · skip
      obtain ⟨_, hf⟩ := gd_some hf
      obtain ⟨σ4, eσ4, hf⟩ := nmd_some hf
      refine ag_C eσ4 rfl ?_
      obtain ⟨_, hf⟩ := gd_some hf
      obtain ⟨σ6, eσ6, hf⟩ := nmd_some hf
      refine ag_C eσ6 rfl ?_
      obtain ⟨_, hf⟩ := gd_some hf
      obtain ⟨σ8, eσ8, hf⟩ := nmd_some hf
      refine ag_C eσ8 rfl ?_
      obtain ⟨_, hf⟩ := gd_some hf
      obtain ⟨σ10, eσ10, hf⟩ := nmd_some hf
      refine ag_C eσ10 rfl ?_
      obtain ⟨_, hf⟩ := gd_some hf
      obtain ⟨σ12, eσ12, hf⟩ := nmd_some hf
      refine ag_I eσ12 rfl ?_
      obtain ⟨_, hf⟩ := gd_some hf
      obtain ⟨σ14, eσ14, hf⟩ := nmd_some hf
      refine ag_I eσ14 rfl ?_
      cases hf
      exact ag_refl
    · skip
      exact m_X9_keepIn_13 _ hf
theorem m_X9_takeFrom_13 {N : Nat} {ρ : Nat → Nat → Nat} {this : Nat} {a1 n1 : Nat} {a2 : Int32} {r : Int32} {σr : St} (σ : St) (hf : f_X9_takeFrom_13 N ρ this a1 n1 a2 σ = some (r, σr)) : Ag (fun p => p = ρ this 0 ∨ p = ρ this 1 ∨ p = ρ this 2 ∨ p = ρ this 3 ∨ p = this) σ σr := by
  unfold f_X9_takeFrom_13 at hf
  cases hf
  exact ag_refl
theorem m_X9_takeFrom {N : Nat} {ρ : Nat → Nat → Nat} {this : Nat} {a1 n1 : Nat} {a2 : Int32} {r : Int32} {σr : St} {σ : St} (hf : f_X9_takeFrom N ρ this a1 n1 a2 σ = some (r, σr)) : Ag (fun p => p = ρ this 0 ∨ p = ρ this 1 ∨ p = ρ this 2 ∨ p = ρ this 3 ∨ p = this) σ σr := by
  unfold f_X9_takeFrom at hf
  rcases ite_some hf with ⟨_, hf⟩ | ⟨_, hf⟩
  · skip
    exact m_X9_takeFrom_13 _ hf
  · skip
    rcases ite_some hf with ⟨_, hf⟩ | ⟨_, hf⟩
    · skip
      obtain ⟨_, hf⟩ := gd_some hf
      obtain ⟨σ4, eσ4, hf⟩ := nmd_some hf
      refine ag_C eσ4 (Or.inl rfl) ?_
      obtain ⟨_, hf⟩ := gd_some hf
      obtain ⟨σ6, eσ6, hf⟩ := nmd_some hf
      refine ag_C eσ6 (Or.inr (Or.inl rfl)) ?_
      obtain ⟨_, hf⟩ := gd_some hf
      obtain ⟨σ8, eσ8, hf⟩ := nmd_some hf
      refine ag_C eσ8 (Or.inr (Or.inr (Or.inl rfl))) ?_
      obtain ⟨_, hf⟩ := gd_some hf
      obtain ⟨σ10, eσ10, hf⟩ := nmd_some hf
      refine ag_C eσ10 (Or.inr (Or.inr (Or.inr (Or.inl rfl)))) ?_
      obtain ⟨_, hf⟩ := gd_some hf
      obtain ⟨σ12, eσ12, hf⟩ := nmd_some hf
      refine ag_I eσ12 (Or.inr (Or.inr (Or.inr (Or.inr rfl)))) ?_
      obtain ⟨_, hf⟩ := gd_some hf
      obtain ⟨σ14, eσ14, hf⟩ := nmd_some hf
      refine ag_I eσ14 (Or.inr (Or.inr (Or.inr (Or.inr rfl)))) ?_
      cases hf
      exact ag_refl
    · skip
      exact m_X9_takeFrom_13 _ hf
theorem m_X9_isSaved_18 {N : Nat} {ρ : Nat → Nat → Nat} {this : Nat} {a1 : Nat} {a2 : Int32} {r : Int32} {σr : St} (s0 : Int32) (σ : St) (hf : f_X9_isSaved_18 N ρ this a1 a2 s0 σ = some (r, σr)) : Ag (fun p => False) σ σr := by
  unfold f_X9_isSaved_18 at hf
  obtain ⟨_, hf⟩ := gd_some hf
  cases hf
  exact ag_refl
theorem m_X9_isSaved {N : Nat} {ρ : Nat → Nat → Nat} {this : Nat} {a1 : Nat} {a2 : Int32} {r : Int32} {σr : St} {σ : St} (hf : f_X9_isSaved N ρ this a1 a2 σ = some (r, σr)) : Ag (fun p => False) σ σr := by
  unfold f_X9_isSaved at hf
  obtain ⟨_, hf⟩ := gd_some hf
  rcases ite_some hf with ⟨_, hf⟩ | ⟨_, hf⟩
  · skip
    exact m_X9_isSaved_18 _ _ hf
  · skip
    exact m_X9_isSaved_18 _ _ hf
theorem m_X9_savedBits_27 {N : Nat} {ρ : Nat → Nat → Nat} {this : Nat} {a1 : Nat} {r : Int32} {σr : St} (rec4 : Int32 → Int32 → St → Option (Int32 × St)) (hrec4 : ∀ (x2 : Int32) (x3 : Int32) (σ : St), rec4 x2 x3 σ = some (r, σr) → Ag (fun p => False) σ σr) (x2 : Int32) (x3 : Int32) (σ : St) (hf : f_X9_savedBits_27 N ρ this a1 rec4 x2 x3 σ = some (r, σr)) : Ag (fun p => False) σ σr := by
  unfold f_X9_savedBits_27 at hf
  exact hrec4 _ _ _ hf
theorem k_X9_savedBits_4 {N : Nat} {ρ : Nat → Nat → Nat} {this : Nat} {a1 : Nat} {r : Int32} {σr : St} (rec4 : Int32 → Int32 → St → Option (Int32 × St)) (hrec4 : ∀ (x2 : Int32) (x3 : Int32) (σ : St), rec4 x2 x3 σ = some (r, σr) → Ag (fun p => False) σ σr) (x2 : Int32) (x3 : Int32) (σ : St) (hf : b_X9_savedBits_4 N ρ this a1 rec4 x2 x3 σ = some (r, σr)) : Ag (fun p => False) σ σr := by
  unfold b_X9_savedBits_4 at hf
  rcases ite_some hf with ⟨_, hf⟩ | ⟨_, hf⟩
  · skip
    cases hf
    exact ag_refl
  · skip
    obtain ⟨_, σ3, q1, hf⟩ := bnd_some hf
    refine ag_call (m_X9_isSaved q1) (fun _ h => h.elim) ?_
    rcases ite_some hf with ⟨_, hf⟩ | ⟨_, hf⟩
    · skip
      exact m_X9_savedBits_27 rec4 hrec4 _ _ _ hf
    · skip
      obtain ⟨y6, ey6, hf⟩ := nmd_some hf
      exact m_X9_savedBits_27 rec4 hrec4 _ _ _ hf
theorem m_X9_savedBits_4 {N : Nat} {ρ : Nat → Nat → Nat} {this : Nat} {a1 : Nat} {r : Int32} {σr : St} : ∀ (n : Nat) (x2 : Int32) (x3 : Int32) (σ : St), f_X9_savedBits_4 N ρ this a1 n x2 x3 σ = some (r, σr) → Ag (fun p => False) σ σr := by
  intro n
  induction n with
  | zero => intro x2 x3 σ hf; cases hf
  | succ n ih => intro x2 x3 σ hf; exact k_X9_savedBits_4 _ ih x2 x3 σ hf
theorem m_X9_savedBits {N : Nat} {ρ : Nat → Nat → Nat} {this : Nat} {a1 : Nat} {r : Int32} {σr : St} {σ : St} (hf : f_X9_savedBits N ρ this a1 σ = some (r, σr)) : Ag (fun p => False) σ σr := by
  unfold f_X9_savedBits at hf
  exact m_X9_savedBits_4 N _ _ _ hf
theorem m_X9_setAt_25 {N : Nat} {ρ : Nat → Nat → Nat} {this : Nat} {a1 : Int32} {r : Int32} {σr : St} (rec4 : Int32 → Int32 → St → Option (Int32 × St)) (hrec4 : ∀ (x2 : Int32) (x3 : Int32) (σ : St), rec4 x2 x3 σ = some (r, σr) → Ag (fun p => False) σ σr) (x2 : Int32) (x3 : Int32) (σ : St) (hf : f_X9_setAt_25 N ρ this a1 rec4 x2 x3 σ = some (r, σr)) : Ag (fun p => False) σ σr := by
  unfold f_X9_setAt_25 at hf
  exact hrec4 _ _ _ hf
theorem k_X9_setAt_4 {N : Nat} {ρ : Nat → Nat → Nat} {this : Nat} {a1 : Int32} {r : Int32} {σr : St} (rec4 : Int32 → Int32 → St → Option (Int32 × St)) (hrec4 : ∀ (x2 : Int32) (x3 : Int32) (σ : St), rec4 x2 x3 σ = some (r, σr) → Ag (fun p => False) σ σr) (x2 : Int32) (x3 : Int32) (σ : St) (hf : b_X9_setAt_4 N ρ this a1 rec4 x2 x3 σ = some (r, σr)) : Ag (fun p => False) σ σr := by
  unfold b_X9_setAt_4 at hf
  rcases ite_some hf with ⟨_, hf⟩ | ⟨_, hf⟩
  · skip
    cases hf
    exact ag_refl
  · skip
    obtain ⟨_, hf⟩ := gd_some hf
    rcases ite_some hf with ⟨_, hf⟩ | ⟨_, hf⟩
    · skip
      obtain ⟨y4, ey4, hf⟩ := nmd_some hf
      exact m_X9_setAt_25 rec4 hrec4 _ _ _ hf
    · skip
      exact m_X9_setAt_25 rec4 hrec4 _ _ _ hf
theorem m_X9_setAt_4 {N : Nat} {ρ : Nat → Nat → Nat} {this : Nat} {a1 : Int32} {r : Int32} {σr : St} : ∀ (n : Nat) (x2 : Int32) (x3 : Int32) (σ : St), f_X9_setAt_4 N ρ this a1 n x2 x3 σ = some (r, σr) → Ag (fun p => False) σ σr := by
  intro n
  induction n with
  | zero => intro x2 x3 σ hf; cases hf
  | succ n ih => intro x2 x3 σ hf; exact k_X9_setAt_4 _ ih x2 x3 σ hf
theorem m_X9_setAt {N : Nat} {ρ : Nat → Nat → Nat} {this : Nat} {a1 : Int32} {r : Int32} {σr : St} {σ : St} (hf : f_X9_setAt N ρ this a1 σ = some (r, σr)) : Ag (fun p => False) σ σr := by
  unfold f_X9_setAt at hf
  exact m_X9_setAt_4 N _ _ _ hf
theorem m_X9_counting_49 {N : Nat} {ρ : Nat → Nat → Nat} {this : Nat} {a1 : Nat} {a2 : Int32} {r : Int32} {σr : St} (rec5 : Int32 → Int32 → St → Option (Int32 × St)) (hrec5 : ∀ (x3 : Int32) (x4 : Int32) (σ : St), rec5 x3 x4 σ = some (r, σr) → Ag (fun p => p = ρ a1 10 ∨ p = ρ (ρ a1 8) 1) σ σr) (x3 : Int32) (x4 : Int32) (σ : St) (hf : f_X9_counting_49 N ρ this a1 a2 rec5 x3 x4 σ = some (r, σr)) : Ag (fun p => p = ρ a1 10 ∨ p = ρ (ρ a1 8) 1) σ σr := by
  unfold f_X9_counting_49 at hf
  exact hrec5 _ _ _ hf
theorem k_X9_counting_5 {N : Nat} {ρ : Nat → Nat → Nat} {this : Nat} {a1 : Nat} {a2 : Int32} {r : Int32} {σr : St} (rec5 : Int32 → Int32 → St → Option (Int32 × St)) (hrec5 : ∀ (x3 : Int32) (x4 : Int32) (σ : St), rec5 x3 x4 σ = some (r, σr) → Ag (fun p => p = ρ a1 10 ∨ p = ρ (ρ a1 8) 1) σ σr) (x3 : Int32) (x4 : Int32) (σ : St) (hf : b_X9_counting_5 N ρ this a1 a2 rec5 x3 x4 σ = some (r, σr)) : Ag (fun p => p = ρ a1 10 ∨ p = ρ (ρ a1 8) 1) σ σr := by
  unfold b_X9_counting_5 at hf
  rcases ite_some hf with ⟨_, hf⟩ | ⟨_, hf⟩
  · skip
    cases hf
    exact ag_refl
  · skip
    obtain ⟨_, σ3, q1, hf⟩ := bnd_some hf
    refine ag_call (m_X9_setAt q1) (fun _ h => h.elim) ?_
    obtain ⟨_, σ6, q2, hf⟩ := bnd_some hf
    refine ag_call (m_X0_quarrelIn q2) (fun _ h => h.elim) ?_
    rcases ite_some hf with ⟨_, hf⟩ | ⟨_, hf⟩
    · skip
      obtain ⟨_, σ10, q3, hf⟩ := bnd_some hf
      refine ag_call (m_J6_bitCount_0f7a4 q3) (fun _ h => h.elim) ?_
      obtain ⟨_, σ13, q4, hf⟩ := bnd_some hf
      refine ag_call (m_X0_bearing q4) (fun _ h => by
            rcases h with h | h
            · exact (Or.inl h)
            · exact (Or.inr h)) ?_
      obtain ⟨y15, ey15, hf⟩ := nmd_some hf
      exact m_X9_counting_49 rec5 hrec5 _ _ _ hf
    · skip
      exact m_X9_counting_49 rec5 hrec5 _ _ _ hf
theorem m_X9_counting_5 {N : Nat} {ρ : Nat → Nat → Nat} {this : Nat} {a1 : Nat} {a2 : Int32} {r : Int32} {σr : St} : ∀ (n : Nat) (x3 : Int32) (x4 : Int32) (σ : St), f_X9_counting_5 N ρ this a1 a2 n x3 x4 σ = some (r, σr) → Ag (fun p => p = ρ a1 10 ∨ p = ρ (ρ a1 8) 1) σ σr := by
  intro n
  induction n with
  | zero => intro x3 x4 σ hf; cases hf
  | succ n ih => intro x3 x4 σ hf; exact k_X9_counting_5 _ ih x3 x4 σ hf
theorem m_X9_counting {N : Nat} {ρ : Nat → Nat → Nat} {this : Nat} {a1 : Nat} {a2 : Int32} {r : Int32} {σr : St} {σ : St} (hf : f_X9_counting N ρ this a1 a2 σ = some (r, σr)) : Ag (fun p => p = ρ a1 10 ∨ p = ρ (ρ a1 8) 1) σ σr := by
  unfold f_X9_counting at hf
  exact m_X9_counting_5 N _ _ _ hf
theorem m_X9_quarrelling_33 {N : Nat} {ρ : Nat → Nat → Nat} {this : Nat} {a1 : Nat} {r : Int32} {σr : St} (rec4 : Int32 → Int32 → St → Option (Int32 × St)) (hrec4 : ∀ (x2 : Int32) (x3 : Int32) (σ : St), rec4 x2 x3 σ = some (r, σr) → Ag (fun p => False) σ σr) (x2 : Int32) (x3 : Int32) (σ : St) (hf : f_X9_quarrelling_33 N ρ this a1 rec4 x2 x3 σ = some (r, σr)) : Ag (fun p => False) σ σr := by
  unfold f_X9_quarrelling_33 at hf
  exact hrec4 _ _ _ hf
theorem k_X9_quarrelling_4 {N : Nat} {ρ : Nat → Nat → Nat} {this : Nat} {a1 : Nat} {r : Int32} {σr : St} (rec4 : Int32 → Int32 → St → Option (Int32 × St)) (hrec4 : ∀ (x2 : Int32) (x3 : Int32) (σ : St), rec4 x2 x3 σ = some (r, σr) → Ag (fun p => False) σ σr) (x2 : Int32) (x3 : Int32) (σ : St) (hf : b_X9_quarrelling_4 N ρ this a1 rec4 x2 x3 σ = some (r, σr)) : Ag (fun p => False) σ σr := by
  unfold b_X9_quarrelling_4 at hf
  rcases ite_some hf with ⟨_, hf⟩ | ⟨_, hf⟩
  · skip
    cases hf
    exact ag_refl
  · skip
    obtain ⟨_, σ3, q1, hf⟩ := bnd_some hf
    refine ag_call (m_X9_setAt q1) (fun _ h => h.elim) ?_
    obtain ⟨_, σ6, q2, hf⟩ := bnd_some hf
    refine ag_call (m_X0_quarrelIn q2) (fun _ h => h.elim) ?_
    rcases ite_some hf with ⟨_, hf⟩ | ⟨_, hf⟩
    · skip
      exact m_X9_quarrelling_33 rec4 hrec4 _ _ _ hf
    · skip
      obtain ⟨y9, ey9, hf⟩ := nmd_some hf
      exact m_X9_quarrelling_33 rec4 hrec4 _ _ _ hf
theorem m_X9_quarrelling_4 {N : Nat} {ρ : Nat → Nat → Nat} {this : Nat} {a1 : Nat} {r : Int32} {σr : St} : ∀ (n : Nat) (x2 : Int32) (x3 : Int32) (σ : St), f_X9_quarrelling_4 N ρ this a1 n x2 x3 σ = some (r, σr) → Ag (fun p => False) σ σr := by
  intro n
  induction n with
  | zero => intro x2 x3 σ hf; cases hf
  | succ n ih => intro x2 x3 σ hf; exact k_X9_quarrelling_4 _ ih x2 x3 σ hf
theorem m_X9_quarrelling {N : Nat} {ρ : Nat → Nat → Nat} {this : Nat} {a1 : Nat} {r : Int32} {σr : St} {σ : St} (hf : f_X9_quarrelling N ρ this a1 σ = some (r, σr)) : Ag (fun p => False) σ σr := by
  unfold f_X9_quarrelling at hf
  exact m_X9_quarrelling_4 N _ _ _ hf
theorem m_X9_breaking {N : Nat} {ρ : Nat → Nat → Nat} {this : Nat} {a1 : Nat} {r : Int32} {σr : St} {σ : St} (hf : f_X9_breaking N ρ this a1 σ = some (r, σr)) : Ag (fun p => p = ρ a1 10 ∨ p = ρ (ρ a1 8) 1) σ σr := by
  unfold f_X9_breaking at hf
  obtain ⟨_, σ2, q1, hf⟩ := bnd_some hf
  refine ag_call (m_X9_setAt q1) (fun _ h => h.elim) ?_
  obtain ⟨_, σ5, q2, hf⟩ := bnd_some hf
  refine ag_call (m_X0_allStools q2) (fun _ h => h.elim) ?_
  obtain ⟨_, σ8, q3, hf⟩ := bnd_some hf
  refine ag_call (m_X9_quarrelling q3) (fun _ h => h.elim) ?_
  obtain ⟨_, σ11, q4, hf⟩ := bnd_some hf
  refine ag_call (m_X9_counting q4) (fun _ h => by
        rcases h with h | h
        · exact (Or.inl h)
        · exact (Or.inr h)) ?_
  cases hf
  exact ag_refl
theorem m_X9_drawCold_51 {N : Nat} {ρ : Nat → Nat → Nat} {this : Nat} {a1 : Nat} {r : Int32} {σr : St} (rec4 : Int32 → Int32 → St → Option (Int32 × St)) (hrec4 : ∀ (x2 : Int32) (x3 : Int32) (σ : St), rec4 x2 x3 σ = some (r, σr) → Ag (fun p => p = this) σ σr) (x2 : Int32) (x3 : Int32) (σ : St) (hf : f_X9_drawCold_51 N ρ this a1 rec4 x2 x3 σ = some (r, σr)) : Ag (fun p => p = this) σ σr := by
  unfold f_X9_drawCold_51 at hf
  exact hrec4 _ _ _ hf
theorem k_X9_drawCold_4 {N : Nat} {ρ : Nat → Nat → Nat} {this : Nat} {a1 : Nat} {r : Int32} {σr : St} (rec4 : Int32 → Int32 → St → Option (Int32 × St)) (hrec4 : ∀ (x2 : Int32) (x3 : Int32) (σ : St), rec4 x2 x3 σ = some (r, σr) → Ag (fun p => p = this) σ σr) (x2 : Int32) (x3 : Int32) (σ : St) (hf : b_X9_drawCold_4 N ρ this a1 rec4 x2 x3 σ = some (r, σr)) : Ag (fun p => p = this) σ σr := by
  unfold b_X9_drawCold_4 at hf
  rcases ite_some hf with ⟨_, hf⟩ | ⟨_, hf⟩
  · skip
    cases hf
    exact ag_refl
  · skip
    obtain ⟨σ2, eσ2, hf⟩ := nmd_some hf
    refine ag_I eσ2 rfl ?_
    rcases ite_some hf with ⟨_, hf⟩ | ⟨_, hf⟩
    · skip
      exact m_X9_drawCold_51 rec4 hrec4 _ _ _ hf
    · skip
      obtain ⟨y4, ey4, hf⟩ := nmd_some hf
      exact m_X9_drawCold_51 rec4 hrec4 _ _ _ hf
theorem m_X9_drawCold_4 {N : Nat} {ρ : Nat → Nat → Nat} {this : Nat} {a1 : Nat} {r : Int32} {σr : St} : ∀ (n : Nat) (x2 : Int32) (x3 : Int32) (σ : St), f_X9_drawCold_4 N ρ this a1 n x2 x3 σ = some (r, σr) → Ag (fun p => p = this) σ σr := by
  intro n
  induction n with
  | zero => intro x2 x3 σ hf; cases hf
  | succ n ih => intro x2 x3 σ hf; exact k_X9_drawCold_4 _ ih x2 x3 σ hf
theorem m_X9_drawCold {N : Nat} {ρ : Nat → Nat → Nat} {this : Nat} {a1 : Nat} {r : Int32} {σr : St} {σ : St} (hf : f_X9_drawCold N ρ this a1 σ = some (r, σr)) : Ag (fun p => p = this) σ σr := by
  unfold f_X9_drawCold at hf
  exact m_X9_drawCold_4 N _ _ _ hf
theorem m_X9_kneel {N : Nat} {ρ : Nat → Nat → Nat} {this : Nat} {a1 : Nat} {a2 : Int32} {a3 : Int32} {a4 : Int32} {r : Int32} {σr : St} {σ : St} (hf : f_X9_kneel N ρ this a1 a2 a3 a4 σ = some (r, σr)) : Ag (fun p => p = ρ a1 10 ∨ p = ρ (ρ a1 8) 1 ∨ p = ρ (ρ a1 9) 1 ∨ p = ρ this 2 ∨ p = ρ this 1 ∨ p = ρ this 0) σ σr := by
  unfold f_X9_kneel at hf
  obtain ⟨_, σ2, q1, hf⟩ := bnd_some hf
  refine ag_call (m_X0_loadOf q1) (fun _ h => by
        rcases h with h | h
        · exact (Or.inl h)
        · exact (Or.inr (Or.inl h))) ?_
  obtain ⟨_, hf⟩ := gd_some hf
  rcases ite_some hf with ⟨_, hf⟩ | ⟨_, hf⟩
  · skip
    obtain ⟨_, σ7, q2, hf⟩ := bnd_some hf
    refine ag_call (m_X0_wearOf q2) (fun _ h => by
          rcases h with h | h
          · exact (Or.inl h)
          · exact (Or.inr (Or.inr (Or.inl h)))) ?_
    obtain ⟨_, hf⟩ := gd_some hf
    obtain ⟨_, hf⟩ := gd_some hf
    obtain ⟨σ11, eσ11, hf⟩ := nmd_some hf
    refine ag_I eσ11 (Or.inr (Or.inr (Or.inr (Or.inl rfl)))) ?_
    obtain ⟨_, hf⟩ := gd_some hf
    obtain ⟨_, hf⟩ := gd_some hf
    obtain ⟨σ14, eσ14, hf⟩ := nmd_some hf
    refine ag_I eσ14 (Or.inr (Or.inr (Or.inr (Or.inr (Or.inl rfl))))) ?_
    obtain ⟨_, hf⟩ := gd_some hf
    obtain ⟨_, hf⟩ := gd_some hf
    obtain ⟨σ17, eσ17, hf⟩ := nmd_some hf
    refine ag_I eσ17 (Or.inr (Or.inr (Or.inr (Or.inr (Or.inr rfl))))) ?_
    cases hf
    exact ag_refl
  · skip
    obtain ⟨_, hf⟩ := gd_some hf
    obtain ⟨_, hf⟩ := gd_some hf
    obtain ⟨σ20, eσ20, hf⟩ := nmd_some hf
    refine ag_I eσ20 (Or.inr (Or.inr (Or.inr (Or.inr (Or.inr rfl))))) ?_
    cases hf
    exact ag_refl
theorem m_X9_rest {N : Nat} {ρ : Nat → Nat → Nat} {this : Nat} {a1 : Nat} {a2 : Int32} {r : Int32} {σr : St} {σ : St} (hf : f_X9_rest N ρ this a1 a2 σ = some (r, σr)) : Ag (fun p => p = ρ this 0) σ σr := by
  unfold f_X9_rest at hf
  obtain ⟨_, hf⟩ := gd_some hf
  obtain ⟨_, hf⟩ := gd_some hf
  obtain ⟨_, hf⟩ := gd_some hf
  obtain ⟨σ4, eσ4, hf⟩ := nmd_some hf
  refine ag_I eσ4 rfl ?_
  cases hf
  exact ag_refl
theorem m_X9_passEvening_72 {N : Nat} {ρ : Nat → Nat → Nat} {this : Nat} {a1 : Nat} {a2 : Int32} {r : Int32} {σr : St} (rec2 : Int32 → St → Option (Int32 × St)) (hrec2 : ∀ (x3 : Int32) (σ : St), rec2 x3 σ = some (r, σr) → Ag (fun p => p = this ∨ p = ρ a1 10 ∨ p = ρ (ρ a1 8) 1 ∨ p = ρ (ρ a1 9) 1 ∨ p = ρ this 2 ∨ p = ρ this 1 ∨ p = ρ this 0) σ σr) (x3 : Int32) (σ : St) (hf : f_X9_passEvening_72 N ρ this a1 a2 rec2 x3 σ = some (r, σr)) : Ag (fun p => p = this ∨ p = ρ a1 10 ∨ p = ρ (ρ a1 8) 1 ∨ p = ρ (ρ a1 9) 1 ∨ p = ρ this 2 ∨ p = ρ this 1 ∨ p = ρ this 0) σ σr := by
  unfold f_X9_passEvening_72 at hf
  exact hrec2 _ _ hf
theorem k_X9_passEvening_2 {N : Nat} {ρ : Nat → Nat → Nat} {this : Nat} {a1 : Nat} {a2 : Int32} {r : Int32} {σr : St} (rec2 : Int32 → St → Option (Int32 × St)) (hrec2 : ∀ (x3 : Int32) (σ : St), rec2 x3 σ = some (r, σr) → Ag (fun p => p = this ∨ p = ρ a1 10 ∨ p = ρ (ρ a1 8) 1 ∨ p = ρ (ρ a1 9) 1 ∨ p = ρ this 2 ∨ p = ρ this 1 ∨ p = ρ this 0) σ σr) (x3 : Int32) (σ : St) (hf : b_X9_passEvening_2 N ρ this a1 a2 rec2 x3 σ = some (r, σr)) : Ag (fun p => p = this ∨ p = ρ a1 10 ∨ p = ρ (ρ a1 8) 1 ∨ p = ρ (ρ a1 9) 1 ∨ p = ρ this 2 ∨ p = ρ this 1 ∨ p = ρ this 0) σ σr := by
  unfold b_X9_passEvening_2 at hf
  rcases ite_some hf with ⟨_, hf⟩ | ⟨_, hf⟩
  · skip
    obtain ⟨σ2, eσ2, hf⟩ := nmd_some hf
    refine ag_I eσ2 (Or.inl rfl) ?_
    cases hf
    exact ag_refl
  · skip
    obtain ⟨_, hf⟩ := gd_some hf
    obtain ⟨y4, ey4, hf⟩ := nmd_some hf
    obtain ⟨_, σ6, q1, hf⟩ := bnd_some hf
    refine ag_call (m_X9_setAt q1) (fun _ h => h.elim) ?_
    rcases ite_some hf with ⟨_, hf⟩ | ⟨_, hf⟩
    · skip
      rcases ite_some hf with ⟨_, hf⟩ | ⟨_, hf⟩
      · skip
        obtain ⟨_, σ11, q2, hf⟩ := bnd_some hf
        refine ag_call (m_X0_quarrelIn q2) (fun _ h => h.elim) ?_
        rcases ite_some hf with ⟨_, hf⟩ | ⟨_, hf⟩
        · skip
          obtain ⟨_, σ15, q3, hf⟩ := bnd_some hf
          refine ag_call (m_J6_bitCount_0f7a4 q3) (fun _ h => h.elim) ?_
          obtain ⟨_, σ18, q4, hf⟩ := bnd_some hf
          refine ag_call (m_X9_kneel q4) (fun _ h => by
                rcases h with h | h | h | h | h | h
                · exact (Or.inr (Or.inl h))
                · exact (Or.inr (Or.inr (Or.inl h)))
                · exact (Or.inr (Or.inr (Or.inr (Or.inl h))))
                · exact (Or.inr (Or.inr (Or.inr (Or.inr (Or.inl h)))))
                · exact (Or.inr (Or.inr (Or.inr (Or.inr (Or.inr (Or.inl h))))))
                · exact (Or.inr (Or.inr (Or.inr (Or.inr (Or.inr (Or.inr h))))))) ?_
          exact m_X9_passEvening_72 rec2 hrec2 _ _ hf
        · skip
          exact m_X9_passEvening_72 rec2 hrec2 _ _ hf
      · skip
        exact m_X9_passEvening_72 rec2 hrec2 _ _ hf
    · skip
      obtain ⟨_, σ21, q5, hf⟩ := bnd_some hf
      refine ag_call (m_X9_rest q5) (fun _ h => (Or.inr (Or.inr (Or.inr (Or.inr (Or.inr (Or.inr h))))))) ?_
      exact m_X9_passEvening_72 rec2 hrec2 _ _ hf
theorem m_X9_passEvening_2 {N : Nat} {ρ : Nat → Nat → Nat} {this : Nat} {a1 : Nat} {a2 : Int32} {r : Int32} {σr : St} : ∀ (n : Nat) (x3 : Int32) (σ : St), f_X9_passEvening_2 N ρ this a1 a2 n x3 σ = some (r, σr) → Ag (fun p => p = this ∨ p = ρ a1 10 ∨ p = ρ (ρ a1 8) 1 ∨ p = ρ (ρ a1 9) 1 ∨ p = ρ this 2 ∨ p = ρ this 1 ∨ p = ρ this 0) σ σr := by
  intro n
  induction n with
  | zero => intro x3 σ hf; cases hf
  | succ n ih => intro x3 σ hf; exact k_X9_passEvening_2 _ ih x3 σ hf
theorem m_X9_passEvening {N : Nat} {ρ : Nat → Nat → Nat} {this : Nat} {a1 : Nat} {a2 : Int32} {r : Int32} {σr : St} {σ : St} (hf : f_X9_passEvening N ρ this a1 a2 σ = some (r, σr)) : Ag (fun p => p = this ∨ p = ρ a1 10 ∨ p = ρ (ρ a1 8) 1 ∨ p = ρ (ρ a1 9) 1 ∨ p = ρ this 2 ∨ p = ρ this 1 ∨ p = ρ this 0) σ σr := by
  unfold f_X9_passEvening at hf
  exact m_X9_passEvening_2 N _ _ hf
theorem m_X4_begin {N : Nat} {ρ : Nat → Nat → Nat} {this : Nat} {a1 : Nat} {r : Int32} {σr : St} {σ : St} (hf : f_X4_begin N ρ this a1 σ = some (r, σr)) : Ag (fun p => p = this ∨ p = ρ this 0) σ σr := by
  unfold f_X4_begin at hf
  obtain ⟨σ1, eσ1, hf⟩ := nmd_some hf
  refine ag_I eσ1 (Or.inl rfl) ?_
  obtain ⟨σ2, eσ2, hf⟩ := nmd_some hf
  refine ag_I eσ2 (Or.inl rfl) ?_
  obtain ⟨_, σ4, q1, hf⟩ := bnd_some hf
  refine ag_call (m_X9_keepIn q1) (fun _ h => (Or.inr h)) ?_
  cases hf
  exact ag_refl
theorem m_X4_add_32 {N : Nat} {ρ : Nat → Nat → Nat} {this : Nat} {a1 : Nat} {r : Int32} {σr : St} (σ : St) (hf : f_X4_add_32 N ρ this a1 σ = some (r, σr)) : Ag (fun p => p = this ∨ p = ρ this 0) σ σr := by
  unfold f_X4_add_32 at hf
  obtain ⟨σ1, eσ1, hf⟩ := nmd_some hf
  refine ag_I eσ1 (Or.inl rfl) ?_
  obtain ⟨σ2, eσ2, hf⟩ := nmd_some hf
  refine ag_I eσ2 (Or.inl rfl) ?_
  obtain ⟨_, σ4, q1, hf⟩ := bnd_some hf
  refine ag_call (m_X9_keepIn q1) (fun _ h => (Or.inr h)) ?_
  cases hf
  exact ag_refl
theorem m_X4_add {N : Nat} {ρ : Nat → Nat → Nat} {this : Nat} {a1 : Nat} {r : Int32} {σr : St} {σ : St} (hf : f_X4_add N ρ this a1 σ = some (r, σr)) : Ag (fun p => p = this ∨ p = ρ this 0) σ σr := by
  unfold f_X4_add at hf
  rcases ite_some hf with ⟨_, hf⟩ | ⟨_, hf⟩
  · skip
    exact m_X4_add_32 _ hf
  · skip
    obtain ⟨_, hf⟩ := gd_some hf
    obtain ⟨σ8, eσ8, hf⟩ := nmd_some hf
    refine ag_C eσ8 (Or.inr rfl) ?_
    obtain ⟨σ9, eσ9, hf⟩ := nmd_some hf
    refine ag_I eσ9 (Or.inl rfl) ?_
    exact m_X4_add_32 _ hf
theorem m_X4_stepBack {N : Nat} {ρ : Nat → Nat → Nat} {this : Nat} {a1 : Nat} {r : Int32} {σr : St} {σ : St} (hf : f_X4_stepBack N ρ this a1 σ = some (r, σr)) : Ag (fun p => p = this ∨ p = ρ a1 0 ∨ p = ρ a1 1 ∨ p = ρ a1 2 ∨ p = ρ a1 3 ∨ p = a1) σ σr := by
  unfold f_X4_stepBack at hf
  rcases ite_some hf with ⟨_, hf⟩ | ⟨_, hf⟩
  · skip
    cases hf
    exact ag_refl
  · skip
    obtain ⟨σ2, eσ2, hf⟩ := nmd_some hf
    refine ag_I eσ2 (Or.inl rfl) ?_
    obtain ⟨σ3, eσ3, hf⟩ := nmd_some hf
    refine ag_I eσ3 (Or.inl rfl) ?_
    obtain ⟨_, σ5, q1, hf⟩ := bnd_some hf
    refine ag_call (m_X9_takeFrom q1) (fun _ h => by
          rcases h with h | h | h | h | h
          · exact (Or.inr (Or.inl h))
          · exact (Or.inr (Or.inr (Or.inl h)))
          · exact (Or.inr (Or.inr (Or.inr (Or.inl h))))
          · exact (Or.inr (Or.inr (Or.inr (Or.inr (Or.inl h)))))
          · exact (Or.inr (Or.inr (Or.inr (Or.inr (Or.inr h)))))) ?_
    cases hf
    exact ag_refl
theorem m_X4_stepOn {N : Nat} {ρ : Nat → Nat → Nat} {this : Nat} {a1 : Nat} {r : Int32} {σr : St} {σ : St} (hf : f_X4_stepOn N ρ this a1 σ = some (r, σr)) : Ag (fun p => p = this ∨ p = ρ a1 0 ∨ p = ρ a1 1 ∨ p = ρ a1 2 ∨ p = ρ a1 3 ∨ p = a1) σ σr := by
  unfold f_X4_stepOn at hf
  rcases ite_some hf with ⟨_, hf⟩ | ⟨_, hf⟩
  · skip
    cases hf
    exact ag_refl
  · skip
    obtain ⟨σ2, eσ2, hf⟩ := nmd_some hf
    refine ag_I eσ2 (Or.inl rfl) ?_
    obtain ⟨σ3, eσ3, hf⟩ := nmd_some hf
    refine ag_I eσ3 (Or.inl rfl) ?_
    obtain ⟨_, σ5, q1, hf⟩ := bnd_some hf
    refine ag_call (m_X9_takeFrom q1) (fun _ h => by
          rcases h with h | h | h | h | h
          · exact (Or.inr (Or.inl h))
          · exact (Or.inr (Or.inr (Or.inl h)))
          · exact (Or.inr (Or.inr (Or.inr (Or.inl h))))
          · exact (Or.inr (Or.inr (Or.inr (Or.inr (Or.inl h)))))
          · exact (Or.inr (Or.inr (Or.inr (Or.inr (Or.inr h)))))) ?_
    cases hf
    exact ag_refl
theorem m_X3_worthAt_24 {N : Nat} {ρ : Nat → Nat → Nat} {this : Nat} {a1 : Int32} {a2 : Int32} {a3 : Int32} {r : Int32} {σr : St} (s0 : Int32) (σ : St) (hf : f_X3_worthAt_24 N ρ this a1 a2 a3 s0 σ = some (r, σr)) : Ag (fun p => False) σ σr := by
  unfold f_X3_worthAt_24 at hf
  cases hf
  exact ag_refl
theorem m_X3_worthAt {N : Nat} {ρ : Nat → Nat → Nat} {this : Nat} {a1 : Int32} {a2 : Int32} {a3 : Int32} {r : Int32} {σr : St} {σ : St} (hf : f_X3_worthAt N ρ this a1 a2 a3 σ = some (r, σr)) : Ag (fun p => False) σ σr := by
  unfold f_X3_worthAt at hf
  rcases ite_some hf with ⟨_, hf⟩ | ⟨_, hf⟩
  · skip
    obtain ⟨_, hf⟩ := gd_some hf
    obtain ⟨_, hf⟩ := gd_some hf
    exact m_X3_worthAt_24 _ _ hf
  · skip
    obtain ⟨_, hf⟩ := gd_some hf
    obtain ⟨_, hf⟩ := gd_some hf
    exact m_X3_worthAt_24 _ _ hf
theorem k_X3_staysAt_12 {N : Nat} {ρ : Nat → Nat → Nat} {this : Nat} {a1 : Int32} {a2 : Int32} {a3 : Int32} {a4 : Int32} {r : Int32} {σr : St} (rec12 : Int32 → Int32 → St → Option (Int32 × St)) (hrec12 : ∀ (x5 : Int32) (x6 : Int32) (σ : St), rec12 x5 x6 σ = some (r, σr) → Ag (fun p => False) σ σr) (x5 : Int32) (x6 : Int32) (σ : St) (hf : b_X3_staysAt_12 N ρ this a1 a2 a3 a4 rec12 x5 x6 σ = some (r, σr)) : Ag (fun p => False) σ σr := by
  unfold b_X3_staysAt_12 at hf
  rcases ite_some hf with ⟨_, hf⟩ | ⟨_, hf⟩
  · skip
    cases hf
    exact ag_refl
  · skip
    obtain ⟨_, σ3, q1, hf⟩ := bnd_some hf
    refine ag_call (m_X3_worthAt q1) (fun _ h => h.elim) ?_
    rcases ite_some hf with ⟨_, hf⟩ | ⟨_, hf⟩
    · skip
      exact hrec12 _ _ _ hf
    · skip
      cases hf
      exact ag_refl
theorem m_X3_staysAt_12 {N : Nat} {ρ : Nat → Nat → Nat} {this : Nat} {a1 : Int32} {a2 : Int32} {a3 : Int32} {a4 : Int32} {r : Int32} {σr : St} : ∀ (n : Nat) (x5 : Int32) (x6 : Int32) (σ : St), f_X3_staysAt_12 N ρ this a1 a2 a3 a4 n x5 x6 σ = some (r, σr) → Ag (fun p => False) σ σr := by
  intro n
  induction n with
  | zero => intro x5 x6 σ hf; cases hf
  | succ n ih => intro x5 x6 σ hf; exact k_X3_staysAt_12 _ ih x5 x6 σ hf
theorem m_X3_staysAt {N : Nat} {ρ : Nat → Nat → Nat} {this : Nat} {a1 : Int32} {a2 : Int32} {a3 : Int32} {a4 : Int32} {r : Int32} {σr : St} {σ : St} (hf : f_X3_staysAt N ρ this a1 a2 a3 a4 σ = some (r, σr)) : Ag (fun p => False) σ σr := by
  unfold f_X3_staysAt at hf
  obtain ⟨_, σ7, q1, hf⟩ := bnd_some hf
  refine ag_call (m_X3_worthAt q1) (fun _ h => h.elim) ?_
  exact m_X3_staysAt_12 N _ _ _ hf
theorem m_X3_worth_33 {N : Nat} {ρ : Nat → Nat → Nat} {a1 : Nat} {a2 : Int32} {a3 : Int32} {a4 : Int32} {r : Int32} {σr : St} (s0 : Int32) (s1 : Int32) (σ : St) (hf : f_X3_worth_33 N ρ a1 a2 a3 a4 s0 s1 σ = some (r, σr)) : Ag (fun p => False) σ σr := by
  unfold f_X3_worth_33 at hf
  cases hf
  exact ag_refl
theorem m_X3_worth_13 {N : Nat} {ρ : Nat → Nat → Nat} {a1 : Nat} {a2 : Int32} {a3 : Int32} {a4 : Int32} {r : Int32} {σr : St} (s0 : Int32) (σ : St) (hf : f_X3_worth_13 N ρ a1 a2 a3 a4 s0 σ = some (r, σr)) : Ag (fun p => False) σ σr := by
  unfold f_X3_worth_13 at hf
  obtain ⟨_, σ2, q1, hf⟩ := bnd_some hf
  refine ag_call (m_X0_wayOf q1) (fun _ h => h.elim) ?_
  rcases ite_some hf with ⟨_, hf⟩ | ⟨_, hf⟩
  · skip
    exact m_X3_worth_33 _ _ _ hf
  · skip
    exact m_X3_worth_33 _ _ _ hf
theorem m_X3_worth {N : Nat} {ρ : Nat → Nat → Nat} {a1 : Nat} {a2 : Int32} {a3 : Int32} {a4 : Int32} {r : Int32} {σr : St} {σ : St} (hf : f_X3_worth N ρ a1 a2 a3 a4 σ = some (r, σr)) : Ag (fun p => False) σ σr := by
  unfold f_X3_worth at hf
  rcases ite_some hf with ⟨_, hf⟩ | ⟨_, hf⟩
  · skip
    exact m_X3_worth_13 _ _ hf
  · skip
    exact m_X3_worth_13 _ _ hf
theorem m_X3_weigh_68 {N : Nat} {ρ : Nat → Nat → Nat} {this : Nat} {a1 : Nat} {a2 : Nat} {a3 : Int32} {a4 : Int32} {a5 : Int32} {r : Int32} {σr : St} (x7 : Int32) (s0 : Int32) (σ : St) (hf : f_X3_weigh_68 N ρ this a1 a2 a3 a4 a5 x7 s0 σ = some (r, σr)) : Ag (fun p => (∃ j, p = ρ (ρ this 0) j) ∨ (∃ j, p = ρ (ρ this 1) j) ∨ p = ρ a1 10 ∨ p = ρ (ρ a1 8) 1) σ σr := by
  unfold f_X3_weigh_68 at hf
  obtain ⟨_, hf⟩ := gd_some hf
  obtain ⟨_, σ3, q1, hf⟩ := bnd_some hf
  refine ag_call (m_X3_worth q1) (fun _ h => h.elim) ?_
  obtain ⟨_, hf⟩ := gd_some hf
  obtain ⟨σ6, eσ6, hf⟩ := nmd_some hf
  refine ag_I eσ6 (Or.inl ⟨_, rfl⟩) ?_
  obtain ⟨_, hf⟩ := gd_some hf
  obtain ⟨_, σ9, q2, hf⟩ := bnd_some hf
  refine ag_call (m_X3_worth q2) (fun _ h => h.elim) ?_
  obtain ⟨_, hf⟩ := gd_some hf
  obtain ⟨σ12, eσ12, hf⟩ := nmd_some hf
  refine ag_I eσ12 (Or.inl ⟨_, rfl⟩) ?_
  obtain ⟨_, hf⟩ := gd_some hf
  obtain ⟨_, σ15, q3, hf⟩ := bnd_some hf
  refine ag_call (m_X3_worth q3) (fun _ h => h.elim) ?_
  obtain ⟨_, hf⟩ := gd_some hf
  obtain ⟨σ18, eσ18, hf⟩ := nmd_some hf
  refine ag_I eσ18 (Or.inr (Or.inl ⟨_, rfl⟩)) ?_
  obtain ⟨_, hf⟩ := gd_some hf
  obtain ⟨_, σ21, q4, hf⟩ := bnd_some hf
  refine ag_call (m_X3_worth q4) (fun _ h => h.elim) ?_
  obtain ⟨_, hf⟩ := gd_some hf
  obtain ⟨σ24, eσ24, hf⟩ := nmd_some hf
  refine ag_I eσ24 (Or.inr (Or.inl ⟨_, rfl⟩)) ?_
  cases hf
  exact ag_refl
theorem m_X3_weigh_47 {N : Nat} {ρ : Nat → Nat → Nat} {this : Nat} {a1 : Nat} {a2 : Nat} {a3 : Int32} {a4 : Int32} {a5 : Int32} {r : Int32} {σr : St} (x6 : Int32) (x7 : Int32) (s0 : Int32) (σ : St) (hf : f_X3_weigh_47 N ρ this a1 a2 a3 a4 a5 x6 x7 s0 σ = some (r, σr)) : Ag (fun p => (∃ j, p = ρ (ρ this 0) j) ∨ (∃ j, p = ρ (ρ this 1) j) ∨ p = ρ a1 10 ∨ p = ρ (ρ a1 8) 1) σ σr := by
  unfold f_X3_weigh_47 at hf
  rcases ite_some hf with ⟨_, hf⟩ | ⟨_, hf⟩
  · skip
    exact m_X3_weigh_68 _ _ _ hf
  · skip
    obtain ⟨_, σ27, q1, hf⟩ := bnd_some hf
    refine ag_call (m_X0_bearing q1) (fun _ h => by
          rcases h with h | h
          · exact (Or.inr (Or.inr (Or.inl h)))
          · exact (Or.inr (Or.inr (Or.inr h)))) ?_
    exact m_X3_weigh_68 _ _ _ hf
theorem m_X3_weigh_46 {N : Nat} {ρ : Nat → Nat → Nat} {this : Nat} {a1 : Nat} {a2 : Nat} {a3 : Int32} {a4 : Int32} {a5 : Int32} {r : Int32} {σr : St} (x6 : Int32) (x7 : Int32) (σ : St) (hf : f_X3_weigh_46 N ρ this a1 a2 a3 a4 a5 x6 x7 σ = some (r, σr)) : Ag (fun p => (∃ j, p = ρ (ρ this 0) j) ∨ (∃ j, p = ρ (ρ this 1) j) ∨ p = ρ a1 10 ∨ p = ρ (ρ a1 8) 1) σ σr := by
  unfold f_X3_weigh_46 at hf
  exact m_X3_weigh_47 _ _ _ _ hf
theorem m_X3_weigh {N : Nat} {ρ : Nat → Nat → Nat} {this : Nat} {a1 : Nat} {a2 : Nat} {a3 : Int32} {a4 : Int32} {a5 : Int32} {r : Int32} {σr : St} {σ : St} (hf : f_X3_weigh N ρ this a1 a2 a3 a4 a5 σ = some (r, σr)) : Ag (fun p => (∃ j, p = ρ (ρ this 0) j) ∨ (∃ j, p = ρ (ρ this 1) j) ∨ p = ρ a1 10 ∨ p = ρ (ρ a1 8) 1) σ σr := by
  unfold f_X3_weigh at hf
  obtain ⟨y29, ey29, hf⟩ := nmd_some hf
  obtain ⟨_, σ31, q1, hf⟩ := bnd_some hf
  refine ag_call (m_X0_bearing q1) (fun _ h => by
        rcases h with h | h
        · exact (Or.inr (Or.inr (Or.inl h)))
        · exact (Or.inr (Or.inr (Or.inr h)))) ?_
  obtain ⟨_, hf⟩ := gd_some hf
  rcases ite_some hf with ⟨_, hf⟩ | ⟨_, hf⟩
  · skip
    exact m_X3_weigh_46 _ _ _ hf
  · skip
    obtain ⟨_, σ36, q2, hf⟩ := bnd_some hf
    refine ag_call (m_X0_quarrelIn q2) (fun _ h => h.elim) ?_
    rcases ite_some hf with ⟨_, hf⟩ | ⟨_, hf⟩
    · skip
      exact m_X3_weigh_47 _ _ _ _ hf
    · skip
      exact m_X3_weigh_46 _ _ _ hf
theorem m_X3_findRests_108 {N : Nat} {ρ : Nat → Nat → Nat} {this : Nat} {a1 : Nat} {a2 : Nat} {a3 : Int32} {a4 : Int32} {r : Int32} {σr : St} (rec35 : Int32 → Int32 → St → Option (Int32 × St)) (hrec35 : ∀ (x5 : Int32) (x6 : Int32) (σ : St), rec35 x5 x6 σ = some (r, σr) → Ag (fun p => p = this ∨ (∃ j, p = ρ (ρ this 0) j) ∨ (∃ j, p = ρ (ρ this 1) j) ∨ p = ρ a1 10 ∨ p = ρ (ρ a1 8) 1) σ σr) (rec47 : Int32 → Int32 → Int32 → St → Option (Int32 × St)) (hrec47 : ∀ (x5 : Int32) (x6 : Int32) (x7 : Int32) (σ : St), rec47 x5 x6 x7 σ = some (r, σr) → Ag (fun p => p = this ∨ (∃ j, p = ρ (ρ this 0) j) ∨ (∃ j, p = ρ (ρ this 1) j) ∨ p = ρ a1 10 ∨ p = ρ (ρ a1 8) 1) σ σr) (x5 : Int32) (x6 : Int32) (x7 : Int32) (σ : St) (hf : f_X3_findRests_108 N ρ this a1 a2 a3 a4 rec35 rec47 x5 x6 x7 σ = some (r, σr)) : Ag (fun p => p = this ∨ (∃ j, p = ρ (ρ this 0) j) ∨ (∃ j, p = ρ (ρ this 1) j) ∨ p = ρ a1 10 ∨ p = ρ (ρ a1 8) 1) σ σr := by
  unfold f_X3_findRests_108 at hf
  exact hrec47 _ _ _ _ hf
theorem m_X3_findRests_105 {N : Nat} {ρ : Nat → Nat → Nat} {this : Nat} {a1 : Nat} {a2 : Nat} {a3 : Int32} {a4 : Int32} {r : Int32} {σr : St} (rec35 : Int32 → Int32 → St → Option (Int32 × St)) (hrec35 : ∀ (x5 : Int32) (x6 : Int32) (σ : St), rec35 x5 x6 σ = some (r, σr) → Ag (fun p => p = this ∨ (∃ j, p = ρ (ρ this 0) j) ∨ (∃ j, p = ρ (ρ this 1) j) ∨ p = ρ a1 10 ∨ p = ρ (ρ a1 8) 1) σ σr) (rec47 : Int32 → Int32 → Int32 → St → Option (Int32 × St)) (hrec47 : ∀ (x5 : Int32) (x6 : Int32) (x7 : Int32) (σ : St), rec47 x5 x6 x7 σ = some (r, σr) → Ag (fun p => p = this ∨ (∃ j, p = ρ (ρ this 0) j) ∨ (∃ j, p = ρ (ρ this 1) j) ∨ p = ρ a1 10 ∨ p = ρ (ρ a1 8) 1) σ σr) (x5 : Int32) (x6 : Int32) (x7 : Int32) (σ : St) (hf : f_X3_findRests_105 N ρ this a1 a2 a3 a4 rec35 rec47 x5 x6 x7 σ = some (r, σr)) : Ag (fun p => p = this ∨ (∃ j, p = ρ (ρ this 0) j) ∨ (∃ j, p = ρ (ρ this 1) j) ∨ p = ρ a1 10 ∨ p = ρ (ρ a1 8) 1) σ σr := by
  unfold f_X3_findRests_105 at hf
  exact m_X3_findRests_108 rec35 hrec35 rec47 hrec47 _ _ _ _ hf
theorem k_X3_findRests_47 {N : Nat} {ρ : Nat → Nat → Nat} {this : Nat} {a1 : Nat} {a2 : Nat} {a3 : Int32} {a4 : Int32} {r : Int32} {σr : St} (rec35 : Int32 → Int32 → St → Option (Int32 × St)) (hrec35 : ∀ (x5 : Int32) (x6 : Int32) (σ : St), rec35 x5 x6 σ = some (r, σr) → Ag (fun p => p = this ∨ (∃ j, p = ρ (ρ this 0) j) ∨ (∃ j, p = ρ (ρ this 1) j) ∨ p = ρ a1 10 ∨ p = ρ (ρ a1 8) 1) σ σr) (rec47 : Int32 → Int32 → Int32 → St → Option (Int32 × St)) (hrec47 : ∀ (x5 : Int32) (x6 : Int32) (x7 : Int32) (σ : St), rec47 x5 x6 x7 σ = some (r, σr) → Ag (fun p => p = this ∨ (∃ j, p = ρ (ρ this 0) j) ∨ (∃ j, p = ρ (ρ this 1) j) ∨ p = ρ a1 10 ∨ p = ρ (ρ a1 8) 1) σ σr) (x5 : Int32) (x6 : Int32) (x7 : Int32) (σ : St) (hf : b_X3_findRests_47 N ρ this a1 a2 a3 a4 rec35 rec47 x5 x6 x7 σ = some (r, σr)) : Ag (fun p => p = this ∨ (∃ j, p = ρ (ρ this 0) j) ∨ (∃ j, p = ρ (ρ this 1) j) ∨ p = ρ a1 10 ∨ p = ρ (ρ a1 8) 1) σ σr := by
  unfold b_X3_findRests_47 at hf
  rcases ite_some hf with ⟨_, hf⟩ | ⟨_, hf⟩
  · skip
    exact hrec35 _ _ _ hf
  · skip
    obtain ⟨_, σ3, q1, hf⟩ := bnd_some hf
    refine ag_call (m_X3_staysAt q1) (fun _ h => h.elim) ?_
    rcases ite_some hf with ⟨_, hf⟩ | ⟨_, hf⟩
    · skip
      exact m_X3_findRests_108 rec35 hrec35 rec47 hrec47 _ _ _ _ hf
    · skip
      obtain ⟨_, σ7, q2, hf⟩ := bnd_some hf
      refine ag_call (m_X3_staysAt q2) (fun _ h => h.elim) ?_
      rcases ite_some hf with ⟨_, hf⟩ | ⟨_, hf⟩
      · skip
        exact m_X3_findRests_108 rec35 hrec35 rec47 hrec47 _ _ _ _ hf
      · skip
        rcases ite_some hf with ⟨_, hf⟩ | ⟨_, hf⟩
        · skip
          obtain ⟨σ11, eσ11, hf⟩ := nmd_some hf
          refine ag_I eσ11 (Or.inl rfl) ?_
          obtain ⟨σ12, eσ12, hf⟩ := nmd_some hf
          refine ag_I eσ12 (Or.inl rfl) ?_
          exact m_X3_findRests_105 rec35 hrec35 rec47 hrec47 _ _ _ _ hf
        · skip
          exact m_X3_findRests_105 rec35 hrec35 rec47 hrec47 _ _ _ _ hf
theorem m_X3_findRests_47 {N : Nat} {ρ : Nat → Nat → Nat} {this : Nat} {a1 : Nat} {a2 : Nat} {a3 : Int32} {a4 : Int32} {r : Int32} {σr : St} (rec35 : Int32 → Int32 → St → Option (Int32 × St)) (hrec35 : ∀ (x5 : Int32) (x6 : Int32) (σ : St), rec35 x5 x6 σ = some (r, σr) → Ag (fun p => p = this ∨ (∃ j, p = ρ (ρ this 0) j) ∨ (∃ j, p = ρ (ρ this 1) j) ∨ p = ρ a1 10 ∨ p = ρ (ρ a1 8) 1) σ σr) : ∀ (n : Nat) (x5 : Int32) (x6 : Int32) (x7 : Int32) (σ : St), f_X3_findRests_47 N ρ this a1 a2 a3 a4 rec35 n x5 x6 x7 σ = some (r, σr) → Ag (fun p => p = this ∨ (∃ j, p = ρ (ρ this 0) j) ∨ (∃ j, p = ρ (ρ this 1) j) ∨ p = ρ a1 10 ∨ p = ρ (ρ a1 8) 1) σ σr := by
  intro n
  induction n with
  | zero => intro x5 x6 x7 σ hf; cases hf
  | succ n ih => intro x5 x6 x7 σ hf; exact k_X3_findRests_47 rec35 hrec35 _ ih x5 x6 x7 σ hf
theorem k_X3_findRests_35 {N : Nat} {ρ : Nat → Nat → Nat} {this : Nat} {a1 : Nat} {a2 : Nat} {a3 : Int32} {a4 : Int32} {r : Int32} {σr : St} (rec35 : Int32 → Int32 → St → Option (Int32 × St)) (hrec35 : ∀ (x5 : Int32) (x6 : Int32) (σ : St), rec35 x5 x6 σ = some (r, σr) → Ag (fun p => p = this ∨ (∃ j, p = ρ (ρ this 0) j) ∨ (∃ j, p = ρ (ρ this 1) j) ∨ p = ρ a1 10 ∨ p = ρ (ρ a1 8) 1) σ σr) (x5 : Int32) (x6 : Int32) (σ : St) (hf : b_X3_findRests_35 N ρ this a1 a2 a3 a4 rec35 x5 x6 σ = some (r, σr)) : Ag (fun p => p = this ∨ (∃ j, p = ρ (ρ this 0) j) ∨ (∃ j, p = ρ (ρ this 1) j) ∨ p = ρ a1 10 ∨ p = ρ (ρ a1 8) 1) σ σr := by
  unfold b_X3_findRests_35 at hf
  rcases ite_some hf with ⟨_, hf⟩ | ⟨_, hf⟩
  · skip
    cases hf
    exact ag_refl
  · skip
    exact m_X3_findRests_47 rec35 hrec35 N _ _ _ _ hf
theorem m_X3_findRests_35 {N : Nat} {ρ : Nat → Nat → Nat} {this : Nat} {a1 : Nat} {a2 : Nat} {a3 : Int32} {a4 : Int32} {r : Int32} {σr : St} : ∀ (n : Nat) (x5 : Int32) (x6 : Int32) (σ : St), f_X3_findRests_35 N ρ this a1 a2 a3 a4 n x5 x6 σ = some (r, σr) → Ag (fun p => p = this ∨ (∃ j, p = ρ (ρ this 0) j) ∨ (∃ j, p = ρ (ρ this 1) j) ∨ p = ρ a1 10 ∨ p = ρ (ρ a1 8) 1) σ σr := by
  intro n
  induction n with
  | zero => intro x5 x6 σ hf; cases hf
  | succ n ih => intro x5 x6 σ hf; exact k_X3_findRests_35 _ ih x5 x6 σ hf
theorem k_X3_findRests_3 {N : Nat} {ρ : Nat → Nat → Nat} {this : Nat} {a1 : Nat} {a2 : Nat} {a3 : Int32} {a4 : Int32} {r : Int32} {σr : St} (rec3 : Int32 → St → Option (Int32 × St)) (hrec3 : ∀ (x5 : Int32) (σ : St), rec3 x5 σ = some (r, σr) → Ag (fun p => p = this ∨ (∃ j, p = ρ (ρ this 0) j) ∨ (∃ j, p = ρ (ρ this 1) j) ∨ p = ρ a1 10 ∨ p = ρ (ρ a1 8) 1) σ σr) (x5 : Int32) (σ : St) (hf : b_X3_findRests_3 N ρ this a1 a2 a3 a4 rec3 x5 σ = some (r, σr)) : Ag (fun p => p = this ∨ (∃ j, p = ρ (ρ this 0) j) ∨ (∃ j, p = ρ (ρ this 1) j) ∨ p = ρ a1 10 ∨ p = ρ (ρ a1 8) 1) σ σr := by
  unfold b_X3_findRests_3 at hf
  rcases ite_some hf with ⟨_, hf⟩ | ⟨_, hf⟩
  · skip
    exact m_X3_findRests_35 N _ _ _ hf
  · skip
    obtain ⟨_, σ16, q1, hf⟩ := bnd_some hf
    refine ag_call (m_X3_weigh q1) (fun _ h => by
          rcases h with h | h | h | h
          · exact (Or.inr (Or.inl h))
          · exact (Or.inr (Or.inr (Or.inl h)))
          · exact (Or.inr (Or.inr (Or.inr (Or.inl h))))
          · exact (Or.inr (Or.inr (Or.inr (Or.inr h))))) ?_
    exact hrec3 _ _ hf
theorem m_X3_findRests_3 {N : Nat} {ρ : Nat → Nat → Nat} {this : Nat} {a1 : Nat} {a2 : Nat} {a3 : Int32} {a4 : Int32} {r : Int32} {σr : St} : ∀ (n : Nat) (x5 : Int32) (σ : St), f_X3_findRests_3 N ρ this a1 a2 a3 a4 n x5 σ = some (r, σr) → Ag (fun p => p = this ∨ (∃ j, p = ρ (ρ this 0) j) ∨ (∃ j, p = ρ (ρ this 1) j) ∨ p = ρ a1 10 ∨ p = ρ (ρ a1 8) 1) σ σr := by
  intro n
  induction n with
  | zero => intro x5 σ hf; cases hf
  | succ n ih => intro x5 σ hf; exact k_X3_findRests_3 _ ih x5 σ hf
theorem m_X3_findRests {N : Nat} {ρ : Nat → Nat → Nat} {this : Nat} {a1 : Nat} {a2 : Nat} {a3 : Int32} {a4 : Int32} {r : Int32} {σr : St} {σ : St} (hf : f_X3_findRests N ρ this a1 a2 a3 a4 σ = some (r, σr)) : Ag (fun p => p = this ∨ (∃ j, p = ρ (ρ this 0) j) ∨ (∃ j, p = ρ (ρ this 1) j) ∨ p = ρ a1 10 ∨ p = ρ (ρ a1 8) 1) σ σr := by
  unfold f_X3_findRests at hf
  exact m_X3_findRests_3 N _ _ hf
theorem m_X8_goOnWithHearth_115 {N : Nat} {ρ : Nat → Nat → Nat} {this : Nat} {a1 : Int32} {r : Int32} {σr : St} (rec17 : Int32 → St → Option (Int32 × St)) (hrec17 : ∀ (x2 : Int32) (σ : St), rec17 x2 σ = some (r, σr) → Ag (fun p => p = ρ this 0 ∨ p = ρ this 1) σ σr) (rec32 : Int32 → Int32 → St → Option (Int32 × St)) (hrec32 : ∀ (x2 : Int32) (x3 : Int32) (σ : St), rec32 x2 x3 σ = some (r, σr) → Ag (fun p => p = ρ this 0 ∨ p = ρ this 1) σ σr) (x2 : Int32) (x3 : Int32) (σ : St) (hf : f_X8_goOnWithHearth_115 N ρ this a1 rec17 rec32 x2 x3 σ = some (r, σr)) : Ag (fun p => p = ρ this 0 ∨ p = ρ this 1) σ σr := by
  unfold f_X8_goOnWithHearth_115 at hf
  exact hrec32 _ _ _ hf
theorem m_X8_goOnWithHearth_50 {N : Nat} {ρ : Nat → Nat → Nat} {this : Nat} {a1 : Int32} {r : Int32} {σr : St} (rec17 : Int32 → St → Option (Int32 × St)) (hrec17 : ∀ (x2 : Int32) (σ : St), rec17 x2 σ = some (r, σr) → Ag (fun p => p = ρ this 0 ∨ p = ρ this 1) σ σr) (rec32 : Int32 → Int32 → St → Option (Int32 × St)) (hrec32 : ∀ (x2 : Int32) (x3 : Int32) (σ : St), rec32 x2 x3 σ = some (r, σr) → Ag (fun p => p = ρ this 0 ∨ p = ρ this 1) σ σr) (x2 : Int32) (x3 : Int32) (s0 : Int32) (σ : St) (hf : f_X8_goOnWithHearth_50 N ρ this a1 rec17 rec32 x2 x3 s0 σ = some (r, σr)) : Ag (fun p => p = ρ this 0 ∨ p = ρ this 1) σ σr := by
  unfold f_X8_goOnWithHearth_50 at hf
  rcases ite_some hf with ⟨_, hf⟩ | ⟨_, hf⟩
  · skip
    exact m_X8_goOnWithHearth_115 rec17 hrec17 rec32 hrec32 _ _ _ hf
  · skip
    obtain ⟨_, hf⟩ := gd_some hf
    rcases ite_some hf with ⟨_, hf⟩ | ⟨_, hf⟩
    · skip
      exact m_X8_goOnWithHearth_115 rec17 hrec17 rec32 hrec32 _ _ _ hf
    · skip
      obtain ⟨_, hf⟩ := gd_some hf
      rcases ite_some hf with ⟨_, hf⟩ | ⟨_, hf⟩
      · skip
        exact m_X8_goOnWithHearth_115 rec17 hrec17 rec32 hrec32 _ _ _ hf
      · skip
        obtain ⟨_, hf⟩ := gd_some hf
        obtain ⟨_, hf⟩ := gd_some hf
        obtain ⟨_, hf⟩ := gd_some hf
        obtain ⟨_, hf⟩ := gd_some hf
        obtain ⟨σ10, eσ10, hf⟩ := nmd_some hf
        refine ag_I eσ10 (Or.inl rfl) ?_
        exact m_X8_goOnWithHearth_115 rec17 hrec17 rec32 hrec32 _ _ _ hf
theorem k_X8_goOnWithHearth_32 {N : Nat} {ρ : Nat → Nat → Nat} {this : Nat} {a1 : Int32} {r : Int32} {σr : St} (rec17 : Int32 → St → Option (Int32 × St)) (hrec17 : ∀ (x2 : Int32) (σ : St), rec17 x2 σ = some (r, σr) → Ag (fun p => p = ρ this 0 ∨ p = ρ this 1) σ σr) (rec32 : Int32 → Int32 → St → Option (Int32 × St)) (hrec32 : ∀ (x2 : Int32) (x3 : Int32) (σ : St), rec32 x2 x3 σ = some (r, σr) → Ag (fun p => p = ρ this 0 ∨ p = ρ this 1) σ σr) (x2 : Int32) (x3 : Int32) (σ : St) (hf : b_X8_goOnWithHearth_32 N ρ this a1 rec17 rec32 x2 x3 σ = some (r, σr)) : Ag (fun p => p = ρ this 0 ∨ p = ρ this 1) σ σr := by
  unfold b_X8_goOnWithHearth_32 at hf
  rcases ite_some hf with ⟨_, hf⟩ | ⟨_, hf⟩
  · skip
    exact hrec17 _ _ hf
  · skip
    rcases ite_some hf with ⟨_, hf⟩ | ⟨_, hf⟩
    · skip
      exact m_X8_goOnWithHearth_50 rec17 hrec17 rec32 hrec32 _ _ _ _ hf
    · skip
      exact m_X8_goOnWithHearth_50 rec17 hrec17 rec32 hrec32 _ _ _ _ hf
theorem m_X8_goOnWithHearth_32 {N : Nat} {ρ : Nat → Nat → Nat} {this : Nat} {a1 : Int32} {r : Int32} {σr : St} (rec17 : Int32 → St → Option (Int32 × St)) (hrec17 : ∀ (x2 : Int32) (σ : St), rec17 x2 σ = some (r, σr) → Ag (fun p => p = ρ this 0 ∨ p = ρ this 1) σ σr) : ∀ (n : Nat) (x2 : Int32) (x3 : Int32) (σ : St), f_X8_goOnWithHearth_32 N ρ this a1 rec17 n x2 x3 σ = some (r, σr) → Ag (fun p => p = ρ this 0 ∨ p = ρ this 1) σ σr := by
  intro n
  induction n with
  | zero => intro x2 x3 σ hf; cases hf
  | succ n ih => intro x2 x3 σ hf; exact k_X8_goOnWithHearth_32 rec17 hrec17 _ ih x2 x3 σ hf
theorem k_X8_goOnWithHearth_17 {N : Nat} {ρ : Nat → Nat → Nat} {this : Nat} {a1 : Int32} {r : Int32} {σr : St} (rec17 : Int32 → St → Option (Int32 × St)) (hrec17 : ∀ (x2 : Int32) (σ : St), rec17 x2 σ = some (r, σr) → Ag (fun p => p = ρ this 0 ∨ p = ρ this 1) σ σr) (x2 : Int32) (σ : St) (hf : b_X8_goOnWithHearth_17 N ρ this a1 rec17 x2 σ = some (r, σr)) : Ag (fun p => p = ρ this 0 ∨ p = ρ this 1) σ σr := by
  unfold b_X8_goOnWithHearth_17 at hf
  rcases ite_some hf with ⟨_, hf⟩ | ⟨_, hf⟩
  · skip
    cases hf
    exact ag_refl
  · skip
    obtain ⟨_, hf⟩ := gd_some hf
    obtain ⟨σ15, eσ15, hf⟩ := nmd_some hf
    refine ag_I eσ15 (Or.inl rfl) ?_
    exact m_X8_goOnWithHearth_32 rec17 hrec17 N _ _ _ hf
theorem m_X8_goOnWithHearth_17 {N : Nat} {ρ : Nat → Nat → Nat} {this : Nat} {a1 : Int32} {r : Int32} {σr : St} : ∀ (n : Nat) (x2 : Int32) (σ : St), f_X8_goOnWithHearth_17 N ρ this a1 n x2 σ = some (r, σr) → Ag (fun p => p = ρ this 0 ∨ p = ρ this 1) σ σr := by
  intro n
  induction n with
  | zero => intro x2 σ hf; cases hf
  | succ n ih => intro x2 σ hf; exact k_X8_goOnWithHearth_17 _ ih x2 σ hf
theorem m_X8_goOnWithHearth {N : Nat} {ρ : Nat → Nat → Nat} {this : Nat} {a1 : Int32} {r : Int32} {σr : St} {σ : St} (hf : f_X8_goOnWithHearth N ρ this a1 σ = some (r, σr)) : Ag (fun p => p = ρ this 0 ∨ p = ρ this 1) σ σr := by
  unfold f_X8_goOnWithHearth at hf
  obtain ⟨_, hf⟩ := gd_some hf
  obtain ⟨σ17, eσ17, hf⟩ := nmd_some hf
  refine ag_C eσ17 (Or.inr rfl) ?_
  exact m_X8_goOnWithHearth_17 N _ _ hf
theorem m_X8_orderOf_40 {N : Nat} {ρ : Nat → Nat → Nat} {a1 : Int32} {a2 : Int32} {a3 : Int32} {r : Int32} {σr : St} (rec5 : Int32 → Int32 → St → Option (Int32 × St)) (hrec5 : ∀ (x3 : Int32) (x4 : Int32) (σ : St), rec5 x3 x4 σ = some (r, σr) → Ag (fun p => False) σ σr) (x3 : Int32) (x4 : Int32) (σ : St) (hf : f_X8_orderOf_40 N ρ a1 a2 a3 rec5 x3 x4 σ = some (r, σr)) : Ag (fun p => False) σ σr := by
  unfold f_X8_orderOf_40 at hf
  exact hrec5 _ _ _ hf
theorem m_X8_orderOf_46 {N : Nat} {ρ : Nat → Nat → Nat} {a1 : Int32} {a2 : Int32} {a3 : Int32} {r : Int32} {σr : St} (x3 : Int32) (σ : St) (hf : f_X8_orderOf_46 N ρ a1 a2 a3 x3 σ = some (r, σr)) : Ag (fun p => False) σ σr := by
  unfold f_X8_orderOf_46 at hf
  cases hf
  exact ag_refl
theorem k_X8_orderOf_5 {N : Nat} {ρ : Nat → Nat → Nat} {a1 : Int32} {a2 : Int32} {a3 : Int32} {r : Int32} {σr : St} (rec5 : Int32 → Int32 → St → Option (Int32 × St)) (hrec5 : ∀ (x3 : Int32) (x4 : Int32) (σ : St), rec5 x3 x4 σ = some (r, σr) → Ag (fun p => False) σ σr) (x3 : Int32) (x4 : Int32) (σ : St) (hf : b_X8_orderOf_5 N ρ a1 a2 a3 rec5 x3 x4 σ = some (r, σr)) : Ag (fun p => False) σ σr := by
  unfold b_X8_orderOf_5 at hf
  rcases ite_some hf with ⟨_, hf⟩ | ⟨_, hf⟩
  · skip
    exact m_X8_orderOf_46 _ _ hf
  · skip
    rcases ite_some hf with ⟨_, hf⟩ | ⟨_, hf⟩
    · skip
      exact m_X8_orderOf_46 _ _ hf
    · skip
      rcases ite_some hf with ⟨_, hf⟩ | ⟨_, hf⟩
      · skip
        exact m_X8_orderOf_40 rec5 hrec5 _ _ _ hf
      · skip
        obtain ⟨_, hf⟩ := gd_some hf
        obtain ⟨y5, ey5, hf⟩ := nmd_some hf
        exact m_X8_orderOf_40 rec5 hrec5 _ _ _ hf
theorem m_X8_orderOf_5 {N : Nat} {ρ : Nat → Nat → Nat} {a1 : Int32} {a2 : Int32} {a3 : Int32} {r : Int32} {σr : St} : ∀ (n : Nat) (x3 : Int32) (x4 : Int32) (σ : St), f_X8_orderOf_5 N ρ a1 a2 a3 n x3 x4 σ = some (r, σr) → Ag (fun p => False) σ σr := by
  intro n
  induction n with
  | zero => intro x3 x4 σ hf; cases hf
  | succ n ih => intro x3 x4 σ hf; exact k_X8_orderOf_5 _ ih x3 x4 σ hf
theorem m_X8_orderOf {N : Nat} {ρ : Nat → Nat → Nat} {a1 : Int32} {a2 : Int32} {a3 : Int32} {r : Int32} {σr : St} {σ : St} (hf : f_X8_orderOf N ρ a1 a2 a3 σ = some (r, σr)) : Ag (fun p => False) σ σr := by
  unfold f_X8_orderOf at hf
  exact m_X8_orderOf_5 N _ _ _ hf
theorem m_X8_priceOf_27 {N : Nat} {ρ : Nat → Nat → Nat} {this : Nat} {a1 : Nat} {a2 : Int32} {a3 : Int32} {a4 : Int32} {r : Int32} {σr : St} (σ : St) (hf : f_X8_priceOf_27 N ρ this a1 a2 a3 a4 σ = some (r, σr)) : Ag (fun p => False) σ σr := by
  unfold f_X8_priceOf_27 at hf
  cases hf
  exact ag_refl
theorem m_X8_priceOf_107 {N : Nat} {ρ : Nat → Nat → Nat} {this : Nat} {a1 : Nat} {a2 : Int32} {a3 : Int32} {a4 : Int32} {r : Int32} {σr : St} (rec77 : Int32 → Int32 → Int32 → St → Option (Int32 × St)) (hrec77 : ∀ (x6 : Int32) (x7 : Int32) (x8 : Int32) (σ : St), rec77 x6 x7 x8 σ = some (r, σr) → Ag (fun p => False) σ σr) (x6 : Int32) (x7 : Int32) (x8 : Int32) (σ : St) (hf : f_X8_priceOf_107 N ρ this a1 a2 a3 a4 rec77 x6 x7 x8 σ = some (r, σr)) : Ag (fun p => False) σ σr := by
  unfold f_X8_priceOf_107 at hf
  exact hrec77 _ _ _ _ hf
theorem m_X8_priceOf_127 {N : Nat} {ρ : Nat → Nat → Nat} {this : Nat} {a1 : Nat} {a2 : Int32} {a3 : Int32} {a4 : Int32} {r : Int32} {σr : St} (x7 : Int32) (s0 : Int32) (σ : St) (hf : f_X8_priceOf_127 N ρ this a1 a2 a3 a4 x7 s0 σ = some (r, σr)) : Ag (fun p => False) σ σr := by
  unfold f_X8_priceOf_127 at hf
  obtain ⟨_, σ2, q1, hf⟩ := bnd_some hf
  refine ag_call (m_X8_orderOf q1) (fun _ h => h.elim) ?_
  cases hf
  exact ag_refl
theorem k_X8_priceOf_77 {N : Nat} {ρ : Nat → Nat → Nat} {this : Nat} {a1 : Nat} {a2 : Int32} {a3 : Int32} {a4 : Int32} {r : Int32} {σr : St} (rec77 : Int32 → Int32 → Int32 → St → Option (Int32 × St)) (hrec77 : ∀ (x6 : Int32) (x7 : Int32) (x8 : Int32) (σ : St), rec77 x6 x7 x8 σ = some (r, σr) → Ag (fun p => False) σ σr) (x6 : Int32) (x7 : Int32) (x8 : Int32) (σ : St) (hf : b_X8_priceOf_77 N ρ this a1 a2 a3 a4 rec77 x6 x7 x8 σ = some (r, σr)) : Ag (fun p => False) σ σr := by
  unfold b_X8_priceOf_77 at hf
  rcases ite_some hf with ⟨_, hf⟩ | ⟨_, hf⟩
  · skip
    rcases ite_some hf with ⟨_, hf⟩ | ⟨_, hf⟩
    · skip
      exact m_X8_priceOf_127 _ _ _ hf
    · skip
      exact m_X8_priceOf_127 _ _ _ hf
  · skip
    rcases ite_some hf with ⟨_, hf⟩ | ⟨_, hf⟩
    · skip
      exact m_X8_priceOf_107 rec77 hrec77 _ _ _ _ hf
    · skip
      obtain ⟨_, σ8, q1, hf⟩ := bnd_some hf
      refine ag_call (m_X0_wayOf q1) (fun _ h => h.elim) ?_
      obtain ⟨y10, ey10, hf⟩ := nmd_some hf
      exact m_X8_priceOf_107 rec77 hrec77 _ _ _ _ hf
theorem m_X8_priceOf_77 {N : Nat} {ρ : Nat → Nat → Nat} {this : Nat} {a1 : Nat} {a2 : Int32} {a3 : Int32} {a4 : Int32} {r : Int32} {σr : St} : ∀ (n : Nat) (x6 : Int32) (x7 : Int32) (x8 : Int32) (σ : St), f_X8_priceOf_77 N ρ this a1 a2 a3 a4 n x6 x7 x8 σ = some (r, σr) → Ag (fun p => False) σ σr := by
  intro n
  induction n with
  | zero => intro x6 x7 x8 σ hf; cases hf
  | succ n ih => intro x6 x7 x8 σ hf; exact k_X8_priceOf_77 _ ih x6 x7 x8 σ hf
theorem m_X8_priceOf_71 {N : Nat} {ρ : Nat → Nat → Nat} {this : Nat} {a1 : Nat} {a2 : Int32} {a3 : Int32} {a4 : Int32} {r : Int32} {σr : St} (x6 : Int32) (σ : St) (hf : f_X8_priceOf_71 N ρ this a1 a2 a3 a4 x6 σ = some (r, σr)) : Ag (fun p => False) σ σr := by
  unfold f_X8_priceOf_71 at hf
  exact m_X8_priceOf_77 N _ _ _ _ hf
theorem m_X8_priceOf_54 {N : Nat} {ρ : Nat → Nat → Nat} {this : Nat} {a1 : Nat} {a2 : Int32} {a3 : Int32} {a4 : Int32} {r : Int32} {σr : St} (x5 : Int32) (s0 : Int32) (σ : St) (hf : f_X8_priceOf_54 N ρ this a1 a2 a3 a4 x5 s0 σ = some (r, σr)) : Ag (fun p => False) σ σr := by
  unfold f_X8_priceOf_54 at hf
  rcases ite_some hf with ⟨_, hf⟩ | ⟨_, hf⟩
  · skip
    exact m_X8_priceOf_71 _ _ hf
  · skip
    rcases ite_some hf with ⟨_, hf⟩ | ⟨_, hf⟩
    · skip
      exact m_X8_priceOf_71 _ _ hf
    · skip
      cases hf
      exact ag_refl
theorem m_X8_priceOf {N : Nat} {ρ : Nat → Nat → Nat} {this : Nat} {a1 : Nat} {a2 : Int32} {a3 : Int32} {a4 : Int32} {r : Int32} {σr : St} {σ : St} (hf : f_X8_priceOf N ρ this a1 a2 a3 a4 σ = some (r, σr)) : Ag (fun p => False) σ σr := by
  unfold f_X8_priceOf at hf
  obtain ⟨_, σ14, q1, hf⟩ := bnd_some hf
  refine ag_call (m_J6_bitCount_0f7a4 q1) (fun _ h => h.elim) ?_
  obtain ⟨_, hf⟩ := gd_some hf
  rcases ite_some hf with ⟨_, hf⟩ | ⟨_, hf⟩
  · skip
    exact m_X8_priceOf_27 _ hf
  · skip
    rcases ite_some hf with ⟨_, hf⟩ | ⟨_, hf⟩
    · skip
      obtain ⟨_, σ20, q2, hf⟩ := bnd_some hf
      refine ag_call (m_X0_quarrelIn q2) (fun _ h => h.elim) ?_
      rcases ite_some hf with ⟨_, hf⟩ | ⟨_, hf⟩
      · skip
        obtain ⟨_, hf⟩ := gd_some hf
        obtain ⟨_, σ25, q3, hf⟩ := bnd_some hf
        refine ag_call (m_J6_bitCount_0f7a4 q3) (fun _ h => h.elim) ?_
        exact m_X8_priceOf_54 _ _ _ hf
      · skip
        exact m_X8_priceOf_54 _ _ _ hf
    · skip
      exact m_X8_priceOf_27 _ hf
theorem k_X8_priceSets_70 {N : Nat} {ρ : Nat → Nat → Nat} {this : Nat} {a1 : Nat} {a2 : Nat} {a3 : Int32} {a4 : Int32} {a5 : Int32} {r : Int32} {σr : St} (rec70 : Int32 → St → Option (Int32 × St)) (hrec70 : ∀ (x6 : Int32) (σ : St), rec70 x6 σ = some (r, σr) → Ag (fun p => p = ρ this 2 ∨ p = ρ a1 10 ∨ p = ρ (ρ a1 8) 1 ∨ p = ρ this 3) σ σr) (x6 : Int32) (σ : St) (hf : b_X8_priceSets_70 N ρ this a1 a2 a3 a4 a5 rec70 x6 σ = some (r, σr)) : Ag (fun p => p = ρ this 2 ∨ p = ρ a1 10 ∨ p = ρ (ρ a1 8) 1 ∨ p = ρ this 3) σ σr := by
  unfold b_X8_priceSets_70 at hf
  rcases ite_some hf with ⟨_, hf⟩ | ⟨_, hf⟩
  · skip
    cases hf
    exact ag_refl
  · skip
    obtain ⟨_, σ3, q1, hf⟩ := bnd_some hf
    refine ag_call (m_X8_priceOf q1) (fun _ h => h.elim) ?_
    obtain ⟨_, hf⟩ := gd_some hf
    obtain ⟨σ6, eσ6, hf⟩ := nmd_some hf
    refine ag_I eσ6 (Or.inl rfl) ?_
    exact hrec70 _ _ hf
theorem m_X8_priceSets_70 {N : Nat} {ρ : Nat → Nat → Nat} {this : Nat} {a1 : Nat} {a2 : Nat} {a3 : Int32} {a4 : Int32} {a5 : Int32} {r : Int32} {σr : St} : ∀ (n : Nat) (x6 : Int32) (σ : St), f_X8_priceSets_70 N ρ this a1 a2 a3 a4 a5 n x6 σ = some (r, σr) → Ag (fun p => p = ρ this 2 ∨ p = ρ a1 10 ∨ p = ρ (ρ a1 8) 1 ∨ p = ρ this 3) σ σr := by
  intro n
  induction n with
  | zero => intro x6 σ hf; cases hf
  | succ n ih => intro x6 σ hf; exact k_X8_priceSets_70 _ ih x6 σ hf
theorem m_X8_priceSets_66 {N : Nat} {ρ : Nat → Nat → Nat} {this : Nat} {a1 : Nat} {a2 : Nat} {a3 : Int32} {a4 : Int32} {a5 : Int32} {r : Int32} {σr : St} (s0 : Int32) (s1 : Int32) (σ : St) (hf : f_X8_priceSets_66 N ρ this a1 a2 a3 a4 a5 s0 s1 σ = some (r, σr)) : Ag (fun p => p = ρ this 2 ∨ p = ρ a1 10 ∨ p = ρ (ρ a1 8) 1 ∨ p = ρ this 3) σ σr := by
  unfold f_X8_priceSets_66 at hf
  obtain ⟨_, hf⟩ := gd_some hf
  obtain ⟨σ8, eσ8, hf⟩ := nmd_some hf
  refine ag_I eσ8 (Or.inl rfl) ?_
  exact m_X8_priceSets_70 N _ _ hf
theorem m_X8_priceSets_50 {N : Nat} {ρ : Nat → Nat → Nat} {this : Nat} {a1 : Nat} {a2 : Nat} {a3 : Int32} {a4 : Int32} {a5 : Int32} {r : Int32} {σr : St} (σ : St) (hf : f_X8_priceSets_50 N ρ this a1 a2 a3 a4 a5 σ = some (r, σr)) : Ag (fun p => p = ρ this 2 ∨ p = ρ a1 10 ∨ p = ρ (ρ a1 8) 1 ∨ p = ρ this 3) σ σr := by
  unfold f_X8_priceSets_50 at hf
  rcases ite_some hf with ⟨_, hf⟩ | ⟨_, hf⟩
  · skip
    exact m_X8_priceSets_66 _ _ _ hf
  · skip
    exact m_X8_priceSets_66 _ _ _ hf
theorem k_X8_priceSets_3 {N : Nat} {ρ : Nat → Nat → Nat} {this : Nat} {a1 : Nat} {a2 : Nat} {a3 : Int32} {a4 : Int32} {a5 : Int32} {r : Int32} {σr : St} (rec3 : Int32 → St → Option (Int32 × St)) (hrec3 : ∀ (x6 : Int32) (σ : St), rec3 x6 σ = some (r, σr) → Ag (fun p => p = ρ this 2 ∨ p = ρ a1 10 ∨ p = ρ (ρ a1 8) 1 ∨ p = ρ this 3) σ σr) (x6 : Int32) (σ : St) (hf : b_X8_priceSets_3 N ρ this a1 a2 a3 a4 a5 rec3 x6 σ = some (r, σr)) : Ag (fun p => p = ρ this 2 ∨ p = ρ a1 10 ∨ p = ρ (ρ a1 8) 1 ∨ p = ρ this 3) σ σr := by
  unfold b_X8_priceSets_3 at hf
  obtain ⟨_, hf⟩ := gd_some hf
  rcases ite_some hf with ⟨_, hf⟩ | ⟨_, hf⟩
  · skip
    exact m_X8_priceSets_50 _ hf
  · skip
    rcases ite_some hf with ⟨_, hf⟩ | ⟨_, hf⟩
    · skip
      exact m_X8_priceSets_50 _ hf
    · skip
      obtain ⟨_, σ14, q1, hf⟩ := bnd_some hf
      refine ag_call (m_X0_bearing q1) (fun _ h => by
            rcases h with h | h
            · exact (Or.inr (Or.inl h))
            · exact (Or.inr (Or.inr (Or.inl h)))) ?_
      obtain ⟨_, hf⟩ := gd_some hf
      obtain ⟨σ17, eσ17, hf⟩ := nmd_some hf
      refine ag_I eσ17 (Or.inr (Or.inr (Or.inr rfl))) ?_
      exact hrec3 _ _ hf
theorem m_X8_priceSets_3 {N : Nat} {ρ : Nat → Nat → Nat} {this : Nat} {a1 : Nat} {a2 : Nat} {a3 : Int32} {a4 : Int32} {a5 : Int32} {r : Int32} {σr : St} : ∀ (n : Nat) (x6 : Int32) (σ : St), f_X8_priceSets_3 N ρ this a1 a2 a3 a4 a5 n x6 σ = some (r, σr) → Ag (fun p => p = ρ this 2 ∨ p = ρ a1 10 ∨ p = ρ (ρ a1 8) 1 ∨ p = ρ this 3) σ σr := by
  intro n
  induction n with
  | zero => intro x6 σ hf; cases hf
  | succ n ih => intro x6 σ hf; exact k_X8_priceSets_3 _ ih x6 σ hf
theorem m_X8_priceSets {N : Nat} {ρ : Nat → Nat → Nat} {this : Nat} {a1 : Nat} {a2 : Nat} {a3 : Int32} {a4 : Int32} {a5 : Int32} {r : Int32} {σr : St} {σ : St} (hf : f_X8_priceSets N ρ this a1 a2 a3 a4 a5 σ = some (r, σr)) : Ag (fun p => p = ρ this 2 ∨ p = ρ a1 10 ∨ p = ρ (ρ a1 8) 1 ∨ p = ρ this 3) σ σr := by
  unfold f_X8_priceSets at hf
  exact m_X8_priceSets_3 N _ _ hf
theorem m_X8_unpack_90 {N : Nat} {ρ : Nat → Nat → Nat} {this : Nat} {a1 : Nat} {a2 : Int32} {r : Int32} {σr : St} (rec37 : Int32 → Int32 → St → Option (Int32 × St)) (hrec37 : ∀ (x4 : Int32) (x5 : Int32) (σ : St), rec37 x4 x5 σ = some (r, σr) → Ag (fun p => p = ρ this 4 ∨ p = this) σ σr) (x4 : Int32) (x5 : Int32) (s0 : Int32) (s1 : Int32) (σ : St) (hf : f_X8_unpack_90 N ρ this a1 a2 rec37 x4 x5 s0 s1 σ = some (r, σr)) : Ag (fun p => p = ρ this 4 ∨ p = this) σ σr := by
  unfold f_X8_unpack_90 at hf
  obtain ⟨_, hf⟩ := gd_some hf
  obtain ⟨σ2, eσ2, hf⟩ := nmd_some hf
  refine ag_I eσ2 (Or.inl rfl) ?_
  exact hrec37 _ _ _ hf
theorem m_X8_unpack_97 {N : Nat} {ρ : Nat → Nat → Nat} {this : Nat} {a1 : Nat} {a2 : Int32} {r : Int32} {σr : St} (σ : St) (hf : f_X8_unpack_97 N ρ this a1 a2 σ = some (r, σr)) : Ag (fun p => p = ρ this 4 ∨ p = this) σ σr := by
  unfold f_X8_unpack_97 at hf
  cases hf
  exact ag_refl
theorem k_X8_unpack_37 {N : Nat} {ρ : Nat → Nat → Nat} {this : Nat} {a1 : Nat} {a2 : Int32} {r : Int32} {σr : St} (rec37 : Int32 → Int32 → St → Option (Int32 × St)) (hrec37 : ∀ (x4 : Int32) (x5 : Int32) (σ : St), rec37 x4 x5 σ = some (r, σr) → Ag (fun p => p = ρ this 4 ∨ p = this) σ σr) (x4 : Int32) (x5 : Int32) (σ : St) (hf : b_X8_unpack_37 N ρ this a1 a2 rec37 x4 x5 σ = some (r, σr)) : Ag (fun p => p = ρ this 4 ∨ p = this) σ σr := by
  unfold b_X8_unpack_37 at hf
  rcases ite_some hf with ⟨_, hf⟩ | ⟨_, hf⟩
  · skip
    exact m_X8_unpack_97 _ hf
  · skip
    rcases ite_some hf with ⟨_, hf⟩ | ⟨_, hf⟩
    · skip
      exact m_X8_unpack_97 _ hf
    · skip
      obtain ⟨_, hf⟩ := gd_some hf
      obtain ⟨_, hf⟩ := gd_some hf
      obtain ⟨y7, ey7, hf⟩ := nmd_some hf
      rcases ite_some hf with ⟨_, hf⟩ | ⟨_, hf⟩
      · skip
        exact m_X8_unpack_90 rec37 hrec37 _ _ _ _ _ hf
      · skip
        exact m_X8_unpack_90 rec37 hrec37 _ _ _ _ _ hf
theorem m_X8_unpack_37 {N : Nat} {ρ : Nat → Nat → Nat} {this : Nat} {a1 : Nat} {a2 : Int32} {r : Int32} {σr : St} : ∀ (n : Nat) (x4 : Int32) (x5 : Int32) (σ : St), f_X8_unpack_37 N ρ this a1 a2 n x4 x5 σ = some (r, σr) → Ag (fun p => p = ρ this 4 ∨ p = this) σ σr := by
  intro n
  induction n with
  | zero => intro x4 x5 σ hf; cases hf
  | succ n ih => intro x4 x5 σ hf; exact k_X8_unpack_37 _ ih x4 x5 σ hf
theorem m_X8_unpack {N : Nat} {ρ : Nat → Nat → Nat} {this : Nat} {a1 : Nat} {a2 : Int32} {r : Int32} {σr : St} {σ : St} (hf : f_X8_unpack N ρ this a1 a2 σ = some (r, σr)) : Ag (fun p => p = ρ this 4 ∨ p = this) σ σr := by
  unfold f_X8_unpack at hf
  obtain ⟨_, σ10, q1, hf⟩ := bnd_some hf
  refine ag_call (m_J9_floorMod_7cf53 q1) (fun _ h => h.elim) ?_
  obtain ⟨_, σ13, q2, hf⟩ := bnd_some hf
  refine ag_call (m_J9_floorDiv_7cf53 q2) (fun _ h => h.elim) ?_
  obtain ⟨σ15, eσ15, hf⟩ := nmd_some hf
  refine ag_I eσ15 (Or.inr rfl) ?_
  obtain ⟨σ16, eσ16, hf⟩ := nmd_some hf
  refine ag_I eσ16 (Or.inr rfl) ?_
  obtain ⟨y17, ey17, hf⟩ := nmd_some hf
  exact m_X8_unpack_37 N _ _ _ hf
theorem m_X8_find_120 {N : Nat} {ρ : Nat → Nat → Nat} {this : Nat} {a1 : Nat} {a2 : Nat} {a3 : Int32} {r : Int32} {σr : St} (rec71 : Int32 → Int32 → Int32 → St → Option (Int32 × St)) (hrec71 : ∀ (x4 : Int32) (x5 : Int32) (x6 : Int32) (σ : St), rec71 x4 x5 x6 σ = some (r, σr) → Ag (fun p => p = ρ this 4 ∨ p = this ∨ p = ρ this 2 ∨ p = ρ a1 10 ∨ p = ρ (ρ a1 8) 1 ∨ p = ρ this 3 ∨ p = ρ this 0 ∨ p = ρ this 1) σ σr) (x4 : Int32) (x5 : Int32) (x6 : Int32) (σ : St) (hf : f_X8_find_120 N ρ this a1 a2 a3 rec71 x4 x5 x6 σ = some (r, σr)) : Ag (fun p => p = ρ this 4 ∨ p = this ∨ p = ρ this 2 ∨ p = ρ a1 10 ∨ p = ρ (ρ a1 8) 1 ∨ p = ρ this 3 ∨ p = ρ this 0 ∨ p = ρ this 1) σ σr := by
  unfold f_X8_find_120 at hf
  exact hrec71 _ _ _ _ hf
theorem k_X8_find_71 {N : Nat} {ρ : Nat → Nat → Nat} {this : Nat} {a1 : Nat} {a2 : Nat} {a3 : Int32} {r : Int32} {σr : St} (rec71 : Int32 → Int32 → Int32 → St → Option (Int32 × St)) (hrec71 : ∀ (x4 : Int32) (x5 : Int32) (x6 : Int32) (σ : St), rec71 x4 x5 x6 σ = some (r, σr) → Ag (fun p => p = ρ this 4 ∨ p = this ∨ p = ρ this 2 ∨ p = ρ a1 10 ∨ p = ρ (ρ a1 8) 1 ∨ p = ρ this 3 ∨ p = ρ this 0 ∨ p = ρ this 1) σ σr) (x4 : Int32) (x5 : Int32) (x6 : Int32) (σ : St) (hf : b_X8_find_71 N ρ this a1 a2 a3 rec71 x4 x5 x6 σ = some (r, σr)) : Ag (fun p => p = ρ this 4 ∨ p = this ∨ p = ρ this 2 ∨ p = ρ a1 10 ∨ p = ρ (ρ a1 8) 1 ∨ p = ρ this 3 ∨ p = ρ this 0 ∨ p = ρ this 1) σ σr := by
  unfold b_X8_find_71 at hf
  rcases ite_some hf with ⟨_, hf⟩ | ⟨_, hf⟩
  · skip
    rcases ite_some hf with ⟨_, hf⟩ | ⟨_, hf⟩
    · skip
      cases hf
      exact ag_refl
    · skip
      obtain ⟨_, σ4, q1, hf⟩ := bnd_some hf
      refine ag_call (m_X8_unpack q1) (fun _ h => by
            rcases h with h | h
            · exact (Or.inl h)
            · exact (Or.inr (Or.inl h))) ?_
      cases hf
      exact ag_refl
  · skip
    obtain ⟨_, hf⟩ := gd_some hf
    rcases ite_some hf with ⟨_, hf⟩ | ⟨_, hf⟩
    · skip
      exact m_X8_find_120 rec71 hrec71 _ _ _ _ hf
    · skip
      obtain ⟨_, hf⟩ := gd_some hf
      obtain ⟨_, σ10, q2, hf⟩ := bnd_some hf
      refine ag_call (m_X8_orderOf q2) (fun _ h => h.elim) ?_
      obtain ⟨y12, ey12, hf⟩ := nmd_some hf
      exact m_X8_find_120 rec71 hrec71 _ _ _ _ hf
theorem m_X8_find_71 {N : Nat} {ρ : Nat → Nat → Nat} {this : Nat} {a1 : Nat} {a2 : Nat} {a3 : Int32} {r : Int32} {σr : St} : ∀ (n : Nat) (x4 : Int32) (x5 : Int32) (x6 : Int32) (σ : St), f_X8_find_71 N ρ this a1 a2 a3 n x4 x5 x6 σ = some (r, σr) → Ag (fun p => p = ρ this 4 ∨ p = this ∨ p = ρ this 2 ∨ p = ρ a1 10 ∨ p = ρ (ρ a1 8) 1 ∨ p = ρ this 3 ∨ p = ρ this 0 ∨ p = ρ this 1) σ σr := by
  intro n
  induction n with
  | zero => intro x4 x5 x6 σ hf; cases hf
  | succ n ih => intro x4 x5 x6 σ hf; exact k_X8_find_71 _ ih x4 x5 x6 σ hf
theorem k_X8_find_32 {N : Nat} {ρ : Nat → Nat → Nat} {this : Nat} {a1 : Nat} {a2 : Nat} {a3 : Int32} {r : Int32} {σr : St} (rec32 : Int32 → Int32 → St → Option (Int32 × St)) (hrec32 : ∀ (x4 : Int32) (x5 : Int32) (σ : St), rec32 x4 x5 σ = some (r, σr) → Ag (fun p => p = ρ this 4 ∨ p = this ∨ p = ρ this 2 ∨ p = ρ a1 10 ∨ p = ρ (ρ a1 8) 1 ∨ p = ρ this 3 ∨ p = ρ this 0 ∨ p = ρ this 1) σ σr) (x4 : Int32) (x5 : Int32) (σ : St) (hf : b_X8_find_32 N ρ this a1 a2 a3 rec32 x4 x5 σ = some (r, σr)) : Ag (fun p => p = ρ this 4 ∨ p = this ∨ p = ρ this 2 ∨ p = ρ a1 10 ∨ p = ρ (ρ a1 8) 1 ∨ p = ρ this 3 ∨ p = ρ this 0 ∨ p = ρ this 1) σ σr := by
  unfold b_X8_find_32 at hf
  rcases ite_some hf with ⟨_, hf⟩ | ⟨_, hf⟩
  · skip
    exact m_X8_find_71 N _ _ _ _ hf
  · skip
    obtain ⟨_, σ15, q1, hf⟩ := bnd_some hf
    refine ag_call (m_X8_priceSets q1) (fun _ h => by
          rcases h with h | h | h | h
          · exact (Or.inr (Or.inr (Or.inl h)))
          · exact (Or.inr (Or.inr (Or.inr (Or.inl h))))
          · exact (Or.inr (Or.inr (Or.inr (Or.inr (Or.inl h)))))
          · exact (Or.inr (Or.inr (Or.inr (Or.inr (Or.inr (Or.inl h))))))) ?_
    obtain ⟨_, σ18, q2, hf⟩ := bnd_some hf
    refine ag_call (m_X8_goOnWithHearth q2) (fun _ h => by
          rcases h with h | h
          · exact (Or.inr (Or.inr (Or.inr (Or.inr (Or.inr (Or.inr (Or.inl h)))))))
          · exact (Or.inr (Or.inr (Or.inr (Or.inr (Or.inr (Or.inr (Or.inr h)))))))) ?_
    exact hrec32 _ _ _ hf
theorem m_X8_find_32 {N : Nat} {ρ : Nat → Nat → Nat} {this : Nat} {a1 : Nat} {a2 : Nat} {a3 : Int32} {r : Int32} {σr : St} : ∀ (n : Nat) (x4 : Int32) (x5 : Int32) (σ : St), f_X8_find_32 N ρ this a1 a2 a3 n x4 x5 σ = some (r, σr) → Ag (fun p => p = ρ this 4 ∨ p = this ∨ p = ρ this 2 ∨ p = ρ a1 10 ∨ p = ρ (ρ a1 8) 1 ∨ p = ρ this 3 ∨ p = ρ this 0 ∨ p = ρ this 1) σ σr := by
  intro n
  induction n with
  | zero => intro x4 x5 σ hf; cases hf
  | succ n ih => intro x4 x5 σ hf; exact k_X8_find_32 _ ih x4 x5 σ hf
theorem m_X8_find {N : Nat} {ρ : Nat → Nat → Nat} {this : Nat} {a1 : Nat} {a2 : Nat} {a3 : Int32} {r : Int32} {σr : St} {σ : St} (hf : f_X8_find N ρ this a1 a2 a3 σ = some (r, σr)) : Ag (fun p => p = ρ this 4 ∨ p = this ∨ p = ρ this 2 ∨ p = ρ a1 10 ∨ p = ρ (ρ a1 8) 1 ∨ p = ρ this 3 ∨ p = ρ this 0 ∨ p = ρ this 1) σ σr := by
  unfold f_X8_find at hf
  obtain ⟨y20, ey20, hf⟩ := nmd_some hf
  obtain ⟨_, σ22, q1, hf⟩ := bnd_some hf
  refine ag_call (m_J7_fill_53178 q1) (fun _ h => (Or.inr (Or.inr (Or.inr (Or.inr (Or.inr (Or.inr (Or.inl h)))))))) ?_
  obtain ⟨_, hf⟩ := gd_some hf
  obtain ⟨σ25, eσ25, hf⟩ := nmd_some hf
  refine ag_I eσ25 (Or.inr (Or.inr (Or.inr (Or.inr (Or.inr (Or.inr (Or.inl rfl))))))) ?_
  exact m_X8_find_32 N _ _ _ hf
theorem m_X6_forget {N : Nat} {ρ : Nat → Nat → Nat} {this : Nat} {r : Int32} {σr : St} {σ : St} (hf : f_X6_forget N ρ this σ = some (r, σr)) : Ag (fun p => p = this) σ σr := by
  unfold f_X6_forget at hf
  obtain ⟨σ1, eσ1, hf⟩ := nmd_some hf
  refine ag_I eσ1 rfl ?_
  cases hf
  exact ag_refl
theorem m_X6_tell_29 {N : Nat} {ρ : Nat → Nat → Nat} {this : Nat} {a1 : Int32} {a2 : Int32} {a3 : Int32} {a4 : Int32} {r : Int32} {σr : St} (σ : St) (hf : f_X6_tell_29 N ρ this a1 a2 a3 a4 σ = some (r, σr)) : Ag (fun p => p = ρ this 0 ∨ p = ρ this 1 ∨ p = ρ this 2 ∨ p = ρ this 3 ∨ p = ρ this 4 ∨ p = ρ this 5 ∨ p = this) σ σr := by
  unfold f_X6_tell_29 at hf
  cases hf
  exact ag_refl
theorem m_X6_tell {N : Nat} {ρ : Nat → Nat → Nat} {this : Nat} {a1 : Int32} {a2 : Int32} {a3 : Int32} {a4 : Int32} {r : Int32} {σr : St} {σ : St} (hf : f_X6_tell N ρ this a1 a2 a3 a4 σ = some (r, σr)) : Ag (fun p => p = ρ this 0 ∨ p = ρ this 1 ∨ p = ρ this 2 ∨ p = ρ this 3 ∨ p = ρ this 4 ∨ p = ρ this 5 ∨ p = this) σ σr := by
  unfold f_X6_tell at hf
  rcases ite_some hf with ⟨_, hf⟩ | ⟨_, hf⟩
  · skip
    exact m_X6_tell_29 _ hf
  · skip
    rcases ite_some hf with ⟨_, hf⟩ | ⟨_, hf⟩
    · skip
      exact m_X6_tell_29 _ hf
    · skip
      rcases ite_some hf with ⟨_, hf⟩ | ⟨_, hf⟩
      · skip
        exact m_X6_tell_29 _ hf
      · skip
        rcases ite_some hf with ⟨_, hf⟩ | ⟨_, hf⟩
        · skip
          exact m_X6_tell_29 _ hf
        · skip
          rcases ite_some hf with ⟨_, hf⟩ | ⟨_, hf⟩
          · skip
            obtain ⟨y6, ey6, hf⟩ := nmd_some hf
            obtain ⟨_, hf⟩ := gd_some hf
            obtain ⟨σ8, eσ8, hf⟩ := nmd_some hf
            refine ag_I eσ8 (Or.inl rfl) ?_
            obtain ⟨_, hf⟩ := gd_some hf
            obtain ⟨σ10, eσ10, hf⟩ := nmd_some hf
            refine ag_I eσ10 (Or.inr (Or.inl rfl)) ?_
            obtain ⟨_, hf⟩ := gd_some hf
            obtain ⟨σ12, eσ12, hf⟩ := nmd_some hf
            refine ag_I eσ12 (Or.inr (Or.inr (Or.inl rfl))) ?_
            obtain ⟨_, hf⟩ := gd_some hf
            obtain ⟨σ14, eσ14, hf⟩ := nmd_some hf
            refine ag_I eσ14 (Or.inr (Or.inr (Or.inr (Or.inl rfl)))) ?_
            obtain ⟨_, hf⟩ := gd_some hf
            obtain ⟨σ16, eσ16, hf⟩ := nmd_some hf
            refine ag_I eσ16 (Or.inr (Or.inr (Or.inr (Or.inr (Or.inl rfl))))) ?_
            obtain ⟨_, hf⟩ := gd_some hf
            obtain ⟨σ18, eσ18, hf⟩ := nmd_some hf
            refine ag_I eσ18 (Or.inr (Or.inr (Or.inr (Or.inr (Or.inr (Or.inl rfl)))))) ?_
            obtain ⟨σ19, eσ19, hf⟩ := nmd_some hf
            refine ag_I eσ19 (Or.inr (Or.inr (Or.inr (Or.inr (Or.inr (Or.inr rfl)))))) ?_
            cases hf
            exact ag_refl
          · skip
            exact m_X6_tell_29 _ hf
theorem m_X6_takeBack_28 {N : Nat} {ρ : Nat → Nat → Nat} {this : Nat} {a1 : Int32} {r : Int32} {σr : St} (σ : St) (hf : f_X6_takeBack_28 N ρ this a1 σ = some (r, σr)) : Ag (fun p => p = ρ this 5) σ σr := by
  unfold f_X6_takeBack_28 at hf
  cases hf
  exact ag_refl
theorem m_X6_takeBack {N : Nat} {ρ : Nat → Nat → Nat} {this : Nat} {a1 : Int32} {r : Int32} {σr : St} {σ : St} (hf : f_X6_takeBack N ρ this a1 σ = some (r, σr)) : Ag (fun p => p = ρ this 5) σ σr := by
  unfold f_X6_takeBack at hf
  rcases ite_some hf with ⟨_, hf⟩ | ⟨_, hf⟩
  · skip
    exact m_X6_takeBack_28 _ hf
  · skip
    rcases ite_some hf with ⟨_, hf⟩ | ⟨_, hf⟩
    · skip
      exact m_X6_takeBack_28 _ hf
    · skip
      rcases ite_some hf with ⟨_, hf⟩ | ⟨_, hf⟩
      · skip
        exact m_X6_takeBack_28 _ hf
      · skip
        obtain ⟨_, hf⟩ := gd_some hf
        rcases ite_some hf with ⟨_, hf⟩ | ⟨_, hf⟩
        · skip
          obtain ⟨_, hf⟩ := gd_some hf
          obtain ⟨σ7, eσ7, hf⟩ := nmd_some hf
          refine ag_I eσ7 rfl ?_
          cases hf
          exact ag_refl
        · skip
          exact m_X6_takeBack_28 _ hf
theorem m_X6_goOn_22 {N : Nat} {ρ : Nat → Nat → Nat} {this : Nat} {a1 : Int32} {r : Int32} {σr : St} (σ : St) (hf : f_X6_goOn_22 N ρ this a1 σ = some (r, σr)) : Ag (fun p => p = this) σ σr := by
  unfold f_X6_goOn_22 at hf
  cases hf
  exact ag_refl
theorem m_X6_goOn {N : Nat} {ρ : Nat → Nat → Nat} {this : Nat} {a1 : Int32} {r : Int32} {σr : St} {σ : St} (hf : f_X6_goOn N ρ this a1 σ = some (r, σr)) : Ag (fun p => p = this) σ σr := by
  unfold f_X6_goOn at hf
  rcases ite_some hf with ⟨_, hf⟩ | ⟨_, hf⟩
  · skip
    exact m_X6_goOn_22 _ hf
  · skip
    rcases ite_some hf with ⟨_, hf⟩ | ⟨_, hf⟩
    · skip
      exact m_X6_goOn_22 _ hf
    · skip
      rcases ite_some hf with ⟨_, hf⟩ | ⟨_, hf⟩
      · skip
        obtain ⟨σ4, eσ4, hf⟩ := nmd_some hf
        refine ag_I eσ4 rfl ?_
        cases hf
        exact ag_refl
      · skip
        exact m_X6_goOn_22 _ hf
theorem m_X6_narrow_21 {N : Nat} {ρ : Nat → Nat → Nat} {this : Nat} {a1 n1 : Nat} {a2 n2 : Nat} {a3 : Int32} {r : Int32} {σr : St} (σ : St) (hf : f_X6_narrow_21 N ρ this a1 n1 a2 n2 a3 σ = some (r, σr)) : Ag (fun p => p = a2 ∨ p = a1) σ σr := by
  unfold f_X6_narrow_21 at hf
  cases hf
  exact ag_refl
theorem m_X6_narrow_70 {N : Nat} {ρ : Nat → Nat → Nat} {this : Nat} {a1 n1 : Nat} {a2 n2 : Nat} {a3 : Int32} {r : Int32} {σr : St} (σ : St) (hf : f_X6_narrow_70 N ρ this a1 n1 a2 n2 a3 σ = some (r, σr)) : Ag (fun p => p = a2 ∨ p = a1) σ σr := by
  unfold f_X6_narrow_70 at hf
  cases hf
  exact ag_refl
theorem m_X6_narrow {N : Nat} {ρ : Nat → Nat → Nat} {this : Nat} {a1 n1 : Nat} {a2 n2 : Nat} {a3 : Int32} {r : Int32} {σr : St} {σ : St} (hf : f_X6_narrow N ρ this a1 n1 a2 n2 a3 σ = some (r, σr)) : Ag (fun p => p = a2 ∨ p = a1) σ σr := by
  unfold f_X6_narrow at hf
  obtain ⟨_, hf⟩ := gd_some hf
  obtain ⟨y2, ey2, hf⟩ := nmd_some hf
  rcases ite_some hf with ⟨_, hf⟩ | ⟨_, hf⟩
  · skip
    exact m_X6_narrow_21 _ hf
  · skip
    rcases ite_some hf with ⟨_, hf⟩ | ⟨_, hf⟩
    · skip
      obtain ⟨_, hf⟩ := gd_some hf
      rcases ite_some hf with ⟨_, hf⟩ | ⟨_, hf⟩
      · skip
        obtain ⟨_, hf⟩ := gd_some hf
        obtain ⟨_, hf⟩ := gd_some hf
        obtain ⟨_, hf⟩ := gd_some hf
        obtain ⟨σ10, eσ10, hf⟩ := nmd_some hf
        refine ag_I eσ10 (Or.inl rfl) ?_
        exact m_X6_narrow_70 _ hf
      · skip
        obtain ⟨_, hf⟩ := gd_some hf
        obtain ⟨_, hf⟩ := gd_some hf
        obtain ⟨_, hf⟩ := gd_some hf
        obtain ⟨σ14, eσ14, hf⟩ := nmd_some hf
        refine ag_I eσ14 (Or.inr rfl) ?_
        exact m_X6_narrow_70 _ hf
    · skip
      exact m_X6_narrow_21 _ hf
theorem m_X6_gatherBounds_128 {N : Nat} {ρ : Nat → Nat → Nat} {this : Nat} {a1 : Int32} {r : Int32} {σr : St} (rec36 : Int32 → St → Option (Int32 × St)) (hrec36 : ∀ (x2 : Int32) (σ : St), rec36 x2 σ = some (r, σr) → Ag (fun p => p = ρ this 11 ∨ p = ρ this 10 ∨ p = ρ this 9 ∨ p = ρ this 8) σ σr) (x2 : Int32) (σ : St) (hf : f_X6_gatherBounds_128 N ρ this a1 rec36 x2 σ = some (r, σr)) : Ag (fun p => p = ρ this 11 ∨ p = ρ this 10 ∨ p = ρ this 9 ∨ p = ρ this 8) σ σr := by
  unfold f_X6_gatherBounds_128 at hf
  exact hrec36 _ _ hf
theorem m_X6_gatherBounds_75 {N : Nat} {ρ : Nat → Nat → Nat} {this : Nat} {a1 : Int32} {r : Int32} {σr : St} (rec36 : Int32 → St → Option (Int32 × St)) (hrec36 : ∀ (x2 : Int32) (σ : St), rec36 x2 σ = some (r, σr) → Ag (fun p => p = ρ this 11 ∨ p = ρ this 10 ∨ p = ρ this 9 ∨ p = ρ this 8) σ σr) (x2 : Int32) (s0 : Int32) (σ : St) (hf : f_X6_gatherBounds_75 N ρ this a1 rec36 x2 s0 σ = some (r, σr)) : Ag (fun p => p = ρ this 11 ∨ p = ρ this 10 ∨ p = ρ this 9 ∨ p = ρ this 8) σ σr := by
  unfold f_X6_gatherBounds_75 at hf
  obtain ⟨_, hf⟩ := gd_some hf
  rcases ite_some hf with ⟨_, hf⟩ | ⟨_, hf⟩
  · skip
    exact m_X6_gatherBounds_128 rec36 hrec36 _ _ hf
  · skip
    rcases ite_some hf with ⟨_, hf⟩ | ⟨_, hf⟩
    · skip
      obtain ⟨_, hf⟩ := gd_some hf
      rcases ite_some hf with ⟨_, hf⟩ | ⟨_, hf⟩
      · skip
        obtain ⟨_, σ7, q1, hf⟩ := bnd_some hf
        refine ag_call (m_X6_narrow q1) (fun _ h => by
              rcases h with h | h
              · exact (Or.inl h)
              · exact (Or.inr (Or.inl h))) ?_
        exact m_X6_gatherBounds_128 rec36 hrec36 _ _ hf
      · skip
        obtain ⟨_, σ10, q2, hf⟩ := bnd_some hf
        refine ag_call (m_X6_narrow q2) (fun _ h => by
              rcases h with h | h
              · exact (Or.inr (Or.inr (Or.inl h)))
              · exact (Or.inr (Or.inr (Or.inr h)))) ?_
        exact m_X6_gatherBounds_128 rec36 hrec36 _ _ hf
    · skip
      exact m_X6_gatherBounds_128 rec36 hrec36 _ _ hf
theorem m_X6_gatherBounds_74 {N : Nat} {ρ : Nat → Nat → Nat} {this : Nat} {a1 : Int32} {r : Int32} {σr : St} (rec36 : Int32 → St → Option (Int32 × St)) (hrec36 : ∀ (x2 : Int32) (σ : St), rec36 x2 σ = some (r, σr) → Ag (fun p => p = ρ this 11 ∨ p = ρ this 10 ∨ p = ρ this 9 ∨ p = ρ this 8) σ σr) (x2 : Int32) (σ : St) (hf : f_X6_gatherBounds_74 N ρ this a1 rec36 x2 σ = some (r, σr)) : Ag (fun p => p = ρ this 11 ∨ p = ρ this 10 ∨ p = ρ this 9 ∨ p = ρ this 8) σ σr := by
  unfold f_X6_gatherBounds_74 at hf
  exact m_X6_gatherBounds_75 rec36 hrec36 _ _ _ hf
theorem m_X6_gatherBounds_134 {N : Nat} {ρ : Nat → Nat → Nat} {this : Nat} {a1 : Int32} {r : Int32} {σr : St} (σ : St) (hf : f_X6_gatherBounds_134 N ρ this a1 σ = some (r, σr)) : Ag (fun p => p = ρ this 11 ∨ p = ρ this 10 ∨ p = ρ this 9 ∨ p = ρ this 8) σ σr := by
  unfold f_X6_gatherBounds_134 at hf
  cases hf
  exact ag_refl
theorem k_X6_gatherBounds_36 {N : Nat} {ρ : Nat → Nat → Nat} {this : Nat} {a1 : Int32} {r : Int32} {σr : St} (rec36 : Int32 → St → Option (Int32 × St)) (hrec36 : ∀ (x2 : Int32) (σ : St), rec36 x2 σ = some (r, σr) → Ag (fun p => p = ρ this 11 ∨ p = ρ this 10 ∨ p = ρ this 9 ∨ p = ρ this 8) σ σr) (x2 : Int32) (σ : St) (hf : b_X6_gatherBounds_36 N ρ this a1 rec36 x2 σ = some (r, σr)) : Ag (fun p => p = ρ this 11 ∨ p = ρ this 10 ∨ p = ρ this 9 ∨ p = ρ this 8) σ σr := by
  unfold b_X6_gatherBounds_36 at hf
  rcases ite_some hf with ⟨_, hf⟩ | ⟨_, hf⟩
  · skip
    exact m_X6_gatherBounds_134 _ hf
  · skip
    rcases ite_some hf with ⟨_, hf⟩ | ⟨_, hf⟩
    · skip
      exact m_X6_gatherBounds_134 _ hf
    · skip
      obtain ⟨_, hf⟩ := gd_some hf
      rcases ite_some hf with ⟨_, hf⟩ | ⟨_, hf⟩
      · skip
        exact m_X6_gatherBounds_74 rec36 hrec36 _ _ hf
      · skip
        obtain ⟨_, hf⟩ := gd_some hf
        rcases ite_some hf with ⟨_, hf⟩ | ⟨_, hf⟩
        · skip
          exact m_X6_gatherBounds_74 rec36 hrec36 _ _ hf
        · skip
          exact m_X6_gatherBounds_75 rec36 hrec36 _ _ _ hf
theorem m_X6_gatherBounds_36 {N : Nat} {ρ : Nat → Nat → Nat} {this : Nat} {a1 : Int32} {r : Int32} {σr : St} : ∀ (n : Nat) (x2 : Int32) (σ : St), f_X6_gatherBounds_36 N ρ this a1 n x2 σ = some (r, σr) → Ag (fun p => p = ρ this 11 ∨ p = ρ this 10 ∨ p = ρ this 9 ∨ p = ρ this 8) σ σr := by
  intro n
  induction n with
  | zero => intro x2 σ hf; cases hf
  | succ n ih => intro x2 σ hf; exact k_X6_gatherBounds_36 _ ih x2 σ hf
theorem m_X6_gatherBounds {N : Nat} {ρ : Nat → Nat → Nat} {this : Nat} {a1 : Int32} {r : Int32} {σr : St} {σ : St} (hf : f_X6_gatherBounds N ρ this a1 σ = some (r, σr)) : Ag (fun p => p = ρ this 11 ∨ p = ρ this 10 ∨ p = ρ this 9 ∨ p = ρ this 8) σ σr := by
  unfold f_X6_gatherBounds at hf
  obtain ⟨_, σ19, q1, hf⟩ := bnd_some hf
  refine ag_call (m_J7_fill_53178 q1) (fun _ h => (Or.inr (Or.inr (Or.inr h)))) ?_
  obtain ⟨_, σ22, q2, hf⟩ := bnd_some hf
  refine ag_call (m_J7_fill_53178 q2) (fun _ h => (Or.inr (Or.inr (Or.inl h)))) ?_
  obtain ⟨_, σ25, q3, hf⟩ := bnd_some hf
  refine ag_call (m_J7_fill_53178 q3) (fun _ h => (Or.inr (Or.inl h))) ?_
  obtain ⟨_, σ28, q4, hf⟩ := bnd_some hf
  refine ag_call (m_J7_fill_53178 q4) (fun _ h => (Or.inl h)) ?_
  exact m_X6_gatherBounds_36 N _ _ hf
theorem m_X6_fits_65 {N : Nat} {ρ : Nat → Nat → Nat} {this : Nat} {a1 : Int32} {r : Int32} {σr : St} (s0 : Int32) (σ : St) (hf : f_X6_fits_65 N ρ this a1 s0 σ = some (r, σr)) : Ag (fun p => False) σ σr := by
  unfold f_X6_fits_65 at hf
  obtain ⟨_, hf⟩ := gd_some hf
  cases hf
  exact ag_refl
theorem m_X6_fits_64 {N : Nat} {ρ : Nat → Nat → Nat} {this : Nat} {a1 : Int32} {r : Int32} {σr : St} (σ : St) (hf : f_X6_fits_64 N ρ this a1 σ = some (r, σr)) : Ag (fun p => False) σ σr := by
  unfold f_X6_fits_64 at hf
  exact m_X6_fits_65 _ _ hf
theorem m_X6_fits {N : Nat} {ρ : Nat → Nat → Nat} {this : Nat} {a1 : Int32} {r : Int32} {σr : St} {σ : St} (hf : f_X6_fits N ρ this a1 σ = some (r, σr)) : Ag (fun p => False) σ σr := by
  unfold f_X6_fits at hf
  obtain ⟨_, hf⟩ := gd_some hf
  obtain ⟨y3, ey3, hf⟩ := nmd_some hf
  obtain ⟨_, hf⟩ := gd_some hf
  obtain ⟨y5, ey5, hf⟩ := nmd_some hf
  obtain ⟨_, hf⟩ := gd_some hf
  rcases ite_some hf with ⟨_, hf⟩ | ⟨_, hf⟩
  · skip
    exact m_X6_fits_64 _ hf
  · skip
    obtain ⟨_, hf⟩ := gd_some hf
    rcases ite_some hf with ⟨_, hf⟩ | ⟨_, hf⟩
    · skip
      exact m_X6_fits_64 _ hf
    · skip
      obtain ⟨_, hf⟩ := gd_some hf
      rcases ite_some hf with ⟨_, hf⟩ | ⟨_, hf⟩
      · skip
        exact m_X6_fits_64 _ hf
      · skip
        obtain ⟨_, hf⟩ := gd_some hf
        rcases ite_some hf with ⟨_, hf⟩ | ⟨_, hf⟩
        · skip
          exact m_X6_fits_64 _ hf
        · skip
          exact m_X6_fits_65 _ _ hf
theorem m_X6_rowsFrom_154 {N : Nat} {ρ : Nat → Nat → Nat} {this : Nat} {a1 : Nat} {a2 : Int32} {a3 : Int32} {a4 : Int32} {G_X6_rowsFrom : Nat → Nat → Int32 → Int32 → Int32 → St → Option (Int32 × St)} {r : Int32} {σr : St} (hA_X6_rowsFrom : ∀ {this : Nat} {a1 : Nat} {a2 : Int32} {a3 : Int32} {a4 : Int32} {σ : St} {r : Int32} {σr : St}, G_X6_rowsFrom this a1 a2 a3 a4 σ = some (r, σr) → Ag (fun p => (∃ j, p = ρ (ρ this 12) j) ∨ p = ρ (ρ this 13) 0 ∨ p = ρ (ρ this 13) 1 ∨ p = ρ this 13 ∨ p = ρ a1 10 ∨ p = ρ (ρ a1 8) 1 ∨ p = ρ (ρ a1 9) 1 ∨ p = ρ (ρ this 13) 2) σ σr) (rec13 : Int32 → Int32 → St → Option (Int32 × St)) (hrec13 : ∀ (x5 : Int32) (x6 : Int32) (σ : St), rec13 x5 x6 σ = some (r, σr) → Ag (fun p => (∃ j, p = ρ (ρ this 12) j) ∨ p = ρ (ρ this 13) 0 ∨ p = ρ (ρ this 13) 1 ∨ p = ρ this 13 ∨ p = ρ a1 10 ∨ p = ρ (ρ a1 8) 1 ∨ p = ρ (ρ a1 9) 1 ∨ p = ρ (ρ this 13) 2) σ σr) (x5 : Int32) (x6 : Int32) (σ : St) (hf : f_X6_rowsFrom_154 N ρ this a1 a2 a3 a4 G_X6_rowsFrom rec13 x5 x6 σ = some (r, σr)) : Ag (fun p => (∃ j, p = ρ (ρ this 12) j) ∨ p = ρ (ρ this 13) 0 ∨ p = ρ (ρ this 13) 1 ∨ p = ρ this 13 ∨ p = ρ a1 10 ∨ p = ρ (ρ a1 8) 1 ∨ p = ρ (ρ a1 9) 1 ∨ p = ρ (ρ this 13) 2) σ σr := by
  unfold f_X6_rowsFrom_154 at hf
  exact hrec13 _ _ _ hf
theorem m_X6_rowsFrom_97 {N : Nat} {ρ : Nat → Nat → Nat} {this : Nat} {a1 : Nat} {a2 : Int32} {a3 : Int32} {a4 : Int32} {G_X6_rowsFrom : Nat → Nat → Int32 → Int32 → Int32 → St → Option (Int32 × St)} {r : Int32} {σr : St} (hA_X6_rowsFrom : ∀ {this : Nat} {a1 : Nat} {a2 : Int32} {a3 : Int32} {a4 : Int32} {σ : St} {r : Int32} {σr : St}, G_X6_rowsFrom this a1 a2 a3 a4 σ = some (r, σr) → Ag (fun p => (∃ j, p = ρ (ρ this 12) j) ∨ p = ρ (ρ this 13) 0 ∨ p = ρ (ρ this 13) 1 ∨ p = ρ this 13 ∨ p = ρ a1 10 ∨ p = ρ (ρ a1 8) 1 ∨ p = ρ (ρ a1 9) 1 ∨ p = ρ (ρ this 13) 2) σ σr) (rec13 : Int32 → Int32 → St → Option (Int32 × St)) (hrec13 : ∀ (x5 : Int32) (x6 : Int32) (σ : St), rec13 x5 x6 σ = some (r, σr) → Ag (fun p => (∃ j, p = ρ (ρ this 12) j) ∨ p = ρ (ρ this 13) 0 ∨ p = ρ (ρ this 13) 1 ∨ p = ρ this 13 ∨ p = ρ a1 10 ∨ p = ρ (ρ a1 8) 1 ∨ p = ρ (ρ a1 9) 1 ∨ p = ρ (ρ this 13) 2) σ σr) (x5 : Int32) (x6 : Int32) (σ : St) (hf : f_X6_rowsFrom_97 N ρ this a1 a2 a3 a4 G_X6_rowsFrom rec13 x5 x6 σ = some (r, σr)) : Ag (fun p => (∃ j, p = ρ (ρ this 12) j) ∨ p = ρ (ρ this 13) 0 ∨ p = ρ (ρ this 13) 1 ∨ p = ρ this 13 ∨ p = ρ a1 10 ∨ p = ρ (ρ a1 8) 1 ∨ p = ρ (ρ a1 9) 1 ∨ p = ρ (ρ this 13) 2) σ σr := by
  unfold f_X6_rowsFrom_97 at hf
  obtain ⟨_, σ2, q1, hf⟩ := bnd_some hf
  refine ag_call (m_X6_fits q1) (fun _ h => h.elim) ?_
  rcases ite_some hf with ⟨_, hf⟩ | ⟨_, hf⟩
  · skip
    exact m_X6_rowsFrom_154 hA_X6_rowsFrom rec13 hrec13 _ _ _ hf
  · skip
    obtain ⟨_, hf⟩ := gd_some hf
    obtain ⟨_, hf⟩ := gd_some hf
    obtain ⟨_, σ8, q2, hf⟩ := bnd_some hf
    refine ag_call (hA_X6_rowsFrom q2) (fun _ h => by
          rcases h with h | h | h | h | h | h | h | h
          · exact (Or.inl h)
          · exact (Or.inr (Or.inl h))
          · exact (Or.inr (Or.inr (Or.inl h)))
          · exact (Or.inr (Or.inr (Or.inr (Or.inl h))))
          · exact (Or.inr (Or.inr (Or.inr (Or.inr (Or.inl h)))))
          · exact (Or.inr (Or.inr (Or.inr (Or.inr (Or.inr (Or.inl h))))))
          · exact (Or.inr (Or.inr (Or.inr (Or.inr (Or.inr (Or.inr (Or.inl h)))))))
          · exact (Or.inr (Or.inr (Or.inr (Or.inr (Or.inr (Or.inr (Or.inr h)))))))) ?_
    obtain ⟨_, hf⟩ := gd_some hf
    obtain ⟨_, hf⟩ := gd_some hf
    obtain ⟨_, hf⟩ := gd_some hf
    obtain ⟨σ13, eσ13, hf⟩ := nmd_some hf
    refine ag_I eσ13 (Or.inl ⟨_, rfl⟩) ?_
    obtain ⟨y14, ey14, hf⟩ := nmd_some hf
    exact m_X6_rowsFrom_154 hA_X6_rowsFrom rec13 hrec13 _ _ _ hf
theorem m_X6_rowsFrom_160 {N : Nat} {ρ : Nat → Nat → Nat} {this : Nat} {a1 : Nat} {a2 : Int32} {a3 : Int32} {a4 : Int32} {G_X6_rowsFrom : Nat → Nat → Int32 → Int32 → Int32 → St → Option (Int32 × St)} {r : Int32} {σr : St} (hA_X6_rowsFrom : ∀ {this : Nat} {a1 : Nat} {a2 : Int32} {a3 : Int32} {a4 : Int32} {σ : St} {r : Int32} {σr : St}, G_X6_rowsFrom this a1 a2 a3 a4 σ = some (r, σr) → Ag (fun p => (∃ j, p = ρ (ρ this 12) j) ∨ p = ρ (ρ this 13) 0 ∨ p = ρ (ρ this 13) 1 ∨ p = ρ this 13 ∨ p = ρ a1 10 ∨ p = ρ (ρ a1 8) 1 ∨ p = ρ (ρ a1 9) 1 ∨ p = ρ (ρ this 13) 2) σ σr) (x5 : Int32) (σ : St) (hf : f_X6_rowsFrom_160 N ρ this a1 a2 a3 a4 G_X6_rowsFrom x5 σ = some (r, σr)) : Ag (fun p => (∃ j, p = ρ (ρ this 12) j) ∨ p = ρ (ρ this 13) 0 ∨ p = ρ (ρ this 13) 1 ∨ p = ρ this 13 ∨ p = ρ a1 10 ∨ p = ρ (ρ a1 8) 1 ∨ p = ρ (ρ a1 9) 1 ∨ p = ρ (ρ this 13) 2) σ σr := by
  unfold f_X6_rowsFrom_160 at hf
  cases hf
  exact ag_refl
theorem k_X6_rowsFrom_13 {N : Nat} {ρ : Nat → Nat → Nat} {this : Nat} {a1 : Nat} {a2 : Int32} {a3 : Int32} {a4 : Int32} {G_X6_rowsFrom : Nat → Nat → Int32 → Int32 → Int32 → St → Option (Int32 × St)} {r : Int32} {σr : St} (hA_X6_rowsFrom : ∀ {this : Nat} {a1 : Nat} {a2 : Int32} {a3 : Int32} {a4 : Int32} {σ : St} {r : Int32} {σr : St}, G_X6_rowsFrom this a1 a2 a3 a4 σ = some (r, σr) → Ag (fun p => (∃ j, p = ρ (ρ this 12) j) ∨ p = ρ (ρ this 13) 0 ∨ p = ρ (ρ this 13) 1 ∨ p = ρ this 13 ∨ p = ρ a1 10 ∨ p = ρ (ρ a1 8) 1 ∨ p = ρ (ρ a1 9) 1 ∨ p = ρ (ρ this 13) 2) σ σr) (rec13 : Int32 → Int32 → St → Option (Int32 × St)) (hrec13 : ∀ (x5 : Int32) (x6 : Int32) (σ : St), rec13 x5 x6 σ = some (r, σr) → Ag (fun p => (∃ j, p = ρ (ρ this 12) j) ∨ p = ρ (ρ this 13) 0 ∨ p = ρ (ρ this 13) 1 ∨ p = ρ this 13 ∨ p = ρ a1 10 ∨ p = ρ (ρ a1 8) 1 ∨ p = ρ (ρ a1 9) 1 ∨ p = ρ (ρ this 13) 2) σ σr) (x5 : Int32) (x6 : Int32) (σ : St) (hf : b_X6_rowsFrom_13 N ρ this a1 a2 a3 a4 G_X6_rowsFrom rec13 x5 x6 σ = some (r, σr)) : Ag (fun p => (∃ j, p = ρ (ρ this 12) j) ∨ p = ρ (ρ this 13) 0 ∨ p = ρ (ρ this 13) 1 ∨ p = ρ this 13 ∨ p = ρ a1 10 ∨ p = ρ (ρ a1 8) 1 ∨ p = ρ (ρ a1 9) 1 ∨ p = ρ (ρ this 13) 2) σ σr := by
  unfold b_X6_rowsFrom_13 at hf
  rcases ite_some hf with ⟨_, hf⟩ | ⟨_, hf⟩
  · skip
    exact m_X6_rowsFrom_160 hA_X6_rowsFrom _ _ hf
  · skip
    obtain ⟨_, hf⟩ := gd_some hf
    rcases ite_some hf with ⟨_, hf⟩ | ⟨_, hf⟩
    · skip
      exact m_X6_rowsFrom_160 hA_X6_rowsFrom _ _ hf
    · skip
      obtain ⟨_, hf⟩ := gd_some hf
      obtain ⟨σ19, eσ19, hf⟩ := nmd_some hf
      refine ag_I eσ19 (Or.inr (Or.inl rfl)) ?_
      obtain ⟨_, hf⟩ := gd_some hf
      obtain ⟨σ21, eσ21, hf⟩ := nmd_some hf
      refine ag_I eσ21 (Or.inr (Or.inr (Or.inl rfl))) ?_
      obtain ⟨σ22, eσ22, hf⟩ := nmd_some hf
      refine ag_I eσ22 (Or.inr (Or.inr (Or.inr (Or.inl rfl)))) ?_
      rcases ite_some hf with ⟨_, hf⟩ | ⟨_, hf⟩
      · skip
        obtain ⟨_, σ25, q1, hf⟩ := bnd_some hf
        refine ag_call (m_X9_rest q1) (fun _ h => (Or.inr (Or.inl h))) ?_
        exact m_X6_rowsFrom_97 hA_X6_rowsFrom rec13 hrec13 _ _ _ hf
      · skip
        obtain ⟨_, σ28, q2, hf⟩ := bnd_some hf
        refine ag_call (m_X9_kneel q2) (fun _ h => by
              rcases h with h | h | h | h | h | h
              · exact (Or.inr (Or.inr (Or.inr (Or.inr (Or.inl h)))))
              · exact (Or.inr (Or.inr (Or.inr (Or.inr (Or.inr (Or.inl h))))))
              · exact (Or.inr (Or.inr (Or.inr (Or.inr (Or.inr (Or.inr (Or.inl h)))))))
              · exact (Or.inr (Or.inr (Or.inr (Or.inr (Or.inr (Or.inr (Or.inr h)))))))
              · exact (Or.inr (Or.inr (Or.inl h)))
              · exact (Or.inr (Or.inl h))) ?_
        exact m_X6_rowsFrom_97 hA_X6_rowsFrom rec13 hrec13 _ _ _ hf
theorem m_X6_rowsFrom_13 {N : Nat} {ρ : Nat → Nat → Nat} {this : Nat} {a1 : Nat} {a2 : Int32} {a3 : Int32} {a4 : Int32} {G_X6_rowsFrom : Nat → Nat → Int32 → Int32 → Int32 → St → Option (Int32 × St)} {r : Int32} {σr : St} (hA_X6_rowsFrom : ∀ {this : Nat} {a1 : Nat} {a2 : Int32} {a3 : Int32} {a4 : Int32} {σ : St} {r : Int32} {σr : St}, G_X6_rowsFrom this a1 a2 a3 a4 σ = some (r, σr) → Ag (fun p => (∃ j, p = ρ (ρ this 12) j) ∨ p = ρ (ρ this 13) 0 ∨ p = ρ (ρ this 13) 1 ∨ p = ρ this 13 ∨ p = ρ a1 10 ∨ p = ρ (ρ a1 8) 1 ∨ p = ρ (ρ a1 9) 1 ∨ p = ρ (ρ this 13) 2) σ σr) : ∀ (n : Nat) (x5 : Int32) (x6 : Int32) (σ : St), f_X6_rowsFrom_13 N ρ this a1 a2 a3 a4 G_X6_rowsFrom n x5 x6 σ = some (r, σr) → Ag (fun p => (∃ j, p = ρ (ρ this 12) j) ∨ p = ρ (ρ this 13) 0 ∨ p = ρ (ρ this 13) 1 ∨ p = ρ this 13 ∨ p = ρ a1 10 ∨ p = ρ (ρ a1 8) 1 ∨ p = ρ (ρ a1 9) 1 ∨ p = ρ (ρ this 13) 2) σ σr := by
  intro n
  induction n with
  | zero => intro x5 x6 σ hf; cases hf
  | succ n ih => intro x5 x6 σ hf; exact k_X6_rowsFrom_13 hA_X6_rowsFrom _ ih x5 x6 σ hf
theorem mo_X6_rowsFrom {N : Nat} {ρ : Nat → Nat → Nat} {this : Nat} {a1 : Nat} {a2 : Int32} {a3 : Int32} {a4 : Int32} {G_X6_rowsFrom : Nat → Nat → Int32 → Int32 → Int32 → St → Option (Int32 × St)} {r : Int32} {σr : St} (hA_X6_rowsFrom : ∀ {this : Nat} {a1 : Nat} {a2 : Int32} {a3 : Int32} {a4 : Int32} {σ : St} {r : Int32} {σr : St}, G_X6_rowsFrom this a1 a2 a3 a4 σ = some (r, σr) → Ag (fun p => (∃ j, p = ρ (ρ this 12) j) ∨ p = ρ (ρ this 13) 0 ∨ p = ρ (ρ this 13) 1 ∨ p = ρ this 13 ∨ p = ρ a1 10 ∨ p = ρ (ρ a1 8) 1 ∨ p = ρ (ρ a1 9) 1 ∨ p = ρ (ρ this 13) 2) σ σr) {σ : St} (hf : fo_X6_rowsFrom N ρ this a1 a2 a3 a4 G_X6_rowsFrom σ = some (r, σr)) : Ag (fun p => (∃ j, p = ρ (ρ this 12) j) ∨ p = ρ (ρ this 13) 0 ∨ p = ρ (ρ this 13) 1 ∨ p = ρ this 13 ∨ p = ρ a1 10 ∨ p = ρ (ρ a1 8) 1 ∨ p = ρ (ρ a1 9) 1 ∨ p = ρ (ρ this 13) 2) σ σr := by
  unfold fo_X6_rowsFrom at hf
  rcases ite_some hf with ⟨_, hf⟩ | ⟨_, hf⟩
  · skip
    exact m_X6_rowsFrom_13 hA_X6_rowsFrom N _ _ _ hf
  · skip
    cases hf
    exact ag_refl
theorem mr_X6_rowsFrom {N : Nat} {ρ : Nat → Nat → Nat} : ∀ D : Nat, (∀ {this : Nat} {a1 : Nat} {a2 : Int32} {a3 : Int32} {a4 : Int32} {σ : St} {r : Int32} {σr : St}, fr_X6_rowsFrom N ρ D 0 this a1 a2 a3 a4 σ = some (r, σr) → Ag (fun p => (∃ j, p = ρ (ρ this 12) j) ∨ p = ρ (ρ this 13) 0 ∨ p = ρ (ρ this 13) 1 ∨ p = ρ this 13 ∨ p = ρ a1 10 ∨ p = ρ (ρ a1 8) 1 ∨ p = ρ (ρ a1 9) 1 ∨ p = ρ (ρ this 13) 2) σ σr) := by
  intro D
  induction D with
  | zero => exact fun hf => (by cases hf)
  | succ D ih => exact fun hf => mo_X6_rowsFrom (N := N) (ρ := ρ) (G_X6_rowsFrom := fr_X6_rowsFrom N ρ D 0) (fun h => ih h) hf
theorem m_X6_rowsFrom {N : Nat} {ρ : Nat → Nat → Nat} {this : Nat} {a1 : Nat} {a2 : Int32} {a3 : Int32} {a4 : Int32} {σ : St} {r : Int32} {σr : St} (hf : f_X6_rowsFrom N ρ this a1 a2 a3 a4 σ = some (r, σr)) : Ag (fun p => (∃ j, p = ρ (ρ this 12) j) ∨ p = ρ (ρ this 13) 0 ∨ p = ρ (ρ this 13) 1 ∨ p = ρ this 13 ∨ p = ρ a1 10 ∨ p = ρ (ρ a1 8) 1 ∨ p = ρ (ρ a1 9) 1 ∨ p = ρ (ρ this 13) 2) σ σr := (mr_X6_rowsFrom 6) hf

theorem k_X6_tallyRows_16 {N : Nat} {ρ : Nat → Nat → Nat} {this : Nat} {a1 : Nat} {a2 : Int32} {r : Int32} {σr : St} (rec16 : Int32 → St → Option (Int32 × St)) (hrec16 : ∀ (x3 : Int32) (σ : St), rec16 x3 σ = some (r, σr) → Ag (fun p => p = ρ (ρ this 13) 0 ∨ p = ρ (ρ this 13) 1 ∨ p = ρ (ρ this 13) 2 ∨ p = ρ (ρ this 13) 3 ∨ p = ρ this 13 ∨ (∃ j, p = ρ (ρ this 12) j) ∨ p = ρ a1 10 ∨ p = ρ (ρ a1 8) 1 ∨ p = ρ (ρ a1 9) 1 ∨ p = ρ this 11 ∨ p = ρ this 10 ∨ p = ρ this 9 ∨ p = ρ this 8) σ σr) (x3 : Int32) (σ : St) (hf : b_X6_tallyRows_16 N ρ this a1 a2 rec16 x3 σ = some (r, σr)) : Ag (fun p => p = ρ (ρ this 13) 0 ∨ p = ρ (ρ this 13) 1 ∨ p = ρ (ρ this 13) 2 ∨ p = ρ (ρ this 13) 3 ∨ p = ρ this 13 ∨ (∃ j, p = ρ (ρ this 12) j) ∨ p = ρ a1 10 ∨ p = ρ (ρ a1 8) 1 ∨ p = ρ (ρ a1 9) 1 ∨ p = ρ this 11 ∨ p = ρ this 10 ∨ p = ρ this 9 ∨ p = ρ this 8) σ σr := by
  unfold b_X6_tallyRows_16 at hf
  rcases ite_some hf with ⟨_, hf⟩ | ⟨_, hf⟩
  · skip
    obtain ⟨_, σ3, q1, hf⟩ := bnd_some hf
    refine ag_call (m_X9_begin q1) (fun _ h => by
          rcases h with h | h | h | h | h
          · exact (Or.inl h)
          · exact (Or.inr (Or.inl h))
          · exact (Or.inr (Or.inr (Or.inl h)))
          · exact (Or.inr (Or.inr (Or.inr (Or.inl h))))
          · exact (Or.inr (Or.inr (Or.inr (Or.inr (Or.inl h)))))) ?_
    obtain ⟨_, hf⟩ := gd_some hf
    obtain ⟨_, hf⟩ := gd_some hf
    obtain ⟨_, σ8, q2, hf⟩ := bnd_some hf
    refine ag_call (m_X6_rowsFrom q2) (fun _ h => by
          rcases h with h | h | h | h | h | h | h | h
          · exact (Or.inr (Or.inr (Or.inr (Or.inr (Or.inr (Or.inl h))))))
          · exact (Or.inl h)
          · exact (Or.inr (Or.inl h))
          · exact (Or.inr (Or.inr (Or.inr (Or.inr (Or.inl h)))))
          · exact (Or.inr (Or.inr (Or.inr (Or.inr (Or.inr (Or.inr (Or.inl h)))))))
          · exact (Or.inr (Or.inr (Or.inr (Or.inr (Or.inr (Or.inr (Or.inr (Or.inl h))))))))
          · exact (Or.inr (Or.inr (Or.inr (Or.inr (Or.inr (Or.inr (Or.inr (Or.inr (Or.inl h)))))))))
          · exact (Or.inr (Or.inr (Or.inl h)))) ?_
    cases hf
    exact ag_refl
  · skip
    obtain ⟨_, hf⟩ := gd_some hf
    obtain ⟨_, σ12, q3, hf⟩ := bnd_some hf
    refine ag_call (m_J7_fill_53178 q3) (fun _ h => (Or.inr (Or.inr (Or.inr (Or.inr (Or.inr (Or.inl ⟨_, h⟩))))))) ?_
    exact hrec16 _ _ hf
theorem m_X6_tallyRows_16 {N : Nat} {ρ : Nat → Nat → Nat} {this : Nat} {a1 : Nat} {a2 : Int32} {r : Int32} {σr : St} : ∀ (n : Nat) (x3 : Int32) (σ : St), f_X6_tallyRows_16 N ρ this a1 a2 n x3 σ = some (r, σr) → Ag (fun p => p = ρ (ρ this 13) 0 ∨ p = ρ (ρ this 13) 1 ∨ p = ρ (ρ this 13) 2 ∨ p = ρ (ρ this 13) 3 ∨ p = ρ this 13 ∨ (∃ j, p = ρ (ρ this 12) j) ∨ p = ρ a1 10 ∨ p = ρ (ρ a1 8) 1 ∨ p = ρ (ρ a1 9) 1 ∨ p = ρ this 11 ∨ p = ρ this 10 ∨ p = ρ this 9 ∨ p = ρ this 8) σ σr := by
  intro n
  induction n with
  | zero => intro x3 σ hf; cases hf
  | succ n ih => intro x3 σ hf; exact k_X6_tallyRows_16 _ ih x3 σ hf
theorem m_X6_tallyRows {N : Nat} {ρ : Nat → Nat → Nat} {this : Nat} {a1 : Nat} {a2 : Int32} {r : Int32} {σr : St} {σ : St} (hf : f_X6_tallyRows N ρ this a1 a2 σ = some (r, σr)) : Ag (fun p => p = ρ (ρ this 13) 0 ∨ p = ρ (ρ this 13) 1 ∨ p = ρ (ρ this 13) 2 ∨ p = ρ (ρ this 13) 3 ∨ p = ρ this 13 ∨ (∃ j, p = ρ (ρ this 12) j) ∨ p = ρ a1 10 ∨ p = ρ (ρ a1 8) 1 ∨ p = ρ (ρ a1 9) 1 ∨ p = ρ this 11 ∨ p = ρ this 10 ∨ p = ρ this 9 ∨ p = ρ this 8) σ σr := by
  unfold f_X6_tallyRows at hf
  rcases ite_some hf with ⟨_, hf⟩ | ⟨_, hf⟩
  · skip
    cases hf
    exact ag_refl
  · skip
    obtain ⟨_, σ16, q1, hf⟩ := bnd_some hf
    refine ag_call (m_X6_gatherBounds q1) (fun _ h => by
          rcases h with h | h | h | h
          · exact (Or.inr (Or.inr (Or.inr (Or.inr (Or.inr (Or.inr (Or.inr (Or.inr (Or.inr (Or.inl h))))))))))
          · exact (Or.inr (Or.inr (Or.inr (Or.inr (Or.inr (Or.inr (Or.inr (Or.inr (Or.inr (Or.inr (Or.inl h)))))))))))
          · exact (Or.inr (Or.inr (Or.inr (Or.inr (Or.inr (Or.inr (Or.inr (Or.inr (Or.inr (Or.inr (Or.inr (Or.inl h))))))))))))
          · exact (Or.inr (Or.inr (Or.inr (Or.inr (Or.inr (Or.inr (Or.inr (Or.inr (Or.inr (Or.inr (Or.inr (Or.inr h))))))))))))) ?_
    exact m_X6_tallyRows_16 N _ _ hf
theorem m_X6_mostLeft_48 {N : Nat} {ρ : Nat → Nat → Nat} {this : Nat} {a1 : Int32} {r : Int32} {σr : St} (x2 : Int32) (σ : St) (hf : f_X6_mostLeft_48 N ρ this a1 x2 σ = some (r, σr)) : Ag (fun p => False) σ σr := by
  unfold f_X6_mostLeft_48 at hf
  cases hf
  exact ag_refl
theorem k_X6_mostLeft_14 {N : Nat} {ρ : Nat → Nat → Nat} {this : Nat} {a1 : Int32} {r : Int32} {σr : St} (rec14 : Int32 → Int32 → St → Option (Int32 × St)) (hrec14 : ∀ (x2 : Int32) (x3 : Int32) (σ : St), rec14 x2 x3 σ = some (r, σr) → Ag (fun p => False) σ σr) (x2 : Int32) (x3 : Int32) (σ : St) (hf : b_X6_mostLeft_14 N ρ this a1 rec14 x2 x3 σ = some (r, σr)) : Ag (fun p => False) σ σr := by
  unfold b_X6_mostLeft_14 at hf
  obtain ⟨_, hf⟩ := gd_some hf
  rcases ite_some hf with ⟨_, hf⟩ | ⟨_, hf⟩
  · skip
    exact m_X6_mostLeft_48 _ _ hf
  · skip
    obtain ⟨_, hf⟩ := gd_some hf
    obtain ⟨_, hf⟩ := gd_some hf
    obtain ⟨y5, ey5, hf⟩ := nmd_some hf
    exact hrec14 _ _ _ hf
theorem m_X6_mostLeft_14 {N : Nat} {ρ : Nat → Nat → Nat} {this : Nat} {a1 : Int32} {r : Int32} {σr : St} : ∀ (n : Nat) (x2 : Int32) (x3 : Int32) (σ : St), f_X6_mostLeft_14 N ρ this a1 n x2 x3 σ = some (r, σr) → Ag (fun p => False) σ σr := by
  intro n
  induction n with
  | zero => intro x2 x3 σ hf; cases hf
  | succ n ih => intro x2 x3 σ hf; exact k_X6_mostLeft_14 _ ih x2 x3 σ hf
theorem m_X6_mostLeft {N : Nat} {ρ : Nat → Nat → Nat} {this : Nat} {a1 : Int32} {r : Int32} {σr : St} {σ : St} (hf : f_X6_mostLeft N ρ this a1 σ = some (r, σr)) : Ag (fun p => False) σ σr := by
  unfold f_X6_mostLeft at hf
  rcases ite_some hf with ⟨_, hf⟩ | ⟨_, hf⟩
  · skip
    exact m_X6_mostLeft_48 _ _ hf
  · skip
    rcases ite_some hf with ⟨_, hf⟩ | ⟨_, hf⟩
    · skip
      exact m_X6_mostLeft_48 _ _ hf
    · skip
      exact m_X6_mostLeft_14 N _ _ _ hf
