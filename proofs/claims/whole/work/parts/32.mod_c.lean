theorem k_X12_four_3 {N : Nat} {ρ : Nat → Nat → Nat} {this : Nat} {a1 : Int32} {r : Int32} {σr : St} (rec3 : Int32 → St → Option (Int32 × St)) (hrec3 : ∀ (x2 : Int32) (σ : St), rec3 x2 σ = some (r, σr) → Ag (fun p => p = ρ this 0 ∨ p = this) σ σr) (x2 : Int32) (σ : St) (hf : b_X12_four_3 N ρ this a1 rec3 x2 σ = some (r, σr)) : Ag (fun p => p = ρ this 0 ∨ p = this) σ σr := by
  unfold b_X12_four_3 at hf
  rcases ite_some hf with ⟨_, hf⟩ | ⟨_, hf⟩
  · skip
    cases hf
    exact ag_refl
  · skip
    obtain ⟨_, hf⟩ := gd_some hf
    obtain ⟨σ3, eσ3, hf⟩ := nmd_some hf
    refine ag_I eσ3 (Or.inl rfl) ?_
    obtain ⟨σ4, eσ4, hf⟩ := nmd_some hf
    refine ag_I eσ4 (Or.inr rfl) ?_
    exact hrec3 _ _ hf
theorem m_X12_four_3 {N : Nat} {ρ : Nat → Nat → Nat} {this : Nat} {a1 : Int32} {r : Int32} {σr : St} : ∀ (n : Nat) (x2 : Int32) (σ : St), f_X12_four_3 N ρ this a1 n x2 σ = some (r, σr) → Ag (fun p => p = ρ this 0 ∨ p = this) σ σr := by
  intro n
  induction n with
  | zero => intro x2 σ hf; cases hf
  | succ n ih => intro x2 σ hf; exact k_X12_four_3 _ ih x2 σ hf
theorem m_X12_four {N : Nat} {ρ : Nat → Nat → Nat} {this : Nat} {a1 : Int32} {r : Int32} {σr : St} {σ : St} (hf : f_X12_four N ρ this a1 σ = some (r, σr)) : Ag (fun p => p = ρ this 0 ∨ p = this) σ σr := by
  unfold f_X12_four at hf
  exact m_X12_four_3 N _ _ hf
theorem m_X12_feed {N : Nat} {ρ : Nat → Nat → Nat} {this : Nat} {a1 : Int32} {a2 : Int32} {a3 : Int32} {a4 : Int32} {a5 : Int32} {r : Int32} {σr : St} {σ : St} (hf : f_X12_feed N ρ this a1 a2 a3 a4 a5 σ = some (r, σr)) : Ag (fun p => p = ρ this 0 ∨ p = this) σ σr := by
  unfold f_X12_feed at hf
  rcases ite_some hf with ⟨_, hf⟩ | ⟨_, hf⟩
  · skip
    obtain ⟨_, σ3, q1, hf⟩ := bnd_some hf
    refine ag_call (m_X12_four q1) (fun _ h => by
          rcases h with h | h
          · exact (Or.inl h)
          · exact (Or.inr h)) ?_
    obtain ⟨_, σ6, q2, hf⟩ := bnd_some hf
    refine ag_call (m_X12_four q2) (fun _ h => by
          rcases h with h | h
          · exact (Or.inl h)
          · exact (Or.inr h)) ?_
    obtain ⟨_, σ9, q3, hf⟩ := bnd_some hf
    refine ag_call (m_X12_four q3) (fun _ h => by
          rcases h with h | h
          · exact (Or.inl h)
          · exact (Or.inr h)) ?_
    obtain ⟨_, σ12, q4, hf⟩ := bnd_some hf
    refine ag_call (m_X12_four q4) (fun _ h => by
          rcases h with h | h
          · exact (Or.inl h)
          · exact (Or.inr h)) ?_
    obtain ⟨_, σ15, q5, hf⟩ := bnd_some hf
    refine ag_call (m_X12_four q5) (fun _ h => by
          rcases h with h | h
          · exact (Or.inl h)
          · exact (Or.inr h)) ?_
    cases hf
    exact ag_refl
  · skip
    cases hf
    exact ag_refl
theorem m_X12_end_12 {N : Nat} {ρ : Nat → Nat → Nat} {this : Nat} {a1 : Int32} {r : Int32} {σr : St} (σ : St) (hf : f_X12_end_12 N ρ this a1 σ = some (r, σr)) : Ag (fun p => p = this) σ σr := by
  unfold f_X12_end_12 at hf
  cases hf
  exact ag_refl
theorem m_X12_end {N : Nat} {ρ : Nat → Nat → Nat} {this : Nat} {a1 : Int32} {r : Int32} {σr : St} {σ : St} (hf : f_X12_end N ρ this a1 σ = some (r, σr)) : Ag (fun p => p = this) σ σr := by
  unfold f_X12_end at hf
  rcases ite_some hf with ⟨_, hf⟩ | ⟨_, hf⟩
  · skip
    exact m_X12_end_12 _ hf
  · skip
    rcases ite_some hf with ⟨_, hf⟩ | ⟨_, hf⟩
    · skip
      obtain ⟨σ3, eσ3, hf⟩ := nmd_some hf
      refine ag_I eσ3 rfl ?_
      cases hf
      exact ag_refl
    · skip
      exact m_X12_end_12 _ hf
theorem m_X12_here_28 {N : Nat} {ρ : Nat → Nat → Nat} {this : Nat} {a1 : Int32} {r : Int32} {σr : St} (s0 : Int32) (σ : St) (hf : f_X12_here_28 N ρ this a1 s0 σ = some (r, σr)) : Ag (fun p => False) σ σr := by
  unfold f_X12_here_28 at hf
  cases hf
  exact ag_refl
theorem m_X12_here {N : Nat} {ρ : Nat → Nat → Nat} {this : Nat} {a1 : Int32} {r : Int32} {σr : St} {σ : St} (hf : f_X12_here N ρ this a1 σ = some (r, σr)) : Ag (fun p => False) σ σr := by
  unfold f_X12_here at hf
  rcases ite_some hf with ⟨_, hf⟩ | ⟨_, hf⟩
  · skip
    exact m_X12_here_28 _ _ hf
  · skip
    obtain ⟨_, hf⟩ := gd_some hf
    exact m_X12_here_28 _ _ hf
theorem m_X12_isLetter_17 {N : Nat} {ρ : Nat → Nat → Nat} {a1 : Int32} {r : Int32} {σr : St} (s0 : Int32) (σ : St) (hf : f_X12_isLetter_17 N ρ a1 s0 σ = some (r, σr)) : Ag (fun p => False) σ σr := by
  unfold f_X12_isLetter_17 at hf
  obtain ⟨_, hf⟩ := gd_some hf
  cases hf
  exact ag_refl
theorem m_X12_isLetter_16 {N : Nat} {ρ : Nat → Nat → Nat} {a1 : Int32} {r : Int32} {σr : St} (σ : St) (hf : f_X12_isLetter_16 N ρ a1 σ = some (r, σr)) : Ag (fun p => False) σ σr := by
  unfold f_X12_isLetter_16 at hf
  exact m_X12_isLetter_17 _ _ hf
theorem m_X12_isLetter {N : Nat} {ρ : Nat → Nat → Nat} {a1 : Int32} {r : Int32} {σr : St} {σ : St} (hf : f_X12_isLetter N ρ a1 σ = some (r, σr)) : Ag (fun p => False) σ σr := by
  unfold f_X12_isLetter at hf
  rcases ite_some hf with ⟨_, hf⟩ | ⟨_, hf⟩
  · skip
    exact m_X12_isLetter_16 _ hf
  · skip
    rcases ite_some hf with ⟨_, hf⟩ | ⟨_, hf⟩
    · skip
      exact m_X12_isLetter_16 _ hf
    · skip
      exact m_X12_isLetter_17 _ _ hf
theorem m_X12_isDigit_17 {N : Nat} {ρ : Nat → Nat → Nat} {a1 : Int32} {r : Int32} {σr : St} (s0 : Int32) (σ : St) (hf : f_X12_isDigit_17 N ρ a1 s0 σ = some (r, σr)) : Ag (fun p => False) σ σr := by
  unfold f_X12_isDigit_17 at hf
  obtain ⟨_, hf⟩ := gd_some hf
  cases hf
  exact ag_refl
theorem m_X12_isDigit_16 {N : Nat} {ρ : Nat → Nat → Nat} {a1 : Int32} {r : Int32} {σr : St} (σ : St) (hf : f_X12_isDigit_16 N ρ a1 σ = some (r, σr)) : Ag (fun p => False) σ σr := by
  unfold f_X12_isDigit_16 at hf
  exact m_X12_isDigit_17 _ _ hf
theorem m_X12_isDigit {N : Nat} {ρ : Nat → Nat → Nat} {a1 : Int32} {r : Int32} {σr : St} {σ : St} (hf : f_X12_isDigit N ρ a1 σ = some (r, σr)) : Ag (fun p => False) σ σr := by
  unfold f_X12_isDigit at hf
  rcases ite_some hf with ⟨_, hf⟩ | ⟨_, hf⟩
  · skip
    exact m_X12_isDigit_16 _ hf
  · skip
    rcases ite_some hf with ⟨_, hf⟩ | ⟨_, hf⟩
    · skip
      exact m_X12_isDigit_16 _ hf
    · skip
      exact m_X12_isDigit_17 _ _ hf
theorem m_X12_isSign_71 {N : Nat} {ρ : Nat → Nat → Nat} {a1 : Int32} {r : Int32} {σr : St} (s0 : Int32) (σ : St) (hf : f_X12_isSign_71 N ρ a1 s0 σ = some (r, σr)) : Ag (fun p => False) σ σr := by
  unfold f_X12_isSign_71 at hf
  obtain ⟨_, hf⟩ := gd_some hf
  cases hf
  exact ag_refl
theorem m_X12_isSign_66 {N : Nat} {ρ : Nat → Nat → Nat} {a1 : Int32} {r : Int32} {σr : St} (σ : St) (hf : f_X12_isSign_66 N ρ a1 σ = some (r, σr)) : Ag (fun p => False) σ σr := by
  unfold f_X12_isSign_66 at hf
  exact m_X12_isSign_71 _ _ hf
theorem m_X12_isSign {N : Nat} {ρ : Nat → Nat → Nat} {a1 : Int32} {r : Int32} {σr : St} {σ : St} (hf : f_X12_isSign N ρ a1 σ = some (r, σr)) : Ag (fun p => False) σ σr := by
  unfold f_X12_isSign at hf
  rcases ite_some hf with ⟨_, hf⟩ | ⟨_, hf⟩
  · skip
    exact m_X12_isSign_66 _ hf
  · skip
    rcases ite_some hf with ⟨_, hf⟩ | ⟨_, hf⟩
    · skip
      exact m_X12_isSign_66 _ hf
    · skip
      rcases ite_some hf with ⟨_, hf⟩ | ⟨_, hf⟩
      · skip
        exact m_X12_isSign_66 _ hf
      · skip
        rcases ite_some hf with ⟨_, hf⟩ | ⟨_, hf⟩
        · skip
          exact m_X12_isSign_66 _ hf
        · skip
          rcases ite_some hf with ⟨_, hf⟩ | ⟨_, hf⟩
          · skip
            exact m_X12_isSign_66 _ hf
          · skip
            rcases ite_some hf with ⟨_, hf⟩ | ⟨_, hf⟩
            · skip
              exact m_X12_isSign_66 _ hf
            · skip
              rcases ite_some hf with ⟨_, hf⟩ | ⟨_, hf⟩
              · skip
                exact m_X12_isSign_66 _ hf
              · skip
                rcases ite_some hf with ⟨_, hf⟩ | ⟨_, hf⟩
                · skip
                  exact m_X12_isSign_66 _ hf
                · skip
                  rcases ite_some hf with ⟨_, hf⟩ | ⟨_, hf⟩
                  · skip
                    exact m_X12_isSign_66 _ hf
                  · skip
                    rcases ite_some hf with ⟨_, hf⟩ | ⟨_, hf⟩
                    · skip
                      exact m_X12_isSign_66 _ hf
                    · skip
                      rcases ite_some hf with ⟨_, hf⟩ | ⟨_, hf⟩
                      · skip
                        exact m_X12_isSign_66 _ hf
                      · skip
                        exact m_X12_isSign_71 _ _ hf
theorem m_X12_token_20 {N : Nat} {ρ : Nat → Nat → Nat} {this : Nat} {r : Int32} {σr : St} (rec0 : St → Option (Int32 × St)) (hrec0 : ∀ (σ : St), rec0 σ = some (r, σr) → Ag (fun p => p = this) σ σr) (σ : St) (hf : f_X12_token_20 N ρ this rec0 σ = some (r, σr)) : Ag (fun p => p = this) σ σr := by
  unfold f_X12_token_20 at hf
  obtain ⟨σ1, eσ1, hf⟩ := nmd_some hf
  refine ag_I eσ1 rfl ?_
  exact hrec0 _ hf
theorem m_X12_token_113 {N : Nat} {ρ : Nat → Nat → Nat} {this : Nat} {r : Int32} {σr : St} (rec78 : Int32 → St → Option (Int32 × St)) (hrec78 : ∀ (x2 : Int32) (σ : St), rec78 x2 σ = some (r, σr) → Ag (fun p => p = this) σ σr) (x2 : Int32) (σ : St) (hf : f_X12_token_113 N ρ this rec78 x2 σ = some (r, σr)) : Ag (fun p => p = this) σ σr := by
  unfold f_X12_token_113 at hf
  exact hrec78 _ _ hf
theorem m_X12_token_250 {N : Nat} {ρ : Nat → Nat → Nat} {this : Nat} {r : Int32} {σr : St} (σ : St) (hf : f_X12_token_250 N ρ this σ = some (r, σr)) : Ag (fun p => p = this) σ σr := by
  unfold f_X12_token_250 at hf
  cases hf
  exact ag_refl
theorem m_X12_token_232 {N : Nat} {ρ : Nat → Nat → Nat} {this : Nat} {r : Int32} {σr : St} (x2 : Int32) (σ : St) (hf : f_X12_token_232 N ρ this x2 σ = some (r, σr)) : Ag (fun p => p = this) σ σr := by
  unfold f_X12_token_232 at hf
  rcases ite_some hf with ⟨_, hf⟩ | ⟨_, hf⟩
  · skip
    exact m_X12_token_250 _ hf
  · skip
    obtain ⟨σ3, eσ3, hf⟩ := nmd_some hf
    refine ag_I eσ3 rfl ?_
    exact m_X12_token_250 _ hf
theorem m_X12_token_131 {N : Nat} {ρ : Nat → Nat → Nat} {this : Nat} {r : Int32} {σr : St} (x2 : Int32) (s0 : Int32) (σ : St) (hf : f_X12_token_131 N ρ this x2 s0 σ = some (r, σr)) : Ag (fun p => p = this) σ σr := by
  unfold f_X12_token_131 at hf
  obtain ⟨σ4, eσ4, hf⟩ := nmd_some hf
  refine ag_I eσ4 rfl ?_
  exact m_X12_token_232 _ _ hf
theorem k_X12_token_78 {N : Nat} {ρ : Nat → Nat → Nat} {this : Nat} {r : Int32} {σr : St} (rec78 : Int32 → St → Option (Int32 × St)) (hrec78 : ∀ (x2 : Int32) (σ : St), rec78 x2 σ = some (r, σr) → Ag (fun p => p = this) σ σr) (x2 : Int32) (σ : St) (hf : b_X12_token_78 N ρ this rec78 x2 σ = some (r, σr)) : Ag (fun p => p = this) σ σr := by
  unfold b_X12_token_78 at hf
  obtain ⟨_, σ6, q1, hf⟩ := bnd_some hf
  refine ag_call (m_X12_here q1) (fun _ h => h.elim) ?_
  obtain ⟨_, σ9, q2, hf⟩ := bnd_some hf
  refine ag_call (m_X12_isLetter q2) (fun _ h => h.elim) ?_
  rcases ite_some hf with ⟨_, hf⟩ | ⟨_, hf⟩
  · skip
    rcases ite_some hf with ⟨_, hf⟩ | ⟨_, hf⟩
    · skip
      exact m_X12_token_131 _ _ _ hf
    · skip
      exact m_X12_token_131 _ _ _ hf
  · skip
    rcases ite_some hf with ⟨_, hf⟩ | ⟨_, hf⟩
    · skip
      exact m_X12_token_113 rec78 hrec78 _ _ hf
    · skip
      obtain ⟨_, σ15, q3, hf⟩ := bnd_some hf
      refine ag_call (m_X12_here q3) (fun _ h => h.elim) ?_
      obtain ⟨σ17, eσ17, hf⟩ := nmd_some hf
      refine ag_J eσ17 rfl ?_
      exact m_X12_token_113 rec78 hrec78 _ _ hf
theorem m_X12_token_78 {N : Nat} {ρ : Nat → Nat → Nat} {this : Nat} {r : Int32} {σr : St} : ∀ (n : Nat) (x2 : Int32) (σ : St), f_X12_token_78 N ρ this n x2 σ = some (r, σr) → Ag (fun p => p = this) σ σr := by
  intro n
  induction n with
  | zero => intro x2 σ hf; cases hf
  | succ n ih => intro x2 σ hf; exact k_X12_token_78 _ ih x2 σ hf
theorem m_X12_token_180 {N : Nat} {ρ : Nat → Nat → Nat} {this : Nat} {r : Int32} {σr : St} (rec144 : Int32 → St → Option (Int32 × St)) (hrec144 : ∀ (x2 : Int32) (σ : St), rec144 x2 σ = some (r, σr) → Ag (fun p => p = this) σ σr) (x2 : Int32) (σ : St) (hf : f_X12_token_180 N ρ this rec144 x2 σ = some (r, σr)) : Ag (fun p => p = this) σ σr := by
  unfold f_X12_token_180 at hf
  exact hrec144 _ _ hf
theorem m_X12_token_208 {N : Nat} {ρ : Nat → Nat → Nat} {this : Nat} {r : Int32} {σr : St} (x2 : Int32) (s0 : Int32) (σ : St) (hf : f_X12_token_208 N ρ this x2 s0 σ = some (r, σr)) : Ag (fun p => p = this) σ σr := by
  unfold f_X12_token_208 at hf
  obtain ⟨σ18, eσ18, hf⟩ := nmd_some hf
  refine ag_I eσ18 rfl ?_
  exact m_X12_token_232 _ _ hf
theorem m_X12_token_203 {N : Nat} {ρ : Nat → Nat → Nat} {this : Nat} {r : Int32} {σr : St} (x2 : Int32) (σ : St) (hf : f_X12_token_203 N ρ this x2 σ = some (r, σr)) : Ag (fun p => p = this) σ σr := by
  unfold f_X12_token_203 at hf
  exact m_X12_token_208 _ _ _ hf
theorem k_X12_token_144 {N : Nat} {ρ : Nat → Nat → Nat} {this : Nat} {r : Int32} {σr : St} (rec144 : Int32 → St → Option (Int32 × St)) (hrec144 : ∀ (x2 : Int32) (σ : St), rec144 x2 σ = some (r, σr) → Ag (fun p => p = this) σ σr) (x2 : Int32) (σ : St) (hf : b_X12_token_144 N ρ this rec144 x2 σ = some (r, σr)) : Ag (fun p => p = this) σ σr := by
  unfold b_X12_token_144 at hf
  obtain ⟨_, σ20, q1, hf⟩ := bnd_some hf
  refine ag_call (m_X12_here q1) (fun _ h => h.elim) ?_
  obtain ⟨_, σ23, q2, hf⟩ := bnd_some hf
  refine ag_call (m_X12_isDigit q2) (fun _ h => h.elim) ?_
  rcases ite_some hf with ⟨_, hf⟩ | ⟨_, hf⟩
  · skip
    rcases ite_some hf with ⟨_, hf⟩ | ⟨_, hf⟩
    · skip
      exact m_X12_token_203 _ _ hf
    · skip
      obtain ⟨_, σ28, q3, hf⟩ := bnd_some hf
      refine ag_call (m_X12_here q3) (fun _ h => h.elim) ?_
      obtain ⟨_, σ31, q4, hf⟩ := bnd_some hf
      refine ag_call (m_X12_isLetter q4) (fun _ h => h.elim) ?_
      rcases ite_some hf with ⟨_, hf⟩ | ⟨_, hf⟩
      · skip
        exact m_X12_token_208 _ _ _ hf
      · skip
        exact m_X12_token_203 _ _ hf
  · skip
    rcases ite_some hf with ⟨_, hf⟩ | ⟨_, hf⟩
    · skip
      exact m_X12_token_180 rec144 hrec144 _ _ hf
    · skip
      obtain ⟨_, σ36, q5, hf⟩ := bnd_some hf
      refine ag_call (m_X12_here q5) (fun _ h => h.elim) ?_
      obtain ⟨σ38, eσ38, hf⟩ := nmd_some hf
      refine ag_I eσ38 rfl ?_
      exact m_X12_token_180 rec144 hrec144 _ _ hf
theorem m_X12_token_144 {N : Nat} {ρ : Nat → Nat → Nat} {this : Nat} {r : Int32} {σr : St} : ∀ (n : Nat) (x2 : Int32) (σ : St), f_X12_token_144 N ρ this n x2 σ = some (r, σr) → Ag (fun p => p = this) σ σr := by
  intro n
  induction n with
  | zero => intro x2 σ hf; cases hf
  | succ n ih => intro x2 σ hf; exact k_X12_token_144 _ ih x2 σ hf
theorem m_X12_token_229 {N : Nat} {ρ : Nat → Nat → Nat} {this : Nat} {r : Int32} {σr : St} (x2 : Int32) (s0 : Int32) (σ : St) (hf : f_X12_token_229 N ρ this x2 s0 σ = some (r, σr)) : Ag (fun p => p = this) σ σr := by
  unfold f_X12_token_229 at hf
  obtain ⟨σ39, eσ39, hf⟩ := nmd_some hf
  refine ag_I eσ39 rfl ?_
  exact m_X12_token_232 _ _ hf
theorem k_X12_token_0 {N : Nat} {ρ : Nat → Nat → Nat} {this : Nat} {r : Int32} {σr : St} (rec0 : St → Option (Int32 × St)) (hrec0 : ∀ (σ : St), rec0 σ = some (r, σr) → Ag (fun p => p = this) σ σr) (σ : St) (hf : b_X12_token_0 N ρ this rec0 σ = some (r, σr)) : Ag (fun p => p = this) σ σr := by
  unfold b_X12_token_0 at hf
  obtain ⟨_, σ41, q1, hf⟩ := bnd_some hf
  refine ag_call (m_X12_here q1) (fun _ h => h.elim) ?_
  rcases ite_some hf with ⟨_, hf⟩ | ⟨_, hf⟩
  · skip
    exact m_X12_token_20 rec0 hrec0 _ hf
  · skip
    obtain ⟨_, σ45, q2, hf⟩ := bnd_some hf
    refine ag_call (m_X12_here q2) (fun _ h => h.elim) ?_
    rcases ite_some hf with ⟨_, hf⟩ | ⟨_, hf⟩
    · skip
      exact m_X12_token_20 rec0 hrec0 _ hf
    · skip
      obtain ⟨σ48, eσ48, hf⟩ := nmd_some hf
      refine ag_I eσ48 rfl ?_
      obtain ⟨_, σ50, q3, hf⟩ := bnd_some hf
      refine ag_call (m_X12_here q3) (fun _ h => h.elim) ?_
      obtain ⟨σ52, eσ52, hf⟩ := nmd_some hf
      refine ag_J eσ52 rfl ?_
      obtain ⟨σ53, eσ53, hf⟩ := nmd_some hf
      refine ag_I eσ53 rfl ?_
      rcases ite_some hf with ⟨_, hf⟩ | ⟨_, hf⟩
      · skip
        obtain ⟨_, σ56, q4, hf⟩ := bnd_some hf
        refine ag_call (m_X12_isLetter q4) (fun _ h => h.elim) ?_
        rcases ite_some hf with ⟨_, hf⟩ | ⟨_, hf⟩
        · skip
          obtain ⟨_, σ60, q5, hf⟩ := bnd_some hf
          refine ag_call (m_X12_isDigit q5) (fun _ h => h.elim) ?_
          rcases ite_some hf with ⟨_, hf⟩ | ⟨_, hf⟩
          · skip
            obtain ⟨_, σ64, q6, hf⟩ := bnd_some hf
            refine ag_call (m_X12_isSign q6) (fun _ h => h.elim) ?_
            rcases ite_some hf with ⟨_, hf⟩ | ⟨_, hf⟩
            · skip
              exact m_X12_token_229 _ _ _ hf
            · skip
              exact m_X12_token_229 _ _ _ hf
          · skip
            exact m_X12_token_144 N _ _ hf
        · skip
          exact m_X12_token_78 N _ _ hf
      · skip
        obtain ⟨σ67, eσ67, hf⟩ := nmd_some hf
        refine ag_I eσ67 rfl ?_
        exact m_X12_token_232 _ _ hf
theorem m_X12_token_0 {N : Nat} {ρ : Nat → Nat → Nat} {this : Nat} {r : Int32} {σr : St} : ∀ (n : Nat) (σ : St), f_X12_token_0 N ρ this n σ = some (r, σr) → Ag (fun p => p = this) σ σr := by
  intro n
  induction n with
  | zero => intro σ hf; cases hf
  | succ n ih => intro σ hf; exact k_X12_token_0 _ ih σ hf
theorem m_X12_token {N : Nat} {ρ : Nat → Nat → Nat} {this : Nat} {r : Int32} {σr : St} {σ : St} (hf : f_X12_token N ρ this σ = some (r, σr)) : Ag (fun p => p = this) σ σr := by
  unfold f_X12_token at hf
  exact m_X12_token_0 N _ hf
theorem m_X12_wrong_22 {N : Nat} {ρ : Nat → Nat → Nat} {this : Nat} {a1 : Int32} {r : Int32} {σr : St} (s0 : Int32) (σ : St) (hf : f_X12_wrong_22 N ρ this a1 s0 σ = some (r, σr)) : Ag (fun p => p = this) σ σr := by
  unfold f_X12_wrong_22 at hf
  obtain ⟨σ1, eσ1, hf⟩ := nmd_some hf
  refine ag_I eσ1 rfl ?_
  obtain ⟨σ2, eσ2, hf⟩ := nmd_some hf
  refine ag_I eσ2 rfl ?_
  cases hf
  exact ag_refl
theorem m_X12_wrong {N : Nat} {ρ : Nat → Nat → Nat} {this : Nat} {a1 : Int32} {r : Int32} {σr : St} {σ : St} (hf : f_X12_wrong N ρ this a1 σ = some (r, σr)) : Ag (fun p => p = this) σ σr := by
  unfold f_X12_wrong at hf
  rcases ite_some hf with ⟨_, hf⟩ | ⟨_, hf⟩
  · skip
    rcases ite_some hf with ⟨_, hf⟩ | ⟨_, hf⟩
    · skip
      exact m_X12_wrong_22 _ _ hf
    · skip
      exact m_X12_wrong_22 _ _ hf
  · skip
    cases hf
    exact ag_refl
theorem m_X12_isWord_22 {N : Nat} {ρ : Nat → Nat → Nat} {this : Nat} {a1 : Int64} {r : Int32} {σr : St} (s0 : Int32) (σ : St) (hf : f_X12_isWord_22 N ρ this a1 s0 σ = some (r, σr)) : Ag (fun p => False) σ σr := by
  unfold f_X12_isWord_22 at hf
  obtain ⟨_, hf⟩ := gd_some hf
  cases hf
  exact ag_refl
theorem m_X12_isWord_21 {N : Nat} {ρ : Nat → Nat → Nat} {this : Nat} {a1 : Int64} {r : Int32} {σr : St} (σ : St) (hf : f_X12_isWord_21 N ρ this a1 σ = some (r, σr)) : Ag (fun p => False) σ σr := by
  unfold f_X12_isWord_21 at hf
  exact m_X12_isWord_22 _ _ hf
theorem m_X12_isWord {N : Nat} {ρ : Nat → Nat → Nat} {this : Nat} {a1 : Int64} {r : Int32} {σr : St} {σ : St} (hf : f_X12_isWord N ρ this a1 σ = some (r, σr)) : Ag (fun p => False) σ σr := by
  unfold f_X12_isWord at hf
  rcases ite_some hf with ⟨_, hf⟩ | ⟨_, hf⟩
  · skip
    rcases ite_some hf with ⟨_, hf⟩ | ⟨_, hf⟩
    · skip
      exact m_X12_isWord_22 _ _ hf
    · skip
      exact m_X12_isWord_21 _ hf
  · skip
    exact m_X12_isWord_21 _ hf
theorem m_X12_isOwn_214 {N : Nat} {ρ : Nat → Nat → Nat} {this : Nat} {r : Int32} {σr : St} (s0 : Int32) (σ : St) (hf : f_X12_isOwn_214 N ρ this s0 σ = some (r, σr)) : Ag (fun p => False) σ σr := by
  unfold f_X12_isOwn_214 at hf
  obtain ⟨_, hf⟩ := gd_some hf
  cases hf
  exact ag_refl
theorem m_X12_isOwn_209 {N : Nat} {ρ : Nat → Nat → Nat} {this : Nat} {r : Int32} {σr : St} (σ : St) (hf : f_X12_isOwn_209 N ρ this σ = some (r, σr)) : Ag (fun p => False) σ σr := by
  unfold f_X12_isOwn_209 at hf
  exact m_X12_isOwn_214 _ _ hf
theorem m_X12_isOwn {N : Nat} {ρ : Nat → Nat → Nat} {this : Nat} {r : Int32} {σr : St} {σ : St} (hf : f_X12_isOwn N ρ this σ = some (r, σr)) : Ag (fun p => False) σ σr := by
  unfold f_X12_isOwn at hf
  rcases ite_some hf with ⟨_, hf⟩ | ⟨_, hf⟩
  · skip
    exact m_X12_isOwn_209 _ hf
  · skip
    rcases ite_some hf with ⟨_, hf⟩ | ⟨_, hf⟩
    · skip
      exact m_X12_isOwn_209 _ hf
    · skip
      rcases ite_some hf with ⟨_, hf⟩ | ⟨_, hf⟩
      · skip
        exact m_X12_isOwn_209 _ hf
      · skip
        rcases ite_some hf with ⟨_, hf⟩ | ⟨_, hf⟩
        · skip
          exact m_X12_isOwn_209 _ hf
        · skip
          rcases ite_some hf with ⟨_, hf⟩ | ⟨_, hf⟩
          · skip
            exact m_X12_isOwn_209 _ hf
          · skip
            rcases ite_some hf with ⟨_, hf⟩ | ⟨_, hf⟩
            · skip
              exact m_X12_isOwn_209 _ hf
            · skip
              rcases ite_some hf with ⟨_, hf⟩ | ⟨_, hf⟩
              · skip
                exact m_X12_isOwn_209 _ hf
              · skip
                rcases ite_some hf with ⟨_, hf⟩ | ⟨_, hf⟩
                · skip
                  exact m_X12_isOwn_209 _ hf
                · skip
                  rcases ite_some hf with ⟨_, hf⟩ | ⟨_, hf⟩
                  · skip
                    exact m_X12_isOwn_209 _ hf
                  · skip
                    rcases ite_some hf with ⟨_, hf⟩ | ⟨_, hf⟩
                    · skip
                      exact m_X12_isOwn_209 _ hf
                    · skip
                      rcases ite_some hf with ⟨_, hf⟩ | ⟨_, hf⟩
                      · skip
                        exact m_X12_isOwn_209 _ hf
                      · skip
                        rcases ite_some hf with ⟨_, hf⟩ | ⟨_, hf⟩
                        · skip
                          exact m_X12_isOwn_209 _ hf
                        · skip
                          rcases ite_some hf with ⟨_, hf⟩ | ⟨_, hf⟩
                          · skip
                            exact m_X12_isOwn_209 _ hf
                          · skip
                            rcases ite_some hf with ⟨_, hf⟩ | ⟨_, hf⟩
                            · skip
                              exact m_X12_isOwn_209 _ hf
                            · skip
                              rcases ite_some hf with ⟨_, hf⟩ | ⟨_, hf⟩
                              · skip
                                exact m_X12_isOwn_209 _ hf
                              · skip
                                rcases ite_some hf with ⟨_, hf⟩ | ⟨_, hf⟩
                                · skip
                                  exact m_X12_isOwn_209 _ hf
                                · skip
                                  rcases ite_some hf with ⟨_, hf⟩ | ⟨_, hf⟩
                                  · skip
                                    exact m_X12_isOwn_209 _ hf
                                  · skip
                                    rcases ite_some hf with ⟨_, hf⟩ | ⟨_, hf⟩
                                    · skip
                                      exact m_X12_isOwn_209 _ hf
                                    · skip
                                      rcases ite_some hf with ⟨_, hf⟩ | ⟨_, hf⟩
                                      · skip
                                        exact m_X12_isOwn_209 _ hf
                                      · skip
                                        exact m_X12_isOwn_214 _ _ hf
theorem m_X12_isName_20 {N : Nat} {ρ : Nat → Nat → Nat} {this : Nat} {r : Int32} {σr : St} (s0 : Int32) (σ : St) (hf : f_X12_isName_20 N ρ this s0 σ = some (r, σr)) : Ag (fun p => False) σ σr := by
  unfold f_X12_isName_20 at hf
  obtain ⟨_, hf⟩ := gd_some hf
  cases hf
  exact ag_refl
theorem m_X12_isName_19 {N : Nat} {ρ : Nat → Nat → Nat} {this : Nat} {r : Int32} {σr : St} (σ : St) (hf : f_X12_isName_19 N ρ this σ = some (r, σr)) : Ag (fun p => False) σ σr := by
  unfold f_X12_isName_19 at hf
  exact m_X12_isName_20 _ _ hf
theorem m_X12_isName {N : Nat} {ρ : Nat → Nat → Nat} {this : Nat} {r : Int32} {σr : St} {σ : St} (hf : f_X12_isName N ρ this σ = some (r, σr)) : Ag (fun p => False) σ σr := by
  unfold f_X12_isName at hf
  rcases ite_some hf with ⟨_, hf⟩ | ⟨_, hf⟩
  · skip
    obtain ⟨_, σ4, q1, hf⟩ := bnd_some hf
    refine ag_call (m_X12_isOwn q1) (fun _ h => h.elim) ?_
    rcases ite_some hf with ⟨_, hf⟩ | ⟨_, hf⟩
    · skip
      exact m_X12_isName_20 _ _ hf
    · skip
      exact m_X12_isName_19 _ hf
  · skip
    exact m_X12_isName_19 _ hf
theorem m_X12_want_28 {N : Nat} {ρ : Nat → Nat → Nat} {this : Nat} {a1 : Int64} {r : Int32} {σr : St} (σ : St) (hf : f_X12_want_28 N ρ this a1 σ = some (r, σr)) : Ag (fun p => p = this) σ σr := by
  unfold f_X12_want_28 at hf
  cases hf
  exact ag_refl
theorem m_X12_want {N : Nat} {ρ : Nat → Nat → Nat} {this : Nat} {a1 : Int64} {r : Int32} {σr : St} {σ : St} (hf : f_X12_want N ρ this a1 σ = some (r, σr)) : Ag (fun p => p = this) σ σr := by
  unfold f_X12_want at hf
  rcases ite_some hf with ⟨_, hf⟩ | ⟨_, hf⟩
  · skip
    obtain ⟨_, σ3, q1, hf⟩ := bnd_some hf
    refine ag_call (m_X12_isWord q1) (fun _ h => h.elim) ?_
    rcases ite_some hf with ⟨_, hf⟩ | ⟨_, hf⟩
    · skip
      obtain ⟨_, σ10, q2, hf⟩ := bnd_some hf
      refine ag_call (m_X12_wrong q2) (fun _ h => h) ?_
      exact m_X12_want_28 _ hf
    · skip
      obtain ⟨_, σ7, q3, hf⟩ := bnd_some hf
      refine ag_call (m_X12_token q3) (fun _ h => h) ?_
      exact m_X12_want_28 _ hf
  · skip
    cases hf
    exact ag_refl
theorem m_X12_toldNumber_62 {N : Nat} {ρ : Nat → Nat → Nat} {this : Nat} {a1 : Int32} {a2 : Int32} {r : Int32} {σr : St} (x3 : Int32) (σ : St) (hf : f_X12_toldNumber_62 N ρ this a1 a2 x3 σ = some (r, σr)) : Ag (fun p => p = this) σ σr := by
  unfold f_X12_toldNumber_62 at hf
  cases hf
  exact ag_refl
theorem m_X12_toldNumber_46 {N : Nat} {ρ : Nat → Nat → Nat} {this : Nat} {a1 : Int32} {a2 : Int32} {r : Int32} {σr : St} (σ : St) (hf : f_X12_toldNumber_46 N ρ this a1 a2 σ = some (r, σr)) : Ag (fun p => p = this) σ σr := by
  unfold f_X12_toldNumber_46 at hf
  obtain ⟨y1, ey1, hf⟩ := nmd_some hf
  rcases ite_some hf with ⟨_, hf⟩ | ⟨_, hf⟩
  · skip
    obtain ⟨_, σ4, q1, hf⟩ := bnd_some hf
    refine ag_call (m_X12_token q1) (fun _ h => h) ?_
    exact m_X12_toldNumber_62 _ _ hf
  · skip
    exact m_X12_toldNumber_62 _ _ hf
theorem m_X12_toldNumber_41 {N : Nat} {ρ : Nat → Nat → Nat} {this : Nat} {a1 : Int32} {a2 : Int32} {r : Int32} {σr : St} (σ : St) (hf : f_X12_toldNumber_41 N ρ this a1 a2 σ = some (r, σr)) : Ag (fun p => p = this) σ σr := by
  unfold f_X12_toldNumber_41 at hf
  obtain ⟨_, σ7, q1, hf⟩ := bnd_some hf
  refine ag_call (m_X12_wrong q1) (fun _ h => h) ?_
  exact m_X12_toldNumber_46 _ hf
theorem m_X12_toldNumber {N : Nat} {ρ : Nat → Nat → Nat} {this : Nat} {a1 : Int32} {a2 : Int32} {r : Int32} {σr : St} {σ : St} (hf : f_X12_toldNumber N ρ this a1 a2 σ = some (r, σr)) : Ag (fun p => p = this) σ σr := by
  unfold f_X12_toldNumber at hf
  rcases ite_some hf with ⟨_, hf⟩ | ⟨_, hf⟩
  · skip
    rcases ite_some hf with ⟨_, hf⟩ | ⟨_, hf⟩
    · skip
      rcases ite_some hf with ⟨_, hf⟩ | ⟨_, hf⟩
      · skip
        exact m_X12_toldNumber_41 _ hf
      · skip
        rcases ite_some hf with ⟨_, hf⟩ | ⟨_, hf⟩
        · skip
          exact m_X12_toldNumber_46 _ hf
        · skip
          exact m_X12_toldNumber_41 _ hf
    · skip
      obtain ⟨_, σ14, q1, hf⟩ := bnd_some hf
      refine ag_call (m_X12_wrong q1) (fun _ h => h) ?_
      exact m_X12_toldNumber_46 _ hf
  · skip
    cases hf
    exact ag_refl
theorem m_X12_told {N : Nat} {ρ : Nat → Nat → Nat} {this : Nat} {a1 : Int64} {a2 : Int32} {a3 : Int32} {r : Int32} {σr : St} {σ : St} (hf : f_X12_told N ρ this a1 a2 a3 σ = some (r, σr)) : Ag (fun p => p = this) σ σr := by
  unfold f_X12_told at hf
  obtain ⟨_, σ2, q1, hf⟩ := bnd_some hf
  refine ag_call (m_X12_want q1) (fun _ h => h) ?_
  obtain ⟨_, σ5, q2, hf⟩ := bnd_some hf
  refine ag_call (m_X12_toldNumber q2) (fun _ h => h) ?_
  cases hf
  exact ag_refl
theorem m_X12_option_27 {N : Nat} {ρ : Nat → Nat → Nat} {this : Nat} {a1 : Int64} {a2 : Int32} {a3 : Int32} {r : Int32} {σr : St} (s0 : Int32) (σ : St) (hf : f_X12_option_27 N ρ this a1 a2 a3 s0 σ = some (r, σr)) : Ag (fun p => p = this) σ σr := by
  unfold f_X12_option_27 at hf
  cases hf
  exact ag_refl
theorem m_X12_option_26 {N : Nat} {ρ : Nat → Nat → Nat} {this : Nat} {a1 : Int64} {a2 : Int32} {a3 : Int32} {r : Int32} {σr : St} (σ : St) (hf : f_X12_option_26 N ρ this a1 a2 a3 σ = some (r, σr)) : Ag (fun p => p = this) σ σr := by
  unfold f_X12_option_26 at hf
  exact m_X12_option_27 _ _ hf
theorem m_X12_option {N : Nat} {ρ : Nat → Nat → Nat} {this : Nat} {a1 : Int64} {a2 : Int32} {a3 : Int32} {r : Int32} {σr : St} {σ : St} (hf : f_X12_option N ρ this a1 a2 a3 σ = some (r, σr)) : Ag (fun p => p = this) σ σr := by
  unfold f_X12_option at hf
  rcases ite_some hf with ⟨_, hf⟩ | ⟨_, hf⟩
  · skip
    obtain ⟨_, σ3, q1, hf⟩ := bnd_some hf
    refine ag_call (m_X12_isWord q1) (fun _ h => h.elim) ?_
    rcases ite_some hf with ⟨_, hf⟩ | ⟨_, hf⟩
    · skip
      exact m_X12_option_26 _ hf
    · skip
      obtain ⟨_, σ7, q2, hf⟩ := bnd_some hf
      refine ag_call (m_X12_told q2) (fun _ h => h) ?_
      exact m_X12_option_27 _ _ hf
  · skip
    exact m_X12_option_26 _ hf
theorem m_X12_newName_51 {N : Nat} {ρ : Nat → Nat → Nat} {this : Nat} {a1 : Int32} {a2 : Int32} {r : Int32} {σr : St} (rec18 : Int32 → St → Option (Int32 × St)) (hrec18 : ∀ (x3 : Int32) (σ : St), rec18 x3 σ = some (r, σr) → Ag (fun p => p = ρ this 10 ∨ p = this) σ σr) (x3 : Int32) (σ : St) (hf : f_X12_newName_51 N ρ this a1 a2 rec18 x3 σ = some (r, σr)) : Ag (fun p => p = ρ this 10 ∨ p = this) σ σr := by
  unfold f_X12_newName_51 at hf
  exact hrec18 _ _ hf
theorem m_X12_newName_57 {N : Nat} {ρ : Nat → Nat → Nat} {this : Nat} {a1 : Int32} {a2 : Int32} {r : Int32} {σr : St} (σ : St) (hf : f_X12_newName_57 N ρ this a1 a2 σ = some (r, σr)) : Ag (fun p => p = ρ this 10 ∨ p = this) σ σr := by
  unfold f_X12_newName_57 at hf
  rcases ite_some hf with ⟨_, hf⟩ | ⟨_, hf⟩
  · skip
    obtain ⟨_, hf⟩ := gd_some hf
    obtain ⟨σ3, eσ3, hf⟩ := nmd_some hf
    refine ag_J eσ3 (Or.inl rfl) ?_
    obtain ⟨_, σ5, q1, hf⟩ := bnd_some hf
    refine ag_call (m_X12_token q1) (fun _ h => (Or.inr h)) ?_
    cases hf
    exact ag_refl
  · skip
    cases hf
    exact ag_refl
theorem k_X12_newName_18 {N : Nat} {ρ : Nat → Nat → Nat} {this : Nat} {a1 : Int32} {a2 : Int32} {r : Int32} {σr : St} (rec18 : Int32 → St → Option (Int32 × St)) (hrec18 : ∀ (x3 : Int32) (σ : St), rec18 x3 σ = some (r, σr) → Ag (fun p => p = ρ this 10 ∨ p = this) σ σr) (x3 : Int32) (σ : St) (hf : b_X12_newName_18 N ρ this a1 a2 rec18 x3 σ = some (r, σr)) : Ag (fun p => p = ρ this 10 ∨ p = this) σ σr := by
  unfold b_X12_newName_18 at hf
  rcases ite_some hf with ⟨_, hf⟩ | ⟨_, hf⟩
  · skip
    exact m_X12_newName_57 _ hf
  · skip
    rcases ite_some hf with ⟨_, hf⟩ | ⟨_, hf⟩
    · skip
      obtain ⟨_, hf⟩ := gd_some hf
      rcases ite_some hf with ⟨_, hf⟩ | ⟨_, hf⟩
      · skip
        obtain ⟨_, σ12, q1, hf⟩ := bnd_some hf
        refine ag_call (m_X12_wrong q1) (fun _ h => (Or.inr h)) ?_
        exact m_X12_newName_51 rec18 hrec18 _ _ hf
      · skip
        exact m_X12_newName_51 rec18 hrec18 _ _ hf
    · skip
      exact m_X12_newName_57 _ hf
theorem m_X12_newName_18 {N : Nat} {ρ : Nat → Nat → Nat} {this : Nat} {a1 : Int32} {a2 : Int32} {r : Int32} {σr : St} : ∀ (n : Nat) (x3 : Int32) (σ : St), f_X12_newName_18 N ρ this a1 a2 n x3 σ = some (r, σr) → Ag (fun p => p = ρ this 10 ∨ p = this) σ σr := by
  intro n
  induction n with
  | zero => intro x3 σ hf; cases hf
  | succ n ih => intro x3 σ hf; exact k_X12_newName_18 _ ih x3 σ hf
theorem m_X12_newName_16 {N : Nat} {ρ : Nat → Nat → Nat} {this : Nat} {a1 : Int32} {a2 : Int32} {r : Int32} {σr : St} (σ : St) (hf : f_X12_newName_16 N ρ this a1 a2 σ = some (r, σr)) : Ag (fun p => p = ρ this 10 ∨ p = this) σ σr := by
  unfold f_X12_newName_16 at hf
  exact m_X12_newName_18 N _ _ hf
theorem m_X12_newName {N : Nat} {ρ : Nat → Nat → Nat} {this : Nat} {a1 : Int32} {a2 : Int32} {r : Int32} {σr : St} {σ : St} (hf : f_X12_newName N ρ this a1 a2 σ = some (r, σr)) : Ag (fun p => p = ρ this 10 ∨ p = this) σ σr := by
  unfold f_X12_newName at hf
  obtain ⟨_, σ15, q1, hf⟩ := bnd_some hf
  refine ag_call (m_X12_token q1) (fun _ h => (Or.inr h)) ?_
  obtain ⟨_, σ18, q2, hf⟩ := bnd_some hf
  refine ag_call (m_X12_isName q2) (fun _ h => h.elim) ?_
  rcases ite_some hf with ⟨_, hf⟩ | ⟨_, hf⟩
  · skip
    obtain ⟨_, σ22, q3, hf⟩ := bnd_some hf
    refine ag_call (m_X12_wrong q3) (fun _ h => (Or.inr h)) ?_
    exact m_X12_newName_16 _ hf
  · skip
    exact m_X12_newName_16 _ hf
theorem m_X12_add {N : Nat} {ρ : Nat → Nat → Nat} {this : Nat} {a1 : Int32} {a2 : Int32} {r : Int32} {σr : St} {σ : St} (hf : f_X12_add N ρ this a1 a2 σ = some (r, σr)) : Ag (fun p => p = ρ this 11 ∨ p = ρ this 12 ∨ p = ρ this 13) σ σr := by
  unfold f_X12_add at hf
  obtain ⟨_, hf⟩ := gd_some hf
  obtain ⟨_, hf⟩ := gd_some hf
  obtain ⟨σ3, eσ3, hf⟩ := nmd_some hf
  refine ag_I eσ3 (Or.inl rfl) ?_
  obtain ⟨_, hf⟩ := gd_some hf
  obtain ⟨_, hf⟩ := gd_some hf
  obtain ⟨σ6, eσ6, hf⟩ := nmd_some hf
  refine ag_I eσ6 (Or.inr (Or.inl rfl)) ?_
  obtain ⟨_, hf⟩ := gd_some hf
  obtain ⟨_, hf⟩ := gd_some hf
  obtain ⟨σ9, eσ9, hf⟩ := nmd_some hf
  refine ag_I eσ9 (Or.inr (Or.inr rfl)) ?_
  cases hf
  exact ag_refl
theorem m_X12_tight_84 {N : Nat} {ρ : Nat → Nat → Nat} {a1 : Int32} {r : Int32} {σr : St} (σ : St) (hf : f_X12_tight_84 N ρ a1 σ = some (r, σr)) : Ag (fun p => False) σ σr := by
  unfold f_X12_tight_84 at hf
  cases hf
  exact ag_refl
theorem m_X12_tight_82 {N : Nat} {ρ : Nat → Nat → Nat} {a1 : Int32} {r : Int32} {σr : St} (σ : St) (hf : f_X12_tight_82 N ρ a1 σ = some (r, σr)) : Ag (fun p => False) σ σr := by
  unfold f_X12_tight_82 at hf
  cases hf
  exact ag_refl
theorem m_X12_tight {N : Nat} {ρ : Nat → Nat → Nat} {a1 : Int32} {r : Int32} {σr : St} {σ : St} (hf : f_X12_tight N ρ a1 σ = some (r, σr)) : Ag (fun p => False) σ σr := by
  unfold f_X12_tight at hf
  rcases ite_some hf with ⟨_, hf⟩ | ⟨_, hf⟩
  · skip
    cases hf
    exact ag_refl
  · skip
    rcases ite_some hf with ⟨_, hf⟩ | ⟨_, hf⟩
    · skip
      cases hf
      exact ag_refl
    · skip
      rcases ite_some hf with ⟨_, hf⟩ | ⟨_, hf⟩
      · skip
        exact m_X12_tight_84 _ hf
      · skip
        rcases ite_some hf with ⟨_, hf⟩ | ⟨_, hf⟩
        · skip
          exact m_X12_tight_84 _ hf
        · skip
          rcases ite_some hf with ⟨_, hf⟩ | ⟨_, hf⟩
          · skip
            exact m_X12_tight_82 _ hf
          · skip
            rcases ite_some hf with ⟨_, hf⟩ | ⟨_, hf⟩
            · skip
              exact m_X12_tight_82 _ hf
            · skip
              rcases ite_some hf with ⟨_, hf⟩ | ⟨_, hf⟩
              · skip
                exact m_X12_tight_82 _ hf
              · skip
                rcases ite_some hf with ⟨_, hf⟩ | ⟨_, hf⟩
                · skip
                  cases hf
                  exact ag_refl
                · skip
                  cases hf
                  exact ag_refl
theorem m_X12_close_101 {N : Nat} {ρ : Nat → Nat → Nat} {this : Nat} {a1 : Int32} {r : Int32} {σr : St} (σ : St) (hf : f_X12_close_101 N ρ this a1 σ = some (r, σr)) : Ag (fun p => p = this ∨ p = ρ this 11 ∨ p = ρ this 12 ∨ p = ρ this 13) σ σr := by
  unfold f_X12_close_101 at hf
  cases hf
  exact ag_refl
theorem k_X12_close_0 {N : Nat} {ρ : Nat → Nat → Nat} {this : Nat} {a1 : Int32} {r : Int32} {σr : St} (rec0 : St → Option (Int32 × St)) (hrec0 : ∀ (σ : St), rec0 σ = some (r, σr) → Ag (fun p => p = this ∨ p = ρ this 11 ∨ p = ρ this 12 ∨ p = ρ this 13) σ σr) (σ : St) (hf : b_X12_close_0 N ρ this a1 rec0 σ = some (r, σr)) : Ag (fun p => p = this ∨ p = ρ this 11 ∨ p = ρ this 12 ∨ p = ρ this 13) σ σr := by
  unfold b_X12_close_0 at hf
  rcases ite_some hf with ⟨_, hf⟩ | ⟨_, hf⟩
  · skip
    exact m_X12_close_101 _ hf
  · skip
    obtain ⟨_, hf⟩ := gd_some hf
    rcases ite_some hf with ⟨_, hf⟩ | ⟨_, hf⟩
    · skip
      exact m_X12_close_101 _ hf
    · skip
      obtain ⟨_, hf⟩ := gd_some hf
      obtain ⟨_, σ6, q1, hf⟩ := bnd_some hf
      refine ag_call (m_X12_tight q1) (fun _ h => h.elim) ?_
      rcases ite_some hf with ⟨_, hf⟩ | ⟨_, hf⟩
      · skip
        exact m_X12_close_101 _ hf
      · skip
        obtain ⟨σ9, eσ9, hf⟩ := nmd_some hf
        refine ag_I eσ9 (Or.inl rfl) ?_
        obtain ⟨_, hf⟩ := gd_some hf
        rcases ite_some hf with ⟨_, hf⟩ | ⟨_, hf⟩
        · skip
          obtain ⟨_, σ17, q2, hf⟩ := bnd_some hf
          refine ag_call (m_X12_add q2) (fun _ h => by
                rcases h with h | h | h
                · exact (Or.inr (Or.inl h))
                · exact (Or.inr (Or.inr (Or.inl h)))
                · exact (Or.inr (Or.inr (Or.inr h)))) ?_
          obtain ⟨σ19, eσ19, hf⟩ := nmd_some hf
          refine ag_I eσ19 (Or.inl rfl) ?_
          exact hrec0 _ hf
        · skip
          obtain ⟨_, hf⟩ := gd_some hf
          obtain ⟨_, σ14, q3, hf⟩ := bnd_some hf
          refine ag_call (m_X12_add q3) (fun _ h => by
                rcases h with h | h | h
                · exact (Or.inr (Or.inl h))
                · exact (Or.inr (Or.inr (Or.inl h)))
                · exact (Or.inr (Or.inr (Or.inr h)))) ?_
          exact hrec0 _ hf
theorem m_X12_close_0 {N : Nat} {ρ : Nat → Nat → Nat} {this : Nat} {a1 : Int32} {r : Int32} {σr : St} : ∀ (n : Nat) (σ : St), f_X12_close_0 N ρ this a1 n σ = some (r, σr) → Ag (fun p => p = this ∨ p = ρ this 11 ∨ p = ρ this 12 ∨ p = ρ this 13) σ σr := by
  intro n
  induction n with
  | zero => intro σ hf; cases hf
  | succ n ih => intro σ hf; exact k_X12_close_0 _ ih σ hf
theorem m_X12_close {N : Nat} {ρ : Nat → Nat → Nat} {this : Nat} {a1 : Int32} {r : Int32} {σr : St} {σ : St} (hf : f_X12_close N ρ this a1 σ = some (r, σr)) : Ag (fun p => p = this ∨ p = ρ this 11 ∨ p = ρ this 12 ∨ p = ρ this 13) σ σr := by
  unfold f_X12_close at hf
  exact m_X12_close_0 N _ hf
theorem m_X12_hasRelation_74 {N : Nat} {ρ : Nat → Nat → Nat} {this : Nat} {r : Int32} {σr : St} (s0 : Int32) (σ : St) (hf : f_X12_hasRelation_74 N ρ this s0 σ = some (r, σr)) : Ag (fun p => False) σ σr := by
  unfold f_X12_hasRelation_74 at hf
  obtain ⟨_, hf⟩ := gd_some hf
  cases hf
  exact ag_refl
theorem m_X12_hasRelation_73 {N : Nat} {ρ : Nat → Nat → Nat} {this : Nat} {r : Int32} {σr : St} (σ : St) (hf : f_X12_hasRelation_73 N ρ this σ = some (r, σr)) : Ag (fun p => False) σ σr := by
  unfold f_X12_hasRelation_73 at hf
  exact m_X12_hasRelation_74 _ _ hf
theorem m_X12_hasRelation_41 {N : Nat} {ρ : Nat → Nat → Nat} {this : Nat} {r : Int32} {σr : St} (x1 : Int32) (σ : St) (hf : f_X12_hasRelation_41 N ρ this x1 σ = some (r, σr)) : Ag (fun p => False) σ σr := by
  unfold f_X12_hasRelation_41 at hf
  rcases ite_some hf with ⟨_, hf⟩ | ⟨_, hf⟩
  · skip
    exact m_X12_hasRelation_73 _ hf
  · skip
    obtain ⟨_, hf⟩ := gd_some hf
    rcases ite_some hf with ⟨_, hf⟩ | ⟨_, hf⟩
    · skip
      exact m_X12_hasRelation_73 _ hf
    · skip
      obtain ⟨_, hf⟩ := gd_some hf
      obtain ⟨_, σ7, q1, hf⟩ := bnd_some hf
      refine ag_call (m_X12_tight q1) (fun _ h => h.elim) ?_
      rcases ite_some hf with ⟨_, hf⟩ | ⟨_, hf⟩
      · skip
        exact m_X12_hasRelation_74 _ _ hf
      · skip
        exact m_X12_hasRelation_73 _ hf
theorem k_X12_hasRelation_7 {N : Nat} {ρ : Nat → Nat → Nat} {this : Nat} {r : Int32} {σr : St} (rec7 : Int32 → St → Option (Int32 × St)) (hrec7 : ∀ (x1 : Int32) (σ : St), rec7 x1 σ = some (r, σr) → Ag (fun p => False) σ σr) (x1 : Int32) (σ : St) (hf : b_X12_hasRelation_7 N ρ this rec7 x1 σ = some (r, σr)) : Ag (fun p => False) σ σr := by
  unfold b_X12_hasRelation_7 at hf
  rcases ite_some hf with ⟨_, hf⟩ | ⟨_, hf⟩
  · skip
    exact m_X12_hasRelation_41 _ _ hf
  · skip
    obtain ⟨_, hf⟩ := gd_some hf
    rcases ite_some hf with ⟨_, hf⟩ | ⟨_, hf⟩
    · skip
      exact m_X12_hasRelation_41 _ _ hf
    · skip
      obtain ⟨_, hf⟩ := gd_some hf
      obtain ⟨_, σ15, q1, hf⟩ := bnd_some hf
      refine ag_call (m_X12_tight q1) (fun _ h => h.elim) ?_
      rcases ite_some hf with ⟨_, hf⟩ | ⟨_, hf⟩
      · skip
        exact m_X12_hasRelation_41 _ _ hf
      · skip
        exact hrec7 _ _ hf
theorem m_X12_hasRelation_7 {N : Nat} {ρ : Nat → Nat → Nat} {this : Nat} {r : Int32} {σr : St} : ∀ (n : Nat) (x1 : Int32) (σ : St), f_X12_hasRelation_7 N ρ this n x1 σ = some (r, σr) → Ag (fun p => False) σ σr := by
  intro n
  induction n with
  | zero => intro x1 σ hf; cases hf
  | succ n ih => intro x1 σ hf; exact k_X12_hasRelation_7 _ ih x1 σ hf
theorem m_X12_hasRelation {N : Nat} {ρ : Nat → Nat → Nat} {this : Nat} {r : Int32} {σr : St} {σ : St} (hf : f_X12_hasRelation N ρ this σ = some (r, σr)) : Ag (fun p => False) σ σr := by
  unfold f_X12_hasRelation at hf
  obtain ⟨y18, ey18, hf⟩ := nmd_some hf
  exact m_X12_hasRelation_7 N _ _ hf
theorem m_X12_mayNot_46 {N : Nat} {ρ : Nat → Nat → Nat} {this : Nat} {r : Int32} {σr : St} (s0 : Int32) (σ : St) (hf : f_X12_mayNot_46 N ρ this s0 σ = some (r, σr)) : Ag (fun p => False) σ σr := by
  unfold f_X12_mayNot_46 at hf
  obtain ⟨_, hf⟩ := gd_some hf
  cases hf
  exact ag_refl
theorem m_X12_mayNot_41 {N : Nat} {ρ : Nat → Nat → Nat} {this : Nat} {r : Int32} {σr : St} (σ : St) (hf : f_X12_mayNot_41 N ρ this σ = some (r, σr)) : Ag (fun p => False) σ σr := by
  unfold f_X12_mayNot_41 at hf
  exact m_X12_mayNot_46 _ _ hf
theorem m_X12_mayNot {N : Nat} {ρ : Nat → Nat → Nat} {this : Nat} {r : Int32} {σr : St} {σ : St} (hf : f_X12_mayNot N ρ this σ = some (r, σr)) : Ag (fun p => False) σ σr := by
  unfold f_X12_mayNot at hf
  rcases ite_some hf with ⟨_, hf⟩ | ⟨_, hf⟩
  · skip
    exact m_X12_mayNot_41 _ hf
  · skip
    obtain ⟨_, hf⟩ := gd_some hf
    rcases ite_some hf with ⟨_, hf⟩ | ⟨_, hf⟩
    · skip
      exact m_X12_mayNot_41 _ hf
    · skip
      obtain ⟨_, hf⟩ := gd_some hf
      obtain ⟨_, σ7, q1, hf⟩ := bnd_some hf
      refine ag_call (m_X12_tight q1) (fun _ h => h.elim) ?_
      rcases ite_some hf with ⟨_, hf⟩ | ⟨_, hf⟩
      · skip
        exact m_X12_mayNot_46 _ _ hf
      · skip
        exact m_X12_mayNot_41 _ hf
theorem m_X12_asked_91 {N : Nat} {ρ : Nat → Nat → Nat} {this : Nat} {r : Int32} {σr : St} (s0 : Int32) (σ : St) (hf : f_X12_asked_91 N ρ this s0 σ = some (r, σr)) : Ag (fun p => False) σ σr := by
  unfold f_X12_asked_91 at hf
  cases hf
  exact ag_refl
theorem m_X12_asked {N : Nat} {ρ : Nat → Nat → Nat} {this : Nat} {r : Int32} {σr : St} {σ : St} (hf : f_X12_asked N ρ this σ = some (r, σr)) : Ag (fun p => False) σ σr := by
  unfold f_X12_asked at hf
  rcases ite_some hf with ⟨_, hf⟩ | ⟨_, hf⟩
  · skip
    rcases ite_some hf with ⟨_, hf⟩ | ⟨_, hf⟩
    · skip
      cases hf
      exact ag_refl
    · skip
      rcases ite_some hf with ⟨_, hf⟩ | ⟨_, hf⟩
      · skip
        cases hf
        exact ag_refl
      · skip
        rcases ite_some hf with ⟨_, hf⟩ | ⟨_, hf⟩
        · skip
          cases hf
          exact ag_refl
        · skip
          rcases ite_some hf with ⟨_, hf⟩ | ⟨_, hf⟩
          · skip
            cases hf
            exact ag_refl
          · skip
            rcases ite_some hf with ⟨_, hf⟩ | ⟨_, hf⟩
            · skip
              cases hf
              exact ag_refl
            · skip
              rcases ite_some hf with ⟨_, hf⟩ | ⟨_, hf⟩
              · skip
                exact m_X12_asked_91 _ _ hf
              · skip
                exact m_X12_asked_91 _ _ hf
  · skip
    cases hf
    exact ag_refl
theorem m_X12_isFull_23 {N : Nat} {ρ : Nat → Nat → Nat} {this : Nat} {r : Int32} {σr : St} (s0 : Int32) (σ : St) (hf : f_X12_isFull_23 N ρ this s0 σ = some (r, σr)) : Ag (fun p => False) σ σr := by
  unfold f_X12_isFull_23 at hf
  obtain ⟨_, hf⟩ := gd_some hf
  cases hf
  exact ag_refl
theorem m_X12_isFull_18 {N : Nat} {ρ : Nat → Nat → Nat} {this : Nat} {r : Int32} {σr : St} (σ : St) (hf : f_X12_isFull_18 N ρ this σ = some (r, σr)) : Ag (fun p => False) σ σr := by
  unfold f_X12_isFull_18 at hf
  exact m_X12_isFull_23 _ _ hf
theorem m_X12_isFull {N : Nat} {ρ : Nat → Nat → Nat} {this : Nat} {r : Int32} {σr : St} {σ : St} (hf : f_X12_isFull N ρ this σ = some (r, σr)) : Ag (fun p => False) σ σr := by
  unfold f_X12_isFull at hf
  rcases ite_some hf with ⟨_, hf⟩ | ⟨_, hf⟩
  · skip
    exact m_X12_isFull_18 _ hf
  · skip
    rcases ite_some hf with ⟨_, hf⟩ | ⟨_, hf⟩
    · skip
      exact m_X12_isFull_18 _ hf
    · skip
      exact m_X12_isFull_23 _ _ hf
theorem m_X12_countUnit {N : Nat} {ρ : Nat → Nat → Nat} {this : Nat} {r : Int32} {σr : St} {σ : St} (hf : f_X12_countUnit N ρ this σ = some (r, σr)) : Ag (fun p => p = this) σ σr := by
  unfold f_X12_countUnit at hf
  obtain ⟨σ1, eσ1, hf⟩ := nmd_some hf
  refine ag_I eσ1 rfl ?_
  obtain ⟨σ2, eσ2, hf⟩ := nmd_some hf
  refine ag_I eσ2 rfl ?_
  cases hf
  exact ag_refl
theorem m_X12_openUp_41 {N : Nat} {ρ : Nat → Nat → Nat} {this : Nat} {a1 : Int32} {r : Int32} {σr : St} (σ : St) (hf : f_X12_openUp_41 N ρ this a1 σ = some (r, σr)) : Ag (fun p => p = ρ this 17 ∨ p = this) σ σr := by
  unfold f_X12_openUp_41 at hf
  cases hf
  exact ag_refl
theorem m_X12_openUp {N : Nat} {ρ : Nat → Nat → Nat} {this : Nat} {a1 : Int32} {r : Int32} {σr : St} {σ : St} (hf : f_X12_openUp N ρ this a1 σ = some (r, σr)) : Ag (fun p => p = ρ this 17 ∨ p = this) σ σr := by
  unfold f_X12_openUp at hf
  obtain ⟨_, hf⟩ := gd_some hf
  obtain ⟨σ2, eσ2, hf⟩ := nmd_some hf
  refine ag_I eσ2 (Or.inl rfl) ?_
  obtain ⟨σ3, eσ3, hf⟩ := nmd_some hf
  refine ag_I eσ3 (Or.inr rfl) ?_
  obtain ⟨σ4, eσ4, hf⟩ := nmd_some hf
  refine ag_I eσ4 (Or.inr rfl) ?_
  rcases ite_some hf with ⟨_, hf⟩ | ⟨_, hf⟩
  · skip
    obtain ⟨_, σ7, q1, hf⟩ := bnd_some hf
    refine ag_call (m_X12_token q1) (fun _ h => (Or.inr h)) ?_
    exact m_X12_openUp_41 _ hf
  · skip
    exact m_X12_openUp_41 _ hf
theorem m_X12_unit_44 {N : Nat} {ρ : Nat → Nat → Nat} {this : Nat} {r : Int32} {σr : St} (rec2 : Int32 → St → Option (Int32 × St)) (hrec2 : ∀ (x1 : Int32) (σ : St), rec2 x1 σ = some (r, σr) → Ag (fun p => p = ρ this 17 ∨ p = this ∨ p = ρ this 11 ∨ p = ρ this 12 ∨ p = ρ this 13) σ σr) (x1 : Int32) (σ : St) (hf : f_X12_unit_44 N ρ this rec2 x1 σ = some (r, σr)) : Ag (fun p => p = ρ this 17 ∨ p = this ∨ p = ρ this 11 ∨ p = ρ this 12 ∨ p = ρ this 13) σ σr := by
  unfold f_X12_unit_44 at hf
  obtain ⟨_, σ2, q1, hf⟩ := bnd_some hf
  refine ag_call (m_X12_openUp q1) (fun _ h => by
        rcases h with h | h
        · exact (Or.inl h)
        · exact (Or.inr (Or.inl h))) ?_
  exact hrec2 _ _ hf
theorem m_X12_unit_83 {N : Nat} {ρ : Nat → Nat → Nat} {this : Nat} {r : Int32} {σr : St} (rec2 : Int32 → St → Option (Int32 × St)) (hrec2 : ∀ (x1 : Int32) (σ : St), rec2 x1 σ = some (r, σr) → Ag (fun p => p = ρ this 17 ∨ p = this ∨ p = ρ this 11 ∨ p = ρ this 12 ∨ p = ρ this 13) σ σr) (x1 : Int32) (σ : St) (hf : f_X12_unit_83 N ρ this rec2 x1 σ = some (r, σr)) : Ag (fun p => p = ρ this 17 ∨ p = this ∨ p = ρ this 11 ∨ p = ρ this 12 ∨ p = ρ this 13) σ σr := by
  unfold f_X12_unit_83 at hf
  obtain ⟨_, σ5, q1, hf⟩ := bnd_some hf
  refine ag_call (m_X12_countUnit q1) (fun _ h => (Or.inr (Or.inl h))) ?_
  obtain ⟨_, σ8, q2, hf⟩ := bnd_some hf
  refine ag_call (m_X12_openUp q2) (fun _ h => by
        rcases h with h | h
        · exact (Or.inl h)
        · exact (Or.inr (Or.inl h))) ?_
  exact hrec2 _ _ hf
theorem m_X12_unit_78 {N : Nat} {ρ : Nat → Nat → Nat} {this : Nat} {r : Int32} {σr : St} (rec2 : Int32 → St → Option (Int32 × St)) (hrec2 : ∀ (x1 : Int32) (σ : St), rec2 x1 σ = some (r, σr) → Ag (fun p => p = ρ this 17 ∨ p = this ∨ p = ρ this 11 ∨ p = ρ this 12 ∨ p = ρ this 13) σ σr) (x1 : Int32) (σ : St) (hf : f_X12_unit_78 N ρ this rec2 x1 σ = some (r, σr)) : Ag (fun p => p = ρ this 17 ∨ p = this ∨ p = ρ this 11 ∨ p = ρ this 12 ∨ p = ρ this 13) σ σr := by
  unfold f_X12_unit_78 at hf
  obtain ⟨_, σ11, q1, hf⟩ := bnd_some hf
  refine ag_call (m_X12_wrong q1) (fun _ h => (Or.inr (Or.inl h))) ?_
  exact m_X12_unit_83 rec2 hrec2 _ _ hf
theorem m_X12_unit_53 {N : Nat} {ρ : Nat → Nat → Nat} {this : Nat} {r : Int32} {σr : St} (rec2 : Int32 → St → Option (Int32 × St)) (hrec2 : ∀ (x1 : Int32) (σ : St), rec2 x1 σ = some (r, σr) → Ag (fun p => p = ρ this 17 ∨ p = this ∨ p = ρ this 11 ∨ p = ρ this 12 ∨ p = ρ this 13) σ σr) (x1 : Int32) (σ : St) (hf : f_X12_unit_53 N ρ this rec2 x1 σ = some (r, σr)) : Ag (fun p => p = ρ this 17 ∨ p = this ∨ p = ρ this 11 ∨ p = ρ this 12 ∨ p = ρ this 13) σ σr := by
  unfold f_X12_unit_53 at hf
  rcases ite_some hf with ⟨_, hf⟩ | ⟨_, hf⟩
  · skip
    obtain ⟨_, σ15, q1, hf⟩ := bnd_some hf
    refine ag_call (m_X12_isFull q1) (fun _ h => h.elim) ?_
    rcases ite_some hf with ⟨_, hf⟩ | ⟨_, hf⟩
    · skip
      rcases ite_some hf with ⟨_, hf⟩ | ⟨_, hf⟩
      · skip
        exact m_X12_unit_83 rec2 hrec2 _ _ hf
      · skip
        exact m_X12_unit_78 rec2 hrec2 _ _ hf
    · skip
      exact m_X12_unit_78 rec2 hrec2 _ _ hf
  · skip
    exact hrec2 _ _ hf
theorem m_X12_unit_172 {N : Nat} {ρ : Nat → Nat → Nat} {this : Nat} {r : Int32} {σr : St} (s0 : Int32) (s1 : Int32) (σ : St) (hf : f_X12_unit_172 N ρ this s0 s1 σ = some (r, σr)) : Ag (fun p => p = ρ this 17 ∨ p = this ∨ p = ρ this 11 ∨ p = ρ this 12 ∨ p = ρ this 13) σ σr := by
  unfold f_X12_unit_172 at hf
  obtain ⟨_, σ20, q1, hf⟩ := bnd_some hf
  refine ag_call (m_X12_add q1) (fun _ h => by
        rcases h with h | h | h
        · exact (Or.inr (Or.inr (Or.inl h)))
        · exact (Or.inr (Or.inr (Or.inr (Or.inl h))))
        · exact (Or.inr (Or.inr (Or.inr (Or.inr h))))) ?_
  obtain ⟨_, σ23, q2, hf⟩ := bnd_some hf
  refine ag_call (m_X12_token q2) (fun _ h => (Or.inr (Or.inl h))) ?_
  cases hf
  exact ag_refl
theorem m_X12_unit_160 {N : Nat} {ρ : Nat → Nat → Nat} {this : Nat} {r : Int32} {σr : St} (x2 : Int32) (s0 : Int32) (σ : St) (hf : f_X12_unit_160 N ρ this x2 s0 σ = some (r, σr)) : Ag (fun p => p = ρ this 17 ∨ p = this ∨ p = ρ this 11 ∨ p = ρ this 12 ∨ p = ρ this 13) σ σr := by
  unfold f_X12_unit_160 at hf
  rcases ite_some hf with ⟨_, hf⟩ | ⟨_, hf⟩
  · skip
    exact m_X12_unit_172 _ _ _ hf
  · skip
    exact m_X12_unit_172 _ _ _ hf
theorem m_X12_unit_138 {N : Nat} {ρ : Nat → Nat → Nat} {this : Nat} {r : Int32} {σr : St} (x2 : Int32) (σ : St) (hf : f_X12_unit_138 N ρ this x2 σ = some (r, σr)) : Ag (fun p => p = ρ this 17 ∨ p = this ∨ p = ρ this 11 ∨ p = ρ this 12 ∨ p = ρ this 13) σ σr := by
  unfold f_X12_unit_138 at hf
  rcases ite_some hf with ⟨_, hf⟩ | ⟨_, hf⟩
  · skip
    obtain ⟨_, σ28, q1, hf⟩ := bnd_some hf
    refine ag_call (m_X12_countUnit q1) (fun _ h => (Or.inr (Or.inl h))) ?_
    rcases ite_some hf with ⟨_, hf⟩ | ⟨_, hf⟩
    · skip
      exact m_X12_unit_160 _ _ _ hf
    · skip
      exact m_X12_unit_160 _ _ _ hf
  · skip
    cases hf
    exact ag_refl
theorem m_X12_unit_133 {N : Nat} {ρ : Nat → Nat → Nat} {this : Nat} {r : Int32} {σr : St} (x2 : Int32) (σ : St) (hf : f_X12_unit_133 N ρ this x2 σ = some (r, σr)) : Ag (fun p => p = ρ this 17 ∨ p = this ∨ p = ρ this 11 ∨ p = ρ this 12 ∨ p = ρ this 13) σ σr := by
  unfold f_X12_unit_133 at hf
  obtain ⟨_, σ32, q1, hf⟩ := bnd_some hf
  refine ag_call (m_X12_wrong q1) (fun _ h => (Or.inr (Or.inl h))) ?_
  exact m_X12_unit_138 _ _ hf
theorem m_X12_unit_126 {N : Nat} {ρ : Nat → Nat → Nat} {this : Nat} {r : Int32} {σr : St} (x2 : Int32) (σ : St) (hf : f_X12_unit_126 N ρ this x2 σ = some (r, σr)) : Ag (fun p => p = ρ this 17 ∨ p = this ∨ p = ρ this 11 ∨ p = ρ this 12 ∨ p = ρ this 13) σ σr := by
  unfold f_X12_unit_126 at hf
  obtain ⟨_, σ35, q1, hf⟩ := bnd_some hf
  refine ag_call (m_X12_isFull q1) (fun _ h => h.elim) ?_
  rcases ite_some hf with ⟨_, hf⟩ | ⟨_, hf⟩
  · skip
    exact m_X12_unit_138 _ _ hf
  · skip
    exact m_X12_unit_133 _ _ hf
theorem m_X12_unit_101 {N : Nat} {ρ : Nat → Nat → Nat} {this : Nat} {r : Int32} {σr : St} (σ : St) (hf : f_X12_unit_101 N ρ this σ = some (r, σr)) : Ag (fun p => p = ρ this 17 ∨ p = this ∨ p = ρ this 11 ∨ p = ρ this 12 ∨ p = ρ this 13) σ σr := by
  unfold f_X12_unit_101 at hf
  rcases ite_some hf with ⟨_, hf⟩ | ⟨_, hf⟩
  · skip
    obtain ⟨_, σ40, q1, hf⟩ := bnd_some hf
    refine ag_call (m_X12_asked q1) (fun _ h => h.elim) ?_
    rcases ite_some hf with ⟨_, hf⟩ | ⟨_, hf⟩
    · skip
      exact m_X12_unit_126 _ _ hf
    · skip
      rcases ite_some hf with ⟨_, hf⟩ | ⟨_, hf⟩
      · skip
        exact m_X12_unit_133 _ _ hf
      · skip
        exact m_X12_unit_126 _ _ hf
  · skip
    cases hf
    exact ag_refl
theorem k_X12_unit_2 {N : Nat} {ρ : Nat → Nat → Nat} {this : Nat} {r : Int32} {σr : St} (rec2 : Int32 → St → Option (Int32 × St)) (hrec2 : ∀ (x1 : Int32) (σ : St), rec2 x1 σ = some (r, σr) → Ag (fun p => p = ρ this 17 ∨ p = this ∨ p = ρ this 11 ∨ p = ρ this 12 ∨ p = ρ this 13) σ σr) (x1 : Int32) (σ : St) (hf : b_X12_unit_2 N ρ this rec2 x1 σ = some (r, σr)) : Ag (fun p => p = ρ this 17 ∨ p = this ∨ p = ρ this 11 ∨ p = ρ this 12 ∨ p = ρ this 13) σ σr := by
  unfold b_X12_unit_2 at hf
  rcases ite_some hf with ⟨_, hf⟩ | ⟨_, hf⟩
  · skip
    exact m_X12_unit_101 _ hf
  · skip
    rcases ite_some hf with ⟨_, hf⟩ | ⟨_, hf⟩
    · skip
      obtain ⟨_, σ47, q1, hf⟩ := bnd_some hf
      refine ag_call (m_X12_isWord q1) (fun _ h => h.elim) ?_
      rcases ite_some hf with ⟨_, hf⟩ | ⟨_, hf⟩
      · skip
        exact m_X12_unit_53 rec2 hrec2 _ _ hf
      · skip
        obtain ⟨_, σ51, q2, hf⟩ := bnd_some hf
        refine ag_call (m_X12_mayNot q2) (fun _ h => h.elim) ?_
        rcases ite_some hf with ⟨_, hf⟩ | ⟨_, hf⟩
        · skip
          exact m_X12_unit_53 rec2 hrec2 _ _ hf
        · skip
          rcases ite_some hf with ⟨_, hf⟩ | ⟨_, hf⟩
          · skip
            exact m_X12_unit_44 rec2 hrec2 _ _ hf
          · skip
            obtain ⟨_, σ56, q3, hf⟩ := bnd_some hf
            refine ag_call (m_X12_wrong q3) (fun _ h => (Or.inr (Or.inl h))) ?_
            exact m_X12_unit_44 rec2 hrec2 _ _ hf
    · skip
      exact m_X12_unit_101 _ hf
theorem m_X12_unit_2 {N : Nat} {ρ : Nat → Nat → Nat} {this : Nat} {r : Int32} {σr : St} : ∀ (n : Nat) (x1 : Int32) (σ : St), f_X12_unit_2 N ρ this n x1 σ = some (r, σr) → Ag (fun p => p = ρ this 17 ∨ p = this ∨ p = ρ this 11 ∨ p = ρ this 12 ∨ p = ρ this 13) σ σr := by
  intro n
  induction n with
  | zero => intro x1 σ hf; cases hf
  | succ n ih => intro x1 σ hf; exact k_X12_unit_2 _ ih x1 σ hf
theorem m_X12_unit {N : Nat} {ρ : Nat → Nat → Nat} {this : Nat} {r : Int32} {σr : St} {σ : St} (hf : f_X12_unit N ρ this σ = some (r, σr)) : Ag (fun p => p = ρ this 17 ∨ p = this ∨ p = ρ this 11 ∨ p = ρ this 12 ∨ p = ρ this 13) σ σr := by
  unfold f_X12_unit at hf
  exact m_X12_unit_2 N _ _ hf
theorem m_X12_sign_106 {N : Nat} {ρ : Nat → Nat → Nat} {this : Nat} {r : Int32} {σr : St} (s0 : Int32) (σ : St) (hf : f_X12_sign_106 N ρ this s0 σ = some (r, σr)) : Ag (fun p => False) σ σr := by
  unfold f_X12_sign_106 at hf
  cases hf
  exact ag_refl
theorem m_X12_sign_98 {N : Nat} {ρ : Nat → Nat → Nat} {this : Nat} {r : Int32} {σr : St} (σ : St) (hf : f_X12_sign_98 N ρ this σ = some (r, σr)) : Ag (fun p => False) σ σr := by
  unfold f_X12_sign_98 at hf
  exact m_X12_sign_106 _ _ hf
theorem m_X12_sign {N : Nat} {ρ : Nat → Nat → Nat} {this : Nat} {r : Int32} {σr : St} {σ : St} (hf : f_X12_sign N ρ this σ = some (r, σr)) : Ag (fun p => False) σ σr := by
  unfold f_X12_sign at hf
  obtain ⟨_, σ2, q1, hf⟩ := bnd_some hf
  refine ag_call (m_X12_isWord q1) (fun _ h => h.elim) ?_
  rcases ite_some hf with ⟨_, hf⟩ | ⟨_, hf⟩
  · skip
    obtain ⟨_, σ6, q2, hf⟩ := bnd_some hf
    refine ag_call (m_X12_isWord q2) (fun _ h => h.elim) ?_
    rcases ite_some hf with ⟨_, hf⟩ | ⟨_, hf⟩
    · skip
      rcases ite_some hf with ⟨_, hf⟩ | ⟨_, hf⟩
      · skip
        exact m_X12_sign_98 _ hf
      · skip
        rcases ite_some hf with ⟨_, hf⟩ | ⟨_, hf⟩
        · skip
          exact m_X12_sign_98 _ hf
        · skip
          rcases ite_some hf with ⟨_, hf⟩ | ⟨_, hf⟩
          · skip
            exact m_X12_sign_98 _ hf
          · skip
            rcases ite_some hf with ⟨_, hf⟩ | ⟨_, hf⟩
            · skip
              exact m_X12_sign_98 _ hf
            · skip
              rcases ite_some hf with ⟨_, hf⟩ | ⟨_, hf⟩
              · skip
                exact m_X12_sign_98 _ hf
              · skip
                rcases ite_some hf with ⟨_, hf⟩ | ⟨_, hf⟩
                · skip
                  exact m_X12_sign_98 _ hf
                · skip
                  rcases ite_some hf with ⟨_, hf⟩ | ⟨_, hf⟩
                  · skip
                    exact m_X12_sign_98 _ hf
                  · skip
                    rcases ite_some hf with ⟨_, hf⟩ | ⟨_, hf⟩
                    · skip
                      exact m_X12_sign_98 _ hf
                    · skip
                      exact m_X12_sign_106 _ _ hf
    · skip
      cases hf
      exact ag_refl
  · skip
    cases hf
    exact ag_refl
theorem m_X12_hasBracket_32 {N : Nat} {ρ : Nat → Nat → Nat} {this : Nat} {r : Int32} {σr : St} (rec4 : Int32 → Int32 → St → Option (Int32 × St)) (hrec4 : ∀ (x1 : Int32) (x2 : Int32) (σ : St), rec4 x1 x2 σ = some (r, σr) → Ag (fun p => False) σ σr) (x2 : Int32) (s0 : Int32) (σ : St) (hf : f_X12_hasBracket_32 N ρ this rec4 x2 s0 σ = some (r, σr)) : Ag (fun p => False) σ σr := by
  unfold f_X12_hasBracket_32 at hf
  exact hrec4 _ _ _ hf
theorem m_X12_hasBracket_27 {N : Nat} {ρ : Nat → Nat → Nat} {this : Nat} {r : Int32} {σr : St} (rec4 : Int32 → Int32 → St → Option (Int32 × St)) (hrec4 : ∀ (x1 : Int32) (x2 : Int32) (σ : St), rec4 x1 x2 σ = some (r, σr) → Ag (fun p => False) σ σr) (x2 : Int32) (σ : St) (hf : f_X12_hasBracket_27 N ρ this rec4 x2 σ = some (r, σr)) : Ag (fun p => False) σ σr := by
  unfold f_X12_hasBracket_27 at hf
  exact m_X12_hasBracket_32 rec4 hrec4 _ _ _ hf
theorem k_X12_hasBracket_4 {N : Nat} {ρ : Nat → Nat → Nat} {this : Nat} {r : Int32} {σr : St} (rec4 : Int32 → Int32 → St → Option (Int32 × St)) (hrec4 : ∀ (x1 : Int32) (x2 : Int32) (σ : St), rec4 x1 x2 σ = some (r, σr) → Ag (fun p => False) σ σr) (x1 : Int32) (x2 : Int32) (σ : St) (hf : b_X12_hasBracket_4 N ρ this rec4 x1 x2 σ = some (r, σr)) : Ag (fun p => False) σ σr := by
  unfold b_X12_hasBracket_4 at hf
  rcases ite_some hf with ⟨_, hf⟩ | ⟨_, hf⟩
  · skip
    obtain ⟨_, hf⟩ := gd_some hf
    cases hf
    exact ag_refl
  · skip
    rcases ite_some hf with ⟨_, hf⟩ | ⟨_, hf⟩
    · skip
      obtain ⟨_, hf⟩ := gd_some hf
      rcases ite_some hf with ⟨_, hf⟩ | ⟨_, hf⟩
      · skip
        exact m_X12_hasBracket_27 rec4 hrec4 _ _ hf
      · skip
        exact m_X12_hasBracket_32 rec4 hrec4 _ _ _ hf
    · skip
      exact m_X12_hasBracket_27 rec4 hrec4 _ _ hf
theorem m_X12_hasBracket_4 {N : Nat} {ρ : Nat → Nat → Nat} {this : Nat} {r : Int32} {σr : St} : ∀ (n : Nat) (x1 : Int32) (x2 : Int32) (σ : St), f_X12_hasBracket_4 N ρ this n x1 x2 σ = some (r, σr) → Ag (fun p => False) σ σr := by
  intro n
  induction n with
  | zero => intro x1 x2 σ hf; cases hf
  | succ n ih => intro x1 x2 σ hf; exact k_X12_hasBracket_4 _ ih x1 x2 σ hf
theorem m_X12_hasBracket {N : Nat} {ρ : Nat → Nat → Nat} {this : Nat} {r : Int32} {σr : St} {σ : St} (hf : f_X12_hasBracket N ρ this σ = some (r, σr)) : Ag (fun p => False) σ σr := by
  unfold f_X12_hasBracket at hf
  exact m_X12_hasBracket_4 N _ _ _ hf
theorem m_X12_formula_174 {N : Nat} {ρ : Nat → Nat → Nat} {this : Nat} {a1 : Int32} {r : Int32} {σr : St} (rec50 : Int32 → St → Option (Int32 × St)) (hrec50 : ∀ (x2 : Int32) (σ : St), rec50 x2 σ = some (r, σr) → Ag (fun p => p = this ∨ p = ρ this 11 ∨ p = ρ this 12 ∨ p = ρ this 13 ∨ p = ρ this 17 ∨ p = ρ this 19) σ σr) (x2 : Int32) (σ : St) (hf : f_X12_formula_174 N ρ this a1 rec50 x2 σ = some (r, σr)) : Ag (fun p => p = this ∨ p = ρ this 11 ∨ p = ρ this 12 ∨ p = ρ this 13 ∨ p = ρ this 17 ∨ p = ρ this 19) σ σr := by
  unfold f_X12_formula_174 at hf
  exact hrec50 _ _ hf
theorem m_X12_formula_133 {N : Nat} {ρ : Nat → Nat → Nat} {this : Nat} {a1 : Int32} {r : Int32} {σr : St} (rec50 : Int32 → St → Option (Int32 × St)) (hrec50 : ∀ (x2 : Int32) (σ : St), rec50 x2 σ = some (r, σr) → Ag (fun p => p = this ∨ p = ρ this 11 ∨ p = ρ this 12 ∨ p = ρ this 13 ∨ p = ρ this 17 ∨ p = ρ this 19) σ σr) (x2 : Int32) (x3 : Int32) (σ : St) (hf : f_X12_formula_133 N ρ this a1 rec50 x2 x3 σ = some (r, σr)) : Ag (fun p => p = this ∨ p = ρ this 11 ∨ p = ρ this 12 ∨ p = ρ this 13 ∨ p = ρ this 17 ∨ p = ρ this 19) σ σr := by
  unfold f_X12_formula_133 at hf
  obtain ⟨_, σ2, q1, hf⟩ := bnd_some hf
  refine ag_call (m_X12_tight q1) (fun _ h => h.elim) ?_
  obtain ⟨_, σ5, q2, hf⟩ := bnd_some hf
  refine ag_call (m_X12_close q2) (fun _ h => by
        rcases h with h | h | h | h
        · exact (Or.inl h)
        · exact (Or.inr (Or.inl h))
        · exact (Or.inr (Or.inr (Or.inl h)))
        · exact (Or.inr (Or.inr (Or.inr (Or.inl h))))) ?_
  obtain ⟨_, hf⟩ := gd_some hf
  obtain ⟨σ8, eσ8, hf⟩ := nmd_some hf
  refine ag_I eσ8 (Or.inr (Or.inr (Or.inr (Or.inr (Or.inl rfl))))) ?_
  obtain ⟨σ9, eσ9, hf⟩ := nmd_some hf
  refine ag_I eσ9 (Or.inl rfl) ?_
  obtain ⟨_, σ11, q3, hf⟩ := bnd_some hf
  refine ag_call (m_X12_token q3) (fun _ h => (Or.inl h)) ?_
  obtain ⟨_, σ14, q4, hf⟩ := bnd_some hf
  refine ag_call (m_X12_unit q4) (fun _ h => by
        rcases h with h | h | h | h | h
        · exact (Or.inr (Or.inr (Or.inr (Or.inr (Or.inl h)))))
        · exact (Or.inl h)
        · exact (Or.inr (Or.inl h))
        · exact (Or.inr (Or.inr (Or.inl h)))
        · exact (Or.inr (Or.inr (Or.inr (Or.inl h))))) ?_
  exact m_X12_formula_174 rec50 hrec50 _ _ hf
theorem m_X12_formula_172 {N : Nat} {ρ : Nat → Nat → Nat} {this : Nat} {a1 : Int32} {r : Int32} {σr : St} (rec50 : Int32 → St → Option (Int32 × St)) (hrec50 : ∀ (x2 : Int32) (σ : St), rec50 x2 σ = some (r, σr) → Ag (fun p => p = this ∨ p = ρ this 11 ∨ p = ρ this 12 ∨ p = ρ this 13 ∨ p = ρ this 17 ∨ p = ρ this 19) σ σr) (σ : St) (hf : f_X12_formula_172 N ρ this a1 rec50 σ = some (r, σr)) : Ag (fun p => p = this ∨ p = ρ this 11 ∨ p = ρ this 12 ∨ p = ρ this 13 ∨ p = ρ this 17 ∨ p = ρ this 19) σ σr := by
  unfold f_X12_formula_172 at hf
  exact m_X12_formula_174 rec50 hrec50 _ _ hf
theorem m_X12_formula_114 {N : Nat} {ρ : Nat → Nat → Nat} {this : Nat} {a1 : Int32} {r : Int32} {σr : St} (rec50 : Int32 → St → Option (Int32 × St)) (hrec50 : ∀ (x2 : Int32) (σ : St), rec50 x2 σ = some (r, σr) → Ag (fun p => p = this ∨ p = ρ this 11 ∨ p = ρ this 12 ∨ p = ρ this 13 ∨ p = ρ this 17 ∨ p = ρ this 19) σ σr) (x2 : Int32) (x3 : Int32) (σ : St) (hf : f_X12_formula_114 N ρ this a1 rec50 x2 x3 σ = some (r, σr)) : Ag (fun p => p = this ∨ p = ρ this 11 ∨ p = ρ this 12 ∨ p = ρ this 13 ∨ p = ρ this 17 ∨ p = ρ this 19) σ σr := by
  unfold f_X12_formula_114 at hf
  rcases ite_some hf with ⟨_, hf⟩ | ⟨_, hf⟩
  · skip
    exact m_X12_formula_172 rec50 hrec50 _ hf
  · skip
    obtain ⟨_, σ18, q1, hf⟩ := bnd_some hf
    refine ag_call (m_X12_tight q1) (fun _ h => h.elim) ?_
    rcases ite_some hf with ⟨_, hf⟩ | ⟨_, hf⟩
    · skip
      obtain ⟨_, σ22, q2, hf⟩ := bnd_some hf
      refine ag_call (m_X12_hasRelation q2) (fun _ h => h.elim) ?_
      rcases ite_some hf with ⟨_, hf⟩ | ⟨_, hf⟩
      · skip
        exact m_X12_formula_133 rec50 hrec50 _ _ _ hf
      · skip
        exact m_X12_formula_172 rec50 hrec50 _ hf
    · skip
      exact m_X12_formula_133 rec50 hrec50 _ _ _ hf
theorem m_X12_formula_208 {N : Nat} {ρ : Nat → Nat → Nat} {this : Nat} {a1 : Int32} {r : Int32} {σr : St} (σ : St) (hf : f_X12_formula_208 N ρ this a1 σ = some (r, σr)) : Ag (fun p => p = this ∨ p = ρ this 11 ∨ p = ρ this 12 ∨ p = ρ this 13 ∨ p = ρ this 17 ∨ p = ρ this 19) σ σr := by
  unfold f_X12_formula_208 at hf
  cases hf
  exact ag_refl
theorem m_X12_formula_196 {N : Nat} {ρ : Nat → Nat → Nat} {this : Nat} {a1 : Int32} {r : Int32} {σr : St} (σ : St) (hf : f_X12_formula_196 N ρ this a1 σ = some (r, σr)) : Ag (fun p => p = this ∨ p = ρ this 11 ∨ p = ρ this 12 ∨ p = ρ this 13 ∨ p = ρ this 17 ∨ p = ρ this 19) σ σr := by
  unfold f_X12_formula_196 at hf
  rcases ite_some hf with ⟨_, hf⟩ | ⟨_, hf⟩
  · skip
    obtain ⟨_, σ27, q1, hf⟩ := bnd_some hf
    refine ag_call (m_X12_close q1) (fun _ h => by
          rcases h with h | h | h | h
          · exact (Or.inl h)
          · exact (Or.inr (Or.inl h))
          · exact (Or.inr (Or.inr (Or.inl h)))
          · exact (Or.inr (Or.inr (Or.inr (Or.inl h))))) ?_
    exact m_X12_formula_208 _ hf
  · skip
    exact m_X12_formula_208 _ hf
theorem m_X12_formula_177 {N : Nat} {ρ : Nat → Nat → Nat} {this : Nat} {a1 : Int32} {r : Int32} {σr : St} (σ : St) (hf : f_X12_formula_177 N ρ this a1 σ = some (r, σr)) : Ag (fun p => p = this ∨ p = ρ this 11 ∨ p = ρ this 12 ∨ p = ρ this 13 ∨ p = ρ this 17 ∨ p = ρ this 19) σ σr := by
  unfold f_X12_formula_177 at hf
  rcases ite_some hf with ⟨_, hf⟩ | ⟨_, hf⟩
  · skip
    obtain ⟨_, σ31, q1, hf⟩ := bnd_some hf
    refine ag_call (m_X12_hasBracket q1) (fun _ h => h.elim) ?_
    rcases ite_some hf with ⟨_, hf⟩ | ⟨_, hf⟩
    · skip
      exact m_X12_formula_196 _ hf
    · skip
      obtain ⟨_, σ35, q2, hf⟩ := bnd_some hf
      refine ag_call (m_X12_wrong q2) (fun _ h => (Or.inl h)) ?_
      exact m_X12_formula_196 _ hf
  · skip
    exact m_X12_formula_196 _ hf
theorem k_X12_formula_50 {N : Nat} {ρ : Nat → Nat → Nat} {this : Nat} {a1 : Int32} {r : Int32} {σr : St} (rec50 : Int32 → St → Option (Int32 × St)) (hrec50 : ∀ (x2 : Int32) (σ : St), rec50 x2 σ = some (r, σr) → Ag (fun p => p = this ∨ p = ρ this 11 ∨ p = ρ this 12 ∨ p = ρ this 13 ∨ p = ρ this 17 ∨ p = ρ this 19) σ σr) (x2 : Int32) (σ : St) (hf : b_X12_formula_50 N ρ this a1 rec50 x2 σ = some (r, σr)) : Ag (fun p => p = this ∨ p = ρ this 11 ∨ p = ρ this 12 ∨ p = ρ this 13 ∨ p = ρ this 17 ∨ p = ρ this 19) σ σr := by
  unfold b_X12_formula_50 at hf
  rcases ite_some hf with ⟨_, hf⟩ | ⟨_, hf⟩
  · skip
    exact m_X12_formula_177 _ hf
  · skip
    rcases ite_some hf with ⟨_, hf⟩ | ⟨_, hf⟩
    · skip
      obtain ⟨_, σ40, q1, hf⟩ := bnd_some hf
      refine ag_call (m_X12_sign q1) (fun _ h => h.elim) ?_
      rcases ite_some hf with ⟨_, hf⟩ | ⟨_, hf⟩
      · skip
        obtain ⟨_, σ44, q2, hf⟩ := bnd_some hf
        refine ag_call (m_X12_hasBracket q2) (fun _ h => h.elim) ?_
        rcases ite_some hf with ⟨_, hf⟩ | ⟨_, hf⟩
        · skip
          exact m_X12_formula_114 rec50 hrec50 _ _ _ hf
        · skip
          obtain ⟨_, σ48, q3, hf⟩ := bnd_some hf
          refine ag_call (m_X12_close q3) (fun _ h => by
                rcases h with h | h | h | h
                · exact (Or.inl h)
                · exact (Or.inr (Or.inl h))
                · exact (Or.inr (Or.inr (Or.inl h)))
                · exact (Or.inr (Or.inr (Or.inr (Or.inl h))))) ?_
          obtain ⟨σ50, eσ50, hf⟩ := nmd_some hf
          refine ag_I eσ50 (Or.inl rfl) ?_
          obtain ⟨σ51, eσ51, hf⟩ := nmd_some hf
          refine ag_I eσ51 (Or.inl rfl) ?_
          obtain ⟨_, σ53, q4, hf⟩ := bnd_some hf
          refine ag_call (m_X12_token q4) (fun _ h => (Or.inl h)) ?_
          exact m_X12_formula_174 rec50 hrec50 _ _ hf
      · skip
        exact m_X12_formula_114 rec50 hrec50 _ _ _ hf
    · skip
      exact m_X12_formula_177 _ hf
theorem m_X12_formula_50 {N : Nat} {ρ : Nat → Nat → Nat} {this : Nat} {a1 : Int32} {r : Int32} {σr : St} : ∀ (n : Nat) (x2 : Int32) (σ : St), f_X12_formula_50 N ρ this a1 n x2 σ = some (r, σr) → Ag (fun p => p = this ∨ p = ρ this 11 ∨ p = ρ this 12 ∨ p = ρ this 13 ∨ p = ρ this 17 ∨ p = ρ this 19) σ σr := by
  intro n
  induction n with
  | zero => intro x2 σ hf; cases hf
  | succ n ih => intro x2 σ hf; exact k_X12_formula_50 _ ih x2 σ hf
theorem m_X12_formula {N : Nat} {ρ : Nat → Nat → Nat} {this : Nat} {a1 : Int32} {r : Int32} {σr : St} {σ : St} (hf : f_X12_formula N ρ this a1 σ = some (r, σr)) : Ag (fun p => p = this ∨ p = ρ this 11 ∨ p = ρ this 12 ∨ p = ρ this 13 ∨ p = ρ this 17 ∨ p = ρ this 19) σ σr := by
  unfold f_X12_formula at hf
  obtain ⟨_, σ56, q1, hf⟩ := bnd_some hf
  refine ag_call (m_X12_token q1) (fun _ h => (Or.inl h)) ?_
  obtain ⟨σ58, eσ58, hf⟩ := nmd_some hf
  refine ag_I eσ58 (Or.inl rfl) ?_
  obtain ⟨_, hf⟩ := gd_some hf
  obtain ⟨σ60, eσ60, hf⟩ := nmd_some hf
  refine ag_I eσ60 (Or.inr (Or.inr (Or.inr (Or.inr (Or.inr rfl))))) ?_
  obtain ⟨_, hf⟩ := gd_some hf
  obtain ⟨σ62, eσ62, hf⟩ := nmd_some hf
  refine ag_I eσ62 (Or.inr (Or.inr (Or.inr (Or.inl rfl)))) ?_
  obtain ⟨σ63, eσ63, hf⟩ := nmd_some hf
  refine ag_I eσ63 (Or.inl rfl) ?_
  obtain ⟨σ64, eσ64, hf⟩ := nmd_some hf
  refine ag_I eσ64 (Or.inl rfl) ?_
  obtain ⟨σ65, eσ65, hf⟩ := nmd_some hf
  refine ag_I eσ65 (Or.inl rfl) ?_
  obtain ⟨_, σ67, q2, hf⟩ := bnd_some hf
  refine ag_call (m_X12_unit q2) (fun _ h => by
        rcases h with h | h | h | h | h
        · exact (Or.inr (Or.inr (Or.inr (Or.inr (Or.inl h)))))
        · exact (Or.inl h)
        · exact (Or.inr (Or.inl h))
        · exact (Or.inr (Or.inr (Or.inl h)))
        · exact (Or.inr (Or.inr (Or.inr (Or.inl h))))) ?_
  exact m_X12_formula_50 N _ _ hf
theorem m_X12_truth_9 {N : Nat} {ρ : Nat → Nat → Nat} {a1 : Int32} {r : Int32} {σr : St} (s0 : Int32) (σ : St) (hf : f_X12_truth_9 N ρ a1 s0 σ = some (r, σr)) : Ag (fun p => False) σ σr := by
  unfold f_X12_truth_9 at hf
  cases hf
  exact ag_refl
theorem m_X12_truth {N : Nat} {ρ : Nat → Nat → Nat} {a1 : Int32} {r : Int32} {σr : St} {σ : St} (hf : f_X12_truth N ρ a1 σ = some (r, σr)) : Ag (fun p => False) σ σr := by
  unfold f_X12_truth at hf
  rcases ite_some hf with ⟨_, hf⟩ | ⟨_, hf⟩
  · skip
    exact m_X12_truth_9 _ _ hf
  · skip
    exact m_X12_truth_9 _ _ hf
theorem m_X12_done_155 {N : Nat} {ρ : Nat → Nat → Nat} {a1 : Int32} {a2 : Int32} {a3 : Int32} {r : Int32} {σr : St} (s0 : Int32) (σ : St) (hf : f_X12_done_155 N ρ a1 a2 a3 s0 σ = some (r, σr)) : Ag (fun p => False) σ σr := by
  unfold f_X12_done_155 at hf
  cases hf
  exact ag_refl
theorem m_X12_done_211 {N : Nat} {ρ : Nat → Nat → Nat} {a1 : Int32} {a2 : Int32} {a3 : Int32} {r : Int32} {σr : St} (s0 : Int32) (σ : St) (hf : f_X12_done_211 N ρ a1 a2 a3 s0 σ = some (r, σr)) : Ag (fun p => False) σ σr := by
  unfold f_X12_done_211 at hf
  obtain ⟨_, σ2, q1, hf⟩ := bnd_some hf
  refine ag_call (m_X12_truth q1) (fun _ h => h.elim) ?_
  cases hf
  exact ag_refl
theorem m_X12_done_210 {N : Nat} {ρ : Nat → Nat → Nat} {a1 : Int32} {a2 : Int32} {a3 : Int32} {r : Int32} {σr : St} (σ : St) (hf : f_X12_done_210 N ρ a1 a2 a3 σ = some (r, σr)) : Ag (fun p => False) σ σr := by
  unfold f_X12_done_210 at hf
  exact m_X12_done_211 _ _ hf
theorem m_X12_done_228 {N : Nat} {ρ : Nat → Nat → Nat} {a1 : Int32} {a2 : Int32} {a3 : Int32} {r : Int32} {σr : St} (s0 : Int32) (σ : St) (hf : f_X12_done_228 N ρ a1 a2 a3 s0 σ = some (r, σr)) : Ag (fun p => False) σ σr := by
  unfold f_X12_done_228 at hf
  obtain ⟨_, σ5, q1, hf⟩ := bnd_some hf
  refine ag_call (m_X12_truth q1) (fun _ h => h.elim) ?_
  cases hf
  exact ag_refl
theorem m_X12_done_223 {N : Nat} {ρ : Nat → Nat → Nat} {a1 : Int32} {a2 : Int32} {a3 : Int32} {r : Int32} {σr : St} (σ : St) (hf : f_X12_done_223 N ρ a1 a2 a3 σ = some (r, σr)) : Ag (fun p => False) σ σr := by
  unfold f_X12_done_223 at hf
  exact m_X12_done_228 _ _ hf
theorem m_X12_done_215 {N : Nat} {ρ : Nat → Nat → Nat} {a1 : Int32} {a2 : Int32} {a3 : Int32} {r : Int32} {σr : St} (σ : St) (hf : f_X12_done_215 N ρ a1 a2 a3 σ = some (r, σr)) : Ag (fun p => False) σ σr := by
  unfold f_X12_done_215 at hf
  rcases ite_some hf with ⟨_, hf⟩ | ⟨_, hf⟩
  · skip
    rcases ite_some hf with ⟨_, hf⟩ | ⟨_, hf⟩
    · skip
      exact m_X12_done_228 _ _ hf
    · skip
      exact m_X12_done_223 _ hf
  · skip
    exact m_X12_done_223 _ hf
theorem m_X12_done_143 {N : Nat} {ρ : Nat → Nat → Nat} {a1 : Int32} {a2 : Int32} {a3 : Int32} {r : Int32} {σr : St} (s0 : Int32) (σ : St) (hf : f_X12_done_143 N ρ a1 a2 a3 s0 σ = some (r, σr)) : Ag (fun p => False) σ σr := by
  unfold f_X12_done_143 at hf
  cases hf
  exact ag_refl
theorem m_X12_done_166 {N : Nat} {ρ : Nat → Nat → Nat} {a1 : Int32} {a2 : Int32} {a3 : Int32} {r : Int32} {σr : St} (s0 : Int32) (σ : St) (hf : f_X12_done_166 N ρ a1 a2 a3 s0 σ = some (r, σr)) : Ag (fun p => False) σ σr := by
  unfold f_X12_done_166 at hf
  obtain ⟨_, σ10, q1, hf⟩ := bnd_some hf
  refine ag_call (m_X12_truth q1) (fun _ h => h.elim) ?_
  cases hf
  exact ag_refl
theorem m_X12_done_194 {N : Nat} {ρ : Nat → Nat → Nat} {a1 : Int32} {a2 : Int32} {a3 : Int32} {r : Int32} {σr : St} (s0 : Int32) (σ : St) (hf : f_X12_done_194 N ρ a1 a2 a3 s0 σ = some (r, σr)) : Ag (fun p => False) σ σr := by
  unfold f_X12_done_194 at hf
  obtain ⟨_, σ13, q1, hf⟩ := bnd_some hf
  refine ag_call (m_X12_truth q1) (fun _ h => h.elim) ?_
  cases hf
  exact ag_refl
theorem m_X12_done_180 {N : Nat} {ρ : Nat → Nat → Nat} {a1 : Int32} {a2 : Int32} {a3 : Int32} {r : Int32} {σr : St} (s0 : Int32) (σ : St) (hf : f_X12_done_180 N ρ a1 a2 a3 s0 σ = some (r, σr)) : Ag (fun p => False) σ σr := by
  unfold f_X12_done_180 at hf
  obtain ⟨_, σ16, q1, hf⟩ := bnd_some hf
  refine ag_call (m_X12_truth q1) (fun _ h => h.elim) ?_
  cases hf
  exact ag_refl
theorem m_X12_done {N : Nat} {ρ : Nat → Nat → Nat} {a1 : Int32} {a2 : Int32} {a3 : Int32} {r : Int32} {σr : St} {σ : St} (hf : f_X12_done N ρ a1 a2 a3 σ = some (r, σr)) : Ag (fun p => False) σ σr := by
  unfold f_X12_done at hf
  rcases ite_some hf with ⟨_, hf⟩ | ⟨_, hf⟩
  · skip
    rcases ite_some hf with ⟨_, hf⟩ | ⟨_, hf⟩
    · skip
      exact m_X12_done_155 _ _ hf
    · skip
      obtain ⟨_, hf⟩ := gd_some hf
      exact m_X12_done_155 _ _ hf
  · skip
    rcases ite_some hf with ⟨_, hf⟩ | ⟨_, hf⟩
    · skip
      rcases ite_some hf with ⟨_, hf⟩ | ⟨_, hf⟩
      · skip
        exact m_X12_done_210 _ hf
      · skip
        rcases ite_some hf with ⟨_, hf⟩ | ⟨_, hf⟩
        · skip
          exact m_X12_done_210 _ hf
        · skip
          exact m_X12_done_211 _ _ hf
    · skip
      rcases ite_some hf with ⟨_, hf⟩ | ⟨_, hf⟩
      · skip
        exact m_X12_done_215 _ hf
      · skip
        rcases ite_some hf with ⟨_, hf⟩ | ⟨_, hf⟩
        · skip
          exact m_X12_done_215 _ hf
        · skip
          rcases ite_some hf with ⟨_, hf⟩ | ⟨_, hf⟩
          · skip
            exact m_X12_done_215 _ hf
          · skip
            rcases ite_some hf with ⟨_, hf⟩ | ⟨_, hf⟩
            · skip
              cases hf
              exact ag_refl
            · skip
              rcases ite_some hf with ⟨_, hf⟩ | ⟨_, hf⟩
              · skip
                cases hf
                exact ag_refl
              · skip
                rcases ite_some hf with ⟨_, hf⟩ | ⟨_, hf⟩
                · skip
                  exact m_X12_done_215 _ hf
                · skip
                  rcases ite_some hf with ⟨_, hf⟩ | ⟨_, hf⟩
                  · skip
                    cases hf
                    exact ag_refl
                  · skip
                    rcases ite_some hf with ⟨_, hf⟩ | ⟨_, hf⟩
                    · skip
                      exact m_X12_done_215 _ hf
                    · skip
                      rcases ite_some hf with ⟨_, hf⟩ | ⟨_, hf⟩
                      · skip
                        rcases ite_some hf with ⟨_, hf⟩ | ⟨_, hf⟩
                        · skip
                          exact m_X12_done_143 _ _ hf
                        · skip
                          obtain ⟨_, hf⟩ := gd_some hf
                          exact m_X12_done_143 _ _ hf
                      · skip
                        rcases ite_some hf with ⟨_, hf⟩ | ⟨_, hf⟩
                        · skip
                          exact m_X12_done_215 _ hf
                        · skip
                          rcases ite_some hf with ⟨_, hf⟩ | ⟨_, hf⟩
                          · skip
                            exact m_X12_done_215 _ hf
                          · skip
                            rcases ite_some hf with ⟨_, hf⟩ | ⟨_, hf⟩
                            · skip
                              exact m_X12_done_215 _ hf
                            · skip
                              rcases ite_some hf with ⟨_, hf⟩ | ⟨_, hf⟩
                              · skip
                                exact m_X12_done_215 _ hf
                              · skip
                                rcases ite_some hf with ⟨_, hf⟩ | ⟨_, hf⟩
                                · skip
                                  exact m_X12_done_215 _ hf
                                · skip
                                  rcases ite_some hf with ⟨_, hf⟩ | ⟨_, hf⟩
                                  · skip
                                    exact m_X12_done_215 _ hf
                                  · skip
                                    rcases ite_some hf with ⟨_, hf⟩ | ⟨_, hf⟩
                                    · skip
                                      exact m_X12_done_215 _ hf
                                    · skip
                                      rcases ite_some hf with ⟨_, hf⟩ | ⟨_, hf⟩
                                      · skip
                                        exact m_X12_done_215 _ hf
                                      · skip
                                        rcases ite_some hf with ⟨_, hf⟩ | ⟨_, hf⟩
                                        · skip
                                          exact m_X12_done_215 _ hf
                                        · skip
                                          rcases ite_some hf with ⟨_, hf⟩ | ⟨_, hf⟩
                                          · skip
                                            exact m_X12_done_215 _ hf
                                          · skip
                                            rcases ite_some hf with ⟨_, hf⟩ | ⟨_, hf⟩
                                            · skip
                                              exact m_X12_done_215 _ hf
                                            · skip
                                              rcases ite_some hf with ⟨_, hf⟩ | ⟨_, hf⟩
                                              · skip
                                                exact m_X12_done_215 _ hf
                                              · skip
                                                rcases ite_some hf with ⟨_, hf⟩ | ⟨_, hf⟩
                                                · skip
                                                  rcases ite_some hf with ⟨_, hf⟩ | ⟨_, hf⟩
                                                  · skip
                                                    exact m_X12_done_166 _ _ hf
                                                  · skip
                                                    exact m_X12_done_166 _ _ hf
                                                · skip
                                                  rcases ite_some hf with ⟨_, hf⟩ | ⟨_, hf⟩
                                                  · skip
                                                    rcases ite_some hf with ⟨_, hf⟩ | ⟨_, hf⟩
                                                    · skip
                                                      exact m_X12_done_194 _ _ hf
                                                    · skip
                                                      exact m_X12_done_194 _ _ hf
                                                  · skip
                                                    rcases ite_some hf with ⟨_, hf⟩ | ⟨_, hf⟩
                                                    · skip
                                                      rcases ite_some hf with ⟨_, hf⟩ | ⟨_, hf⟩
                                                      · skip
                                                        exact m_X12_done_180 _ _ hf
                                                      · skip
                                                        exact m_X12_done_180 _ _ hf
                                                    · skip
                                                      exact m_X12_done_215 _ hf
theorem m_X12_within_18 {N : Nat} {ρ : Nat → Nat → Nat} {a1 : Int32} {a2 : Int32} {r : Int32} {σr : St} (s0 : Int32) (σ : St) (hf : f_X12_within_18 N ρ a1 a2 s0 σ = some (r, σr)) : Ag (fun p => False) σ σr := by
  unfold f_X12_within_18 at hf
  cases hf
  exact ag_refl
theorem m_X12_within {N : Nat} {ρ : Nat → Nat → Nat} {a1 : Int32} {a2 : Int32} {r : Int32} {σr : St} {σ : St} (hf : f_X12_within N ρ a1 a2 σ = some (r, σr)) : Ag (fun p => False) σ σr := by
  unfold f_X12_within at hf
  rcases ite_some hf with ⟨_, hf⟩ | ⟨_, hf⟩
  · skip
    rcases ite_some hf with ⟨_, hf⟩ | ⟨_, hf⟩
    · skip
      exact m_X12_within_18 _ _ hf
    · skip
      exact m_X12_within_18 _ _ hf
  · skip
    exact m_X12_within_18 _ _ hf
theorem m_X12_heavyOf_29 {N : Nat} {ρ : Nat → Nat → Nat} {this : Nat} {a1 : Int32} {r : Int32} {σr : St} (s0 : Int32) (σ : St) (hf : f_X12_heavyOf_29 N ρ this a1 s0 σ = some (r, σr)) : Ag (fun p => False) σ σr := by
  unfold f_X12_heavyOf_29 at hf
  cases hf
  exact ag_refl
theorem m_X12_heavyOf {N : Nat} {ρ : Nat → Nat → Nat} {this : Nat} {a1 : Int32} {r : Int32} {σr : St} {σ : St} (hf : f_X12_heavyOf N ρ this a1 σ = some (r, σr)) : Ag (fun p => False) σ σr := by
  unfold f_X12_heavyOf at hf
  obtain ⟨_, hf⟩ := gd_some hf
  rcases ite_some hf with ⟨_, hf⟩ | ⟨_, hf⟩
  · skip
    obtain ⟨_, hf⟩ := gd_some hf
    exact m_X12_heavyOf_29 _ _ hf
  · skip
    exact m_X12_heavyOf_29 _ _ hf
theorem m_X12_worked_252 {N : Nat} {ρ : Nat → Nat → Nat} {this : Nat} {a1 : Int32} {a2 : Int32} {a3 : Int32} {a4 : Int32} {a5 : Int32} {a6 : Int32} {r : Int32} {σr : St} (rec88 : Int32 → Int32 → St → Option (Int32 × St)) (hrec88 : ∀ (x7 : Int32) (x8 : Int32) (σ : St), rec88 x7 x8 σ = some (r, σr) → Ag (fun p => p = ρ this 18 ∨ p = ρ this 26) σ σr) (x7 : Int32) (x8 : Int32) (σ : St) (hf : f_X12_worked_252 N ρ this a1 a2 a3 a4 a5 a6 rec88 x7 x8 σ = some (r, σr)) : Ag (fun p => p = ρ this 18 ∨ p = ρ this 26) σ σr := by
  unfold f_X12_worked_252 at hf
  exact hrec88 _ _ _ hf
theorem m_X12_worked_164 {N : Nat} {ρ : Nat → Nat → Nat} {this : Nat} {a1 : Int32} {a2 : Int32} {a3 : Int32} {a4 : Int32} {a5 : Int32} {a6 : Int32} {r : Int32} {σr : St} (rec88 : Int32 → Int32 → St → Option (Int32 × St)) (hrec88 : ∀ (x7 : Int32) (x8 : Int32) (σ : St), rec88 x7 x8 σ = some (r, σr) → Ag (fun p => p = ρ this 18 ∨ p = ρ this 26) σ σr) (x7 : Int32) (x8 : Int32) (s0 : Int32) (s1 : Int32) (σ : St) (hf : f_X12_worked_164 N ρ this a1 a2 a3 a4 a5 a6 rec88 x7 x8 s0 s1 σ = some (r, σr)) : Ag (fun p => p = ρ this 18 ∨ p = ρ this 26) σ σr := by
  unfold f_X12_worked_164 at hf
  obtain ⟨_, hf⟩ := gd_some hf
  obtain ⟨σ2, eσ2, hf⟩ := nmd_some hf
  refine ag_I eσ2 (Or.inl rfl) ?_
  exact m_X12_worked_252 rec88 hrec88 _ _ _ hf
theorem m_X12_worked_126 {N : Nat} {ρ : Nat → Nat → Nat} {this : Nat} {a1 : Int32} {a2 : Int32} {a3 : Int32} {a4 : Int32} {a5 : Int32} {a6 : Int32} {r : Int32} {σr : St} (rec88 : Int32 → Int32 → St → Option (Int32 × St)) (hrec88 : ∀ (x7 : Int32) (x8 : Int32) (σ : St), rec88 x7 x8 σ = some (r, σr) → Ag (fun p => p = ρ this 18 ∨ p = ρ this 26) σ σr) (x7 : Int32) (x8 : Int32) (σ : St) (hf : f_X12_worked_126 N ρ this a1 a2 a3 a4 a5 a6 rec88 x7 x8 σ = some (r, σr)) : Ag (fun p => p = ρ this 18 ∨ p = ρ this 26) σ σr := by
  unfold f_X12_worked_126 at hf
  obtain ⟨_, hf⟩ := gd_some hf
  rcases ite_some hf with ⟨_, hf⟩ | ⟨_, hf⟩
  · skip
    obtain ⟨_, hf⟩ := gd_some hf
    exact m_X12_worked_164 rec88 hrec88 _ _ _ _ _ hf
  · skip
    obtain ⟨_, hf⟩ := gd_some hf
    obtain ⟨_, hf⟩ := gd_some hf
    exact m_X12_worked_164 rec88 hrec88 _ _ _ _ _ hf
theorem m_X12_worked_207 {N : Nat} {ρ : Nat → Nat → Nat} {this : Nat} {a1 : Int32} {a2 : Int32} {a3 : Int32} {a4 : Int32} {a5 : Int32} {a6 : Int32} {r : Int32} {σr : St} (rec88 : Int32 → Int32 → St → Option (Int32 × St)) (hrec88 : ∀ (x7 : Int32) (x8 : Int32) (σ : St), rec88 x7 x8 σ = some (r, σr) → Ag (fun p => p = ρ this 18 ∨ p = ρ this 26) σ σr) (x7 : Int32) (x8 : Int32) (s0 : Int32) (s1 : Int32) (σ : St) (hf : f_X12_worked_207 N ρ this a1 a2 a3 a4 a5 a6 rec88 x7 x8 s0 s1 σ = some (r, σr)) : Ag (fun p => p = ρ this 18 ∨ p = ρ this 26) σ σr := by
  unfold f_X12_worked_207 at hf
  obtain ⟨_, σ9, q1, hf⟩ := bnd_some hf
  refine ag_call (m_X12_truth q1) (fun _ h => h.elim) ?_
  obtain ⟨_, hf⟩ := gd_some hf
  obtain ⟨σ12, eσ12, hf⟩ := nmd_some hf
  refine ag_I eσ12 (Or.inl rfl) ?_
  exact m_X12_worked_252 rec88 hrec88 _ _ _ hf
theorem k_X12_worked_88 {N : Nat} {ρ : Nat → Nat → Nat} {this : Nat} {a1 : Int32} {a2 : Int32} {a3 : Int32} {a4 : Int32} {a5 : Int32} {a6 : Int32} {r : Int32} {σr : St} (rec88 : Int32 → Int32 → St → Option (Int32 × St)) (hrec88 : ∀ (x7 : Int32) (x8 : Int32) (σ : St), rec88 x7 x8 σ = some (r, σr) → Ag (fun p => p = ρ this 18 ∨ p = ρ this 26) σ σr) (x7 : Int32) (x8 : Int32) (σ : St) (hf : b_X12_worked_88 N ρ this a1 a2 a3 a4 a5 a6 rec88 x7 x8 σ = some (r, σr)) : Ag (fun p => p = ρ this 18 ∨ p = ρ this 26) σ σr := by
  unfold b_X12_worked_88 at hf
  obtain ⟨_, hf⟩ := gd_some hf
  rcases ite_some hf with ⟨_, hf⟩ | ⟨_, hf⟩
  · skip
    obtain ⟨_, hf⟩ := gd_some hf
    obtain ⟨_, σ17, q1, hf⟩ := bnd_some hf
    refine ag_call (m_X12_within q1) (fun _ h => h.elim) ?_
    cases hf
    exact ag_refl
  · skip
    obtain ⟨_, hf⟩ := gd_some hf
    rcases ite_some hf with ⟨_, hf⟩ | ⟨_, hf⟩
    · skip
      exact m_X12_worked_126 rec88 hrec88 _ _ _ hf
    · skip
      obtain ⟨_, hf⟩ := gd_some hf
      rcases ite_some hf with ⟨_, hf⟩ | ⟨_, hf⟩
      · skip
        exact m_X12_worked_126 rec88 hrec88 _ _ _ hf
      · skip
        obtain ⟨_, hf⟩ := gd_some hf
        rcases ite_some hf with ⟨_, hf⟩ | ⟨_, hf⟩
        · skip
          obtain ⟨_, hf⟩ := gd_some hf
          rcases ite_some hf with ⟨_, hf⟩ | ⟨_, hf⟩
          · skip
            exact m_X12_worked_207 rec88 hrec88 _ _ _ _ _ hf
          · skip
            exact m_X12_worked_207 rec88 hrec88 _ _ _ _ _ hf
        · skip
          obtain ⟨_, hf⟩ := gd_some hf
          obtain ⟨_, hf⟩ := gd_some hf
          obtain ⟨_, hf⟩ := gd_some hf
          obtain ⟨_, σ29, q2, hf⟩ := bnd_some hf
          refine ag_call (m_X12_done q2) (fun _ h => h.elim) ?_
          obtain ⟨_, hf⟩ := gd_some hf
          obtain ⟨σ32, eσ32, hf⟩ := nmd_some hf
          refine ag_I eσ32 (Or.inl rfl) ?_
          exact m_X12_worked_252 rec88 hrec88 _ _ _ hf
theorem m_X12_worked_88 {N : Nat} {ρ : Nat → Nat → Nat} {this : Nat} {a1 : Int32} {a2 : Int32} {a3 : Int32} {a4 : Int32} {a5 : Int32} {a6 : Int32} {r : Int32} {σr : St} : ∀ (n : Nat) (x7 : Int32) (x8 : Int32) (σ : St), f_X12_worked_88 N ρ this a1 a2 a3 a4 a5 a6 n x7 x8 σ = some (r, σr) → Ag (fun p => p = ρ this 18 ∨ p = ρ this 26) σ σr := by
  intro n
  induction n with
  | zero => intro x7 x8 σ hf; cases hf
  | succ n ih => intro x7 x8 σ hf; exact k_X12_worked_88 _ ih x7 x8 σ hf
theorem m_X12_worked {N : Nat} {ρ : Nat → Nat → Nat} {this : Nat} {a1 : Int32} {a2 : Int32} {a3 : Int32} {a4 : Int32} {a5 : Int32} {a6 : Int32} {r : Int32} {σr : St} {σ : St} (hf : f_X12_worked N ρ this a1 a2 a3 a4 a5 a6 σ = some (r, σr)) : Ag (fun p => p = ρ this 18 ∨ p = ρ this 26) σ σr := by
  unfold f_X12_worked at hf
  obtain ⟨_, σ36, q1, hf⟩ := bnd_some hf
  refine ag_call (m_X12_heavyOf q1) (fun _ h => h.elim) ?_
  obtain ⟨_, hf⟩ := gd_some hf
  obtain ⟨σ39, eσ39, hf⟩ := nmd_some hf
  refine ag_I eσ39 (Or.inr rfl) ?_
  obtain ⟨_, hf⟩ := gd_some hf
  obtain ⟨σ41, eσ41, hf⟩ := nmd_some hf
  refine ag_I eσ41 (Or.inr rfl) ?_
  obtain ⟨_, hf⟩ := gd_some hf
  obtain ⟨_, hf⟩ := gd_some hf
  obtain ⟨σ44, eσ44, hf⟩ := nmd_some hf
  refine ag_I eσ44 (Or.inr rfl) ?_
  obtain ⟨_, hf⟩ := gd_some hf
  obtain ⟨_, hf⟩ := gd_some hf
  obtain ⟨σ47, eσ47, hf⟩ := nmd_some hf
  refine ag_I eσ47 (Or.inr rfl) ?_
  obtain ⟨_, hf⟩ := gd_some hf
  obtain ⟨_, hf⟩ := gd_some hf
  obtain ⟨σ50, eσ50, hf⟩ := nmd_some hf
  refine ag_I eσ50 (Or.inr rfl) ?_
  obtain ⟨_, hf⟩ := gd_some hf
  obtain ⟨_, hf⟩ := gd_some hf
  obtain ⟨σ53, eσ53, hf⟩ := nmd_some hf
  refine ag_I eσ53 (Or.inr rfl) ?_
  obtain ⟨_, hf⟩ := gd_some hf
  obtain ⟨σ55, eσ55, hf⟩ := nmd_some hf
  refine ag_I eσ55 (Or.inl rfl) ?_
  obtain ⟨y56, ey56, hf⟩ := nmd_some hf
  exact m_X12_worked_88 N _ _ _ hf
theorem m_X12_readHearth_94 {N : Nat} {ρ : Nat → Nat → Nat} {this : Nat} {r : Int32} {σr : St} (σ : St) (hf : f_X12_readHearth_94 N ρ this σ = some (r, σr)) : Ag (fun p => p = ρ this 10 ∨ p = this ∨ p = ρ this 28 ∨ p = ρ this 29 ∨ p = ρ this 30 ∨ p = ρ this 31) σ σr := by
  unfold f_X12_readHearth_94 at hf
  cases hf
  exact ag_refl
theorem m_X12_readHearth {N : Nat} {ρ : Nat → Nat → Nat} {this : Nat} {r : Int32} {σr : St} {σ : St} (hf : f_X12_readHearth N ρ this σ = some (r, σr)) : Ag (fun p => p = ρ this 10 ∨ p = this ∨ p = ρ this 28 ∨ p = ρ this 29 ∨ p = ρ this 30 ∨ p = ρ this 31) σ σr := by
  unfold f_X12_readHearth at hf
  obtain ⟨_, σ2, q1, hf⟩ := bnd_some hf
  refine ag_call (m_X12_newName q1) (fun _ h => by
        rcases h with h | h
        · exact (Or.inl h)
        · exact (Or.inr (Or.inl h))) ?_
  obtain ⟨y4, ey4, hf⟩ := nmd_some hf
  obtain ⟨_, σ6, q2, hf⟩ := bnd_some hf
  refine ag_call (m_X12_told q2) (fun _ h => (Or.inr (Or.inl h))) ?_
  obtain ⟨_, hf⟩ := gd_some hf
  obtain ⟨σ9, eσ9, hf⟩ := nmd_some hf
  refine ag_I eσ9 (Or.inr (Or.inr (Or.inl rfl))) ?_
  obtain ⟨_, σ11, q3, hf⟩ := bnd_some hf
  refine ag_call (m_X12_told q3) (fun _ h => (Or.inr (Or.inl h))) ?_
  obtain ⟨_, hf⟩ := gd_some hf
  obtain ⟨σ14, eσ14, hf⟩ := nmd_some hf
  refine ag_I eσ14 (Or.inr (Or.inr (Or.inr (Or.inl rfl)))) ?_
  obtain ⟨_, σ16, q4, hf⟩ := bnd_some hf
  refine ag_call (m_X12_option q4) (fun _ h => (Or.inr (Or.inl h))) ?_
  obtain ⟨_, hf⟩ := gd_some hf
  obtain ⟨σ19, eσ19, hf⟩ := nmd_some hf
  refine ag_I eσ19 (Or.inr (Or.inr (Or.inr (Or.inr (Or.inl rfl))))) ?_
  obtain ⟨_, σ21, q5, hf⟩ := bnd_some hf
  refine ag_call (m_X12_option q5) (fun _ h => (Or.inr (Or.inl h))) ?_
  obtain ⟨_, hf⟩ := gd_some hf
  obtain ⟨σ24, eσ24, hf⟩ := nmd_some hf
  refine ag_I eσ24 (Or.inr (Or.inr (Or.inr (Or.inr (Or.inr rfl))))) ?_
  rcases ite_some hf with ⟨_, hf⟩ | ⟨_, hf⟩
  · skip
    obtain ⟨σ26, eσ26, hf⟩ := nmd_some hf
    refine ag_I eσ26 (Or.inr (Or.inl rfl)) ?_
    exact m_X12_readHearth_94 _ hf
  · skip
    exact m_X12_readHearth_94 _ hf
theorem m_X12_readStool_95 {N : Nat} {ρ : Nat → Nat → Nat} {this : Nat} {r : Int32} {σr : St} (σ : St) (hf : f_X12_readStool_95 N ρ this σ = some (r, σr)) : Ag (fun p => p = ρ this 10 ∨ p = this ∨ p = ρ this 32 ∨ p = ρ this 33 ∨ p = ρ this 34 ∨ p = ρ this 35) σ σr := by
  unfold f_X12_readStool_95 at hf
  cases hf
  exact ag_refl
theorem m_X12_readStool {N : Nat} {ρ : Nat → Nat → Nat} {this : Nat} {r : Int32} {σr : St} {σ : St} (hf : f_X12_readStool N ρ this σ = some (r, σr)) : Ag (fun p => p = ρ this 10 ∨ p = this ∨ p = ρ this 32 ∨ p = ρ this 33 ∨ p = ρ this 34 ∨ p = ρ this 35) σ σr := by
  unfold f_X12_readStool at hf
  obtain ⟨_, σ2, q1, hf⟩ := bnd_some hf
  refine ag_call (m_X12_newName q1) (fun _ h => by
        rcases h with h | h
        · exact (Or.inl h)
        · exact (Or.inr (Or.inl h))) ?_
  obtain ⟨y4, ey4, hf⟩ := nmd_some hf
  obtain ⟨_, σ6, q2, hf⟩ := bnd_some hf
  refine ag_call (m_X12_told q2) (fun _ h => (Or.inr (Or.inl h))) ?_
  obtain ⟨_, hf⟩ := gd_some hf
  obtain ⟨σ9, eσ9, hf⟩ := nmd_some hf
  refine ag_I eσ9 (Or.inr (Or.inr (Or.inl rfl))) ?_
  obtain ⟨_, σ11, q3, hf⟩ := bnd_some hf
  refine ag_call (m_X12_told q3) (fun _ h => (Or.inr (Or.inl h))) ?_
  obtain ⟨_, hf⟩ := gd_some hf
  obtain ⟨σ14, eσ14, hf⟩ := nmd_some hf
  refine ag_I eσ14 (Or.inr (Or.inr (Or.inr (Or.inl rfl)))) ?_
  obtain ⟨_, σ16, q4, hf⟩ := bnd_some hf
  refine ag_call (m_X12_option q4) (fun _ h => (Or.inr (Or.inl h))) ?_
  obtain ⟨_, hf⟩ := gd_some hf
  obtain ⟨σ19, eσ19, hf⟩ := nmd_some hf
  refine ag_I eσ19 (Or.inr (Or.inr (Or.inr (Or.inr (Or.inl rfl))))) ?_
  obtain ⟨_, σ21, q5, hf⟩ := bnd_some hf
  refine ag_call (m_X12_option q5) (fun _ h => (Or.inr (Or.inl h))) ?_
  obtain ⟨_, hf⟩ := gd_some hf
  obtain ⟨σ24, eσ24, hf⟩ := nmd_some hf
  refine ag_I eσ24 (Or.inr (Or.inr (Or.inr (Or.inr (Or.inr rfl))))) ?_
  rcases ite_some hf with ⟨_, hf⟩ | ⟨_, hf⟩
  · skip
    obtain ⟨σ26, eσ26, hf⟩ := nmd_some hf
    refine ag_I eσ26 (Or.inr (Or.inl rfl)) ?_
    exact m_X12_readStool_95 _ hf
  · skip
    exact m_X12_readStool_95 _ hf
theorem m_X12_readLine_260 {N : Nat} {ρ : Nat → Nat → Nat} {this : Nat} {r : Int32} {σr : St} (σ : St) (hf : f_X12_readLine_260 N ρ this σ = some (r, σr)) : Ag (fun p => p = this ∨ p = ρ this 11 ∨ p = ρ this 12 ∨ p = ρ this 13 ∨ p = ρ this 17 ∨ p = ρ this 19 ∨ p = ρ this 10 ∨ p = ρ this 32 ∨ p = ρ this 33 ∨ p = ρ this 34 ∨ p = ρ this 35 ∨ p = ρ this 28 ∨ p = ρ this 29 ∨ p = ρ this 30 ∨ p = ρ this 31) σ σr := by
  unfold f_X12_readLine_260 at hf
  cases hf
  exact ag_refl
theorem m_X12_readLine_249 {N : Nat} {ρ : Nat → Nat → Nat} {this : Nat} {r : Int32} {σr : St} (σ : St) (hf : f_X12_readLine_249 N ρ this σ = some (r, σr)) : Ag (fun p => p = this ∨ p = ρ this 11 ∨ p = ρ this 12 ∨ p = ρ this 13 ∨ p = ρ this 17 ∨ p = ρ this 19 ∨ p = ρ this 10 ∨ p = ρ this 32 ∨ p = ρ this 33 ∨ p = ρ this 34 ∨ p = ρ this 35 ∨ p = ρ this 28 ∨ p = ρ this 29 ∨ p = ρ this 30 ∨ p = ρ this 31) σ σr := by
  unfold f_X12_readLine_249 at hf
  rcases ite_some hf with ⟨_, hf⟩ | ⟨_, hf⟩
  · skip
    obtain ⟨_, σ3, q1, hf⟩ := bnd_some hf
    refine ag_call (m_X12_token q1) (fun _ h => (Or.inl h)) ?_
    exact m_X12_readLine_260 _ hf
  · skip
    exact m_X12_readLine_260 _ hf
theorem m_X12_readLine_228 {N : Nat} {ρ : Nat → Nat → Nat} {this : Nat} {r : Int32} {σr : St} (σ : St) (hf : f_X12_readLine_228 N ρ this σ = some (r, σr)) : Ag (fun p => p = this ∨ p = ρ this 11 ∨ p = ρ this 12 ∨ p = ρ this 13 ∨ p = ρ this 17 ∨ p = ρ this 19 ∨ p = ρ this 10 ∨ p = ρ this 32 ∨ p = ρ this 33 ∨ p = ρ this 34 ∨ p = ρ this 35 ∨ p = ρ this 28 ∨ p = ρ this 29 ∨ p = ρ this 30 ∨ p = ρ this 31) σ σr := by
  unfold f_X12_readLine_228 at hf
  rcases ite_some hf with ⟨_, hf⟩ | ⟨_, hf⟩
  · skip
    rcases ite_some hf with ⟨_, hf⟩ | ⟨_, hf⟩
    · skip
      exact m_X12_readLine_249 _ hf
    · skip
      obtain ⟨_, σ8, q1, hf⟩ := bnd_some hf
      refine ag_call (m_X12_wrong q1) (fun _ h => (Or.inl h)) ?_
      exact m_X12_readLine_249 _ hf
  · skip
    exact m_X12_readLine_249 _ hf
theorem m_X12_readLine_223 {N : Nat} {ρ : Nat → Nat → Nat} {this : Nat} {r : Int32} {σr : St} (σ : St) (hf : f_X12_readLine_223 N ρ this σ = some (r, σr)) : Ag (fun p => p = this ∨ p = ρ this 11 ∨ p = ρ this 12 ∨ p = ρ this 13 ∨ p = ρ this 17 ∨ p = ρ this 19 ∨ p = ρ this 10 ∨ p = ρ this 32 ∨ p = ρ this 33 ∨ p = ρ this 34 ∨ p = ρ this 35 ∨ p = ρ this 28 ∨ p = ρ this 29 ∨ p = ρ this 30 ∨ p = ρ this 31) σ σr := by
  unfold f_X12_readLine_223 at hf
  obtain ⟨_, σ11, q1, hf⟩ := bnd_some hf
  refine ag_call (m_X12_wrong q1) (fun _ h => (Or.inl h)) ?_
  exact m_X12_readLine_228 _ hf
theorem m_X12_readLine_183 {N : Nat} {ρ : Nat → Nat → Nat} {this : Nat} {r : Int32} {σr : St} (σ : St) (hf : f_X12_readLine_183 N ρ this σ = some (r, σr)) : Ag (fun p => p = this ∨ p = ρ this 11 ∨ p = ρ this 12 ∨ p = ρ this 13 ∨ p = ρ this 17 ∨ p = ρ this 19 ∨ p = ρ this 10 ∨ p = ρ this 32 ∨ p = ρ this 33 ∨ p = ρ this 34 ∨ p = ρ this 35 ∨ p = ρ this 28 ∨ p = ρ this 29 ∨ p = ρ this 30 ∨ p = ρ this 31) σ σr := by
  unfold f_X12_readLine_183 at hf
  obtain ⟨_, σ14, q1, hf⟩ := bnd_some hf
  refine ag_call (m_X12_isWord q1) (fun _ h => h.elim) ?_
  rcases ite_some hf with ⟨_, hf⟩ | ⟨_, hf⟩
  · skip
    exact m_X12_readLine_223 _ hf
  · skip
    rcases ite_some hf with ⟨_, hf⟩ | ⟨_, hf⟩
    · skip
      obtain ⟨σ18, eσ18, hf⟩ := nmd_some hf
      refine ag_I eσ18 (Or.inl rfl) ?_
      obtain ⟨_, σ20, q2, hf⟩ := bnd_some hf
      refine ag_call (m_X12_told q2) (fun _ h => (Or.inl h)) ?_
      obtain ⟨σ22, eσ22, hf⟩ := nmd_some hf
      refine ag_I eσ22 (Or.inl rfl) ?_
      exact m_X12_readLine_228 _ hf
    · skip
      exact m_X12_readLine_223 _ hf
theorem m_X12_readLine_144 {N : Nat} {ρ : Nat → Nat → Nat} {this : Nat} {r : Int32} {σr : St} (σ : St) (hf : f_X12_readLine_144 N ρ this σ = some (r, σr)) : Ag (fun p => p = this ∨ p = ρ this 11 ∨ p = ρ this 12 ∨ p = ρ this 13 ∨ p = ρ this 17 ∨ p = ρ this 19 ∨ p = ρ this 10 ∨ p = ρ this 32 ∨ p = ρ this 33 ∨ p = ρ this 34 ∨ p = ρ this 35 ∨ p = ρ this 28 ∨ p = ρ this 29 ∨ p = ρ this 30 ∨ p = ρ this 31) σ σr := by
  unfold f_X12_readLine_144 at hf
  obtain ⟨_, σ24, q1, hf⟩ := bnd_some hf
  refine ag_call (m_X12_isWord q1) (fun _ h => h.elim) ?_
  rcases ite_some hf with ⟨_, hf⟩ | ⟨_, hf⟩
  · skip
    exact m_X12_readLine_183 _ hf
  · skip
    rcases ite_some hf with ⟨_, hf⟩ | ⟨_, hf⟩
    · skip
      obtain ⟨σ28, eσ28, hf⟩ := nmd_some hf
      refine ag_I eσ28 (Or.inl rfl) ?_
      obtain ⟨_, σ30, q2, hf⟩ := bnd_some hf
      refine ag_call (m_X12_told q2) (fun _ h => (Or.inl h)) ?_
      obtain ⟨σ32, eσ32, hf⟩ := nmd_some hf
      refine ag_I eσ32 (Or.inl rfl) ?_
      exact m_X12_readLine_228 _ hf
    · skip
      exact m_X12_readLine_183 _ hf
theorem m_X12_readLine_105 {N : Nat} {ρ : Nat → Nat → Nat} {this : Nat} {r : Int32} {σr : St} (σ : St) (hf : f_X12_readLine_105 N ρ this σ = some (r, σr)) : Ag (fun p => p = this ∨ p = ρ this 11 ∨ p = ρ this 12 ∨ p = ρ this 13 ∨ p = ρ this 17 ∨ p = ρ this 19 ∨ p = ρ this 10 ∨ p = ρ this 32 ∨ p = ρ this 33 ∨ p = ρ this 34 ∨ p = ρ this 35 ∨ p = ρ this 28 ∨ p = ρ this 29 ∨ p = ρ this 30 ∨ p = ρ this 31) σ σr := by
  unfold f_X12_readLine_105 at hf
  obtain ⟨_, σ34, q1, hf⟩ := bnd_some hf
  refine ag_call (m_X12_isWord q1) (fun _ h => h.elim) ?_
  rcases ite_some hf with ⟨_, hf⟩ | ⟨_, hf⟩
  · skip
    exact m_X12_readLine_144 _ hf
  · skip
    rcases ite_some hf with ⟨_, hf⟩ | ⟨_, hf⟩
    · skip
      obtain ⟨σ38, eσ38, hf⟩ := nmd_some hf
      refine ag_I eσ38 (Or.inl rfl) ?_
      obtain ⟨_, σ40, q2, hf⟩ := bnd_some hf
      refine ag_call (m_X12_told q2) (fun _ h => (Or.inl h)) ?_
      obtain ⟨σ42, eσ42, hf⟩ := nmd_some hf
      refine ag_I eσ42 (Or.inl rfl) ?_
      exact m_X12_readLine_228 _ hf
    · skip
      exact m_X12_readLine_144 _ hf
theorem m_X12_readLine_78 {N : Nat} {ρ : Nat → Nat → Nat} {this : Nat} {r : Int32} {σr : St} (σ : St) (hf : f_X12_readLine_78 N ρ this σ = some (r, σr)) : Ag (fun p => p = this ∨ p = ρ this 11 ∨ p = ρ this 12 ∨ p = ρ this 13 ∨ p = ρ this 17 ∨ p = ρ this 19 ∨ p = ρ this 10 ∨ p = ρ this 32 ∨ p = ρ this 33 ∨ p = ρ this 34 ∨ p = ρ this 35 ∨ p = ρ this 28 ∨ p = ρ this 29 ∨ p = ρ this 30 ∨ p = ρ this 31) σ σr := by
  unfold f_X12_readLine_78 at hf
  obtain ⟨_, σ44, q1, hf⟩ := bnd_some hf
  refine ag_call (m_X12_isWord q1) (fun _ h => h.elim) ?_
  rcases ite_some hf with ⟨_, hf⟩ | ⟨_, hf⟩
  · skip
    exact m_X12_readLine_105 _ hf
  · skip
    obtain ⟨_, hf⟩ := gd_some hf
    rcases ite_some hf with ⟨_, hf⟩ | ⟨_, hf⟩
    · skip
      obtain ⟨_, σ50, q2, hf⟩ := bnd_some hf
      refine ag_call (m_X12_formula q2) (fun _ h => by
            rcases h with h | h | h | h | h | h
            · exact (Or.inl h)
            · exact (Or.inr (Or.inl h))
            · exact (Or.inr (Or.inr (Or.inl h)))
            · exact (Or.inr (Or.inr (Or.inr (Or.inl h))))
            · exact (Or.inr (Or.inr (Or.inr (Or.inr (Or.inl h)))))
            · exact (Or.inr (Or.inr (Or.inr (Or.inr (Or.inr (Or.inl h))))))) ?_
      exact m_X12_readLine_228 _ hf
    · skip
      exact m_X12_readLine_105 _ hf
theorem m_X12_readLine_51 {N : Nat} {ρ : Nat → Nat → Nat} {this : Nat} {r : Int32} {σr : St} (σ : St) (hf : f_X12_readLine_51 N ρ this σ = some (r, σr)) : Ag (fun p => p = this ∨ p = ρ this 11 ∨ p = ρ this 12 ∨ p = ρ this 13 ∨ p = ρ this 17 ∨ p = ρ this 19 ∨ p = ρ this 10 ∨ p = ρ this 32 ∨ p = ρ this 33 ∨ p = ρ this 34 ∨ p = ρ this 35 ∨ p = ρ this 28 ∨ p = ρ this 29 ∨ p = ρ this 30 ∨ p = ρ this 31) σ σr := by
  unfold f_X12_readLine_51 at hf
  obtain ⟨_, σ53, q1, hf⟩ := bnd_some hf
  refine ag_call (m_X12_isWord q1) (fun _ h => h.elim) ?_
  rcases ite_some hf with ⟨_, hf⟩ | ⟨_, hf⟩
  · skip
    exact m_X12_readLine_78 _ hf
  · skip
    obtain ⟨_, hf⟩ := gd_some hf
    rcases ite_some hf with ⟨_, hf⟩ | ⟨_, hf⟩
    · skip
      obtain ⟨_, σ59, q2, hf⟩ := bnd_some hf
      refine ag_call (m_X12_formula q2) (fun _ h => by
            rcases h with h | h | h | h | h | h
            · exact (Or.inl h)
            · exact (Or.inr (Or.inl h))
            · exact (Or.inr (Or.inr (Or.inl h)))
            · exact (Or.inr (Or.inr (Or.inr (Or.inl h))))
            · exact (Or.inr (Or.inr (Or.inr (Or.inr (Or.inl h)))))
            · exact (Or.inr (Or.inr (Or.inr (Or.inr (Or.inr (Or.inl h))))))) ?_
      exact m_X12_readLine_228 _ hf
    · skip
      exact m_X12_readLine_78 _ hf
theorem m_X12_readLine_26 {N : Nat} {ρ : Nat → Nat → Nat} {this : Nat} {r : Int32} {σr : St} (σ : St) (hf : f_X12_readLine_26 N ρ this σ = some (r, σr)) : Ag (fun p => p = this ∨ p = ρ this 11 ∨ p = ρ this 12 ∨ p = ρ this 13 ∨ p = ρ this 17 ∨ p = ρ this 19 ∨ p = ρ this 10 ∨ p = ρ this 32 ∨ p = ρ this 33 ∨ p = ρ this 34 ∨ p = ρ this 35 ∨ p = ρ this 28 ∨ p = ρ this 29 ∨ p = ρ this 30 ∨ p = ρ this 31) σ σr := by
  unfold f_X12_readLine_26 at hf
  obtain ⟨_, σ62, q1, hf⟩ := bnd_some hf
  refine ag_call (m_X12_isWord q1) (fun _ h => h.elim) ?_
  rcases ite_some hf with ⟨_, hf⟩ | ⟨_, hf⟩
  · skip
    exact m_X12_readLine_51 _ hf
  · skip
    rcases ite_some hf with ⟨_, hf⟩ | ⟨_, hf⟩
    · skip
      exact m_X12_readLine_51 _ hf
    · skip
      obtain ⟨_, σ67, q2, hf⟩ := bnd_some hf
      refine ag_call (m_X12_readStool q2) (fun _ h => by
            rcases h with h | h | h | h | h | h
            · exact (Or.inr (Or.inr (Or.inr (Or.inr (Or.inr (Or.inr (Or.inl h)))))))
            · exact (Or.inl h)
            · exact (Or.inr (Or.inr (Or.inr (Or.inr (Or.inr (Or.inr (Or.inr (Or.inl h))))))))
            · exact (Or.inr (Or.inr (Or.inr (Or.inr (Or.inr (Or.inr (Or.inr (Or.inr (Or.inl h)))))))))
            · exact (Or.inr (Or.inr (Or.inr (Or.inr (Or.inr (Or.inr (Or.inr (Or.inr (Or.inr (Or.inl h))))))))))
            · exact (Or.inr (Or.inr (Or.inr (Or.inr (Or.inr (Or.inr (Or.inr (Or.inr (Or.inr (Or.inr (Or.inl h)))))))))))) ?_
      exact m_X12_readLine_228 _ hf
theorem m_X12_readLine {N : Nat} {ρ : Nat → Nat → Nat} {this : Nat} {r : Int32} {σr : St} {σ : St} (hf : f_X12_readLine N ρ this σ = some (r, σr)) : Ag (fun p => p = this ∨ p = ρ this 11 ∨ p = ρ this 12 ∨ p = ρ this 13 ∨ p = ρ this 17 ∨ p = ρ this 19 ∨ p = ρ this 10 ∨ p = ρ this 32 ∨ p = ρ this 33 ∨ p = ρ this 34 ∨ p = ρ this 35 ∨ p = ρ this 28 ∨ p = ρ this 29 ∨ p = ρ this 30 ∨ p = ρ this 31) σ σr := by
  unfold f_X12_readLine at hf
  obtain ⟨_, σ70, q1, hf⟩ := bnd_some hf
  refine ag_call (m_X12_isWord q1) (fun _ h => h.elim) ?_
  rcases ite_some hf with ⟨_, hf⟩ | ⟨_, hf⟩
  · skip
    exact m_X12_readLine_26 _ hf
  · skip
    rcases ite_some hf with ⟨_, hf⟩ | ⟨_, hf⟩
    · skip
      exact m_X12_readLine_26 _ hf
    · skip
      obtain ⟨_, σ75, q2, hf⟩ := bnd_some hf
      refine ag_call (m_X12_readHearth q2) (fun _ h => by
            rcases h with h | h | h | h | h | h
            · exact (Or.inr (Or.inr (Or.inr (Or.inr (Or.inr (Or.inr (Or.inl h)))))))
            · exact (Or.inl h)
            · exact (Or.inr (Or.inr (Or.inr (Or.inr (Or.inr (Or.inr (Or.inr (Or.inr (Or.inr (Or.inr (Or.inr (Or.inl h))))))))))))
            · exact (Or.inr (Or.inr (Or.inr (Or.inr (Or.inr (Or.inr (Or.inr (Or.inr (Or.inr (Or.inr (Or.inr (Or.inr (Or.inl h)))))))))))))
            · exact (Or.inr (Or.inr (Or.inr (Or.inr (Or.inr (Or.inr (Or.inr (Or.inr (Or.inr (Or.inr (Or.inr (Or.inr (Or.inr (Or.inl h))))))))))))))
            · exact (Or.inr (Or.inr (Or.inr (Or.inr (Or.inr (Or.inr (Or.inr (Or.inr (Or.inr (Or.inr (Or.inr (Or.inr (Or.inr (Or.inr h))))))))))))))) ?_
      exact m_X12_readLine_228 _ hf
theorem m_X12_readAll_113 {N : Nat} {ρ : Nat → Nat → Nat} {this : Nat} {r : Int32} {σr : St} (σ : St) (hf : f_X12_readAll_113 N ρ this σ = some (r, σr)) : Ag (fun p => p = this ∨ p = ρ this 11 ∨ p = ρ this 12 ∨ p = ρ this 13 ∨ p = ρ this 17 ∨ p = ρ this 19 ∨ p = ρ this 10 ∨ p = ρ this 32 ∨ p = ρ this 33 ∨ p = ρ this 34 ∨ p = ρ this 35 ∨ p = ρ this 28 ∨ p = ρ this 29 ∨ p = ρ this 30 ∨ p = ρ this 31) σ σr := by
  unfold f_X12_readAll_113 at hf
  cases hf
  exact ag_refl
theorem k_X12_readAll_92 {N : Nat} {ρ : Nat → Nat → Nat} {this : Nat} {r : Int32} {σr : St} (rec92 : St → Option (Int32 × St)) (hrec92 : ∀ (σ : St), rec92 σ = some (r, σr) → Ag (fun p => p = this ∨ p = ρ this 11 ∨ p = ρ this 12 ∨ p = ρ this 13 ∨ p = ρ this 17 ∨ p = ρ this 19 ∨ p = ρ this 10 ∨ p = ρ this 32 ∨ p = ρ this 33 ∨ p = ρ this 34 ∨ p = ρ this 35 ∨ p = ρ this 28 ∨ p = ρ this 29 ∨ p = ρ this 30 ∨ p = ρ this 31) σ σr) (σ : St) (hf : b_X12_readAll_92 N ρ this rec92 σ = some (r, σr)) : Ag (fun p => p = this ∨ p = ρ this 11 ∨ p = ρ this 12 ∨ p = ρ this 13 ∨ p = ρ this 17 ∨ p = ρ this 19 ∨ p = ρ this 10 ∨ p = ρ this 32 ∨ p = ρ this 33 ∨ p = ρ this 34 ∨ p = ρ this 35 ∨ p = ρ this 28 ∨ p = ρ this 29 ∨ p = ρ this 30 ∨ p = ρ this 31) σ σr := by
  unfold b_X12_readAll_92 at hf
  rcases ite_some hf with ⟨_, hf⟩ | ⟨_, hf⟩
  · skip
    rcases ite_some hf with ⟨_, hf⟩ | ⟨_, hf⟩
    · skip
      exact m_X12_readAll_113 _ hf
    · skip
      obtain ⟨_, σ4, q1, hf⟩ := bnd_some hf
      refine ag_call (m_X12_readLine q1) (fun _ h => by
            rcases h with h | h | h | h | h | h | h | h | h | h | h | h | h | h | h
            · exact (Or.inl h)
            · exact (Or.inr (Or.inl h))
            · exact (Or.inr (Or.inr (Or.inl h)))
            · exact (Or.inr (Or.inr (Or.inr (Or.inl h))))
            · exact (Or.inr (Or.inr (Or.inr (Or.inr (Or.inl h)))))
            · exact (Or.inr (Or.inr (Or.inr (Or.inr (Or.inr (Or.inl h))))))
            · exact (Or.inr (Or.inr (Or.inr (Or.inr (Or.inr (Or.inr (Or.inl h)))))))
            · exact (Or.inr (Or.inr (Or.inr (Or.inr (Or.inr (Or.inr (Or.inr (Or.inl h))))))))
            · exact (Or.inr (Or.inr (Or.inr (Or.inr (Or.inr (Or.inr (Or.inr (Or.inr (Or.inl h)))))))))
            · exact (Or.inr (Or.inr (Or.inr (Or.inr (Or.inr (Or.inr (Or.inr (Or.inr (Or.inr (Or.inl h))))))))))
            · exact (Or.inr (Or.inr (Or.inr (Or.inr (Or.inr (Or.inr (Or.inr (Or.inr (Or.inr (Or.inr (Or.inl h)))))))))))
            · exact (Or.inr (Or.inr (Or.inr (Or.inr (Or.inr (Or.inr (Or.inr (Or.inr (Or.inr (Or.inr (Or.inr (Or.inl h))))))))))))
            · exact (Or.inr (Or.inr (Or.inr (Or.inr (Or.inr (Or.inr (Or.inr (Or.inr (Or.inr (Or.inr (Or.inr (Or.inr (Or.inl h)))))))))))))
            · exact (Or.inr (Or.inr (Or.inr (Or.inr (Or.inr (Or.inr (Or.inr (Or.inr (Or.inr (Or.inr (Or.inr (Or.inr (Or.inr (Or.inl h))))))))))))))
            · exact (Or.inr (Or.inr (Or.inr (Or.inr (Or.inr (Or.inr (Or.inr (Or.inr (Or.inr (Or.inr (Or.inr (Or.inr (Or.inr (Or.inr h))))))))))))))) ?_
      exact hrec92 _ hf
  · skip
    exact m_X12_readAll_113 _ hf
theorem m_X12_readAll_92 {N : Nat} {ρ : Nat → Nat → Nat} {this : Nat} {r : Int32} {σr : St} : ∀ (n : Nat) (σ : St), f_X12_readAll_92 N ρ this n σ = some (r, σr) → Ag (fun p => p = this ∨ p = ρ this 11 ∨ p = ρ this 12 ∨ p = ρ this 13 ∨ p = ρ this 17 ∨ p = ρ this 19 ∨ p = ρ this 10 ∨ p = ρ this 32 ∨ p = ρ this 33 ∨ p = ρ this 34 ∨ p = ρ this 35 ∨ p = ρ this 28 ∨ p = ρ this 29 ∨ p = ρ this 30 ∨ p = ρ this 31) σ σr := by
  intro n
  induction n with
  | zero => intro σ hf; cases hf
  | succ n ih => intro σ hf; exact k_X12_readAll_92 _ ih σ hf
theorem m_X12_readAll {N : Nat} {ρ : Nat → Nat → Nat} {this : Nat} {r : Int32} {σr : St} {σ : St} (hf : f_X12_readAll N ρ this σ = some (r, σr)) : Ag (fun p => p = this ∨ p = ρ this 11 ∨ p = ρ this 12 ∨ p = ρ this 13 ∨ p = ρ this 17 ∨ p = ρ this 19 ∨ p = ρ this 10 ∨ p = ρ this 32 ∨ p = ρ this 33 ∨ p = ρ this 34 ∨ p = ρ this 35 ∨ p = ρ this 28 ∨ p = ρ this 29 ∨ p = ρ this 30 ∨ p = ρ this 31) σ σr := by
  unfold f_X12_readAll at hf
  obtain ⟨σ6, eσ6, hf⟩ := nmd_some hf
  refine ag_I eσ6 (Or.inl rfl) ?_
  obtain ⟨σ7, eσ7, hf⟩ := nmd_some hf
  refine ag_I eσ7 (Or.inl rfl) ?_
  obtain ⟨σ8, eσ8, hf⟩ := nmd_some hf
  refine ag_I eσ8 (Or.inl rfl) ?_
  obtain ⟨σ9, eσ9, hf⟩ := nmd_some hf
  refine ag_I eσ9 (Or.inl rfl) ?_
  obtain ⟨σ10, eσ10, hf⟩ := nmd_some hf
  refine ag_I eσ10 (Or.inl rfl) ?_
  obtain ⟨σ11, eσ11, hf⟩ := nmd_some hf
  refine ag_I eσ11 (Or.inl rfl) ?_
  obtain ⟨σ12, eσ12, hf⟩ := nmd_some hf
  refine ag_I eσ12 (Or.inl rfl) ?_
  obtain ⟨σ13, eσ13, hf⟩ := nmd_some hf
  refine ag_I eσ13 (Or.inl rfl) ?_
  obtain ⟨σ14, eσ14, hf⟩ := nmd_some hf
  refine ag_I eσ14 (Or.inl rfl) ?_
  obtain ⟨σ15, eσ15, hf⟩ := nmd_some hf
  refine ag_I eσ15 (Or.inl rfl) ?_
  obtain ⟨σ16, eσ16, hf⟩ := nmd_some hf
  refine ag_I eσ16 (Or.inl rfl) ?_
  obtain ⟨σ17, eσ17, hf⟩ := nmd_some hf
  refine ag_I eσ17 (Or.inl rfl) ?_
  obtain ⟨σ18, eσ18, hf⟩ := nmd_some hf
  refine ag_I eσ18 (Or.inl rfl) ?_
  obtain ⟨_, hf⟩ := gd_some hf
  obtain ⟨σ20, eσ20, hf⟩ := nmd_some hf
  refine ag_I eσ20 (Or.inr (Or.inr (Or.inr (Or.inr (Or.inr (Or.inl rfl)))))) ?_
  obtain ⟨_, hf⟩ := gd_some hf
  obtain ⟨σ22, eσ22, hf⟩ := nmd_some hf
  refine ag_I eσ22 (Or.inr (Or.inr (Or.inr (Or.inr (Or.inr (Or.inl rfl)))))) ?_
  obtain ⟨σ23, eσ23, hf⟩ := nmd_some hf
  refine ag_I eσ23 (Or.inl rfl) ?_
  obtain ⟨_, σ25, q1, hf⟩ := bnd_some hf
  refine ag_call (m_X12_token q1) (fun _ h => (Or.inl h)) ?_
  exact m_X12_readAll_92 N _ hf
theorem k_X12_begin_23 {N : Nat} {ρ : Nat → Nat → Nat} {this : Nat} {r : Int32} {σr : St} (rec23 : Int32 → St → Option (Int32 × St)) (hrec23 : ∀ (x1 : Int32) (σ : St), rec23 x1 σ = some (r, σr) → Ag (fun p => p = ρ this 57) σ σr) (x1 : Int32) (σ : St) (hf : b_X12_begin_23 N ρ this rec23 x1 σ = some (r, σr)) : Ag (fun p => p = ρ this 57) σ σr := by
  unfold b_X12_begin_23 at hf
  rcases ite_some hf with ⟨_, hf⟩ | ⟨_, hf⟩
  · skip
    cases hf
    exact ag_refl
  · skip
    obtain ⟨_, hf⟩ := gd_some hf
    obtain ⟨_, hf⟩ := gd_some hf
    obtain ⟨σ4, eσ4, hf⟩ := nmd_some hf
    refine ag_I eσ4 rfl ?_
    obtain ⟨_, hf⟩ := gd_some hf
    obtain ⟨_, hf⟩ := gd_some hf
    obtain ⟨σ7, eσ7, hf⟩ := nmd_some hf
    refine ag_I eσ7 rfl ?_
    obtain ⟨_, hf⟩ := gd_some hf
    obtain ⟨σ9, eσ9, hf⟩ := nmd_some hf
    refine ag_I eσ9 rfl ?_
    exact hrec23 _ _ hf
theorem m_X12_begin_23 {N : Nat} {ρ : Nat → Nat → Nat} {this : Nat} {r : Int32} {σr : St} : ∀ (n : Nat) (x1 : Int32) (σ : St), f_X12_begin_23 N ρ this n x1 σ = some (r, σr) → Ag (fun p => p = ρ this 57) σ σr := by
  intro n
  induction n with
  | zero => intro x1 σ hf; cases hf
  | succ n ih => intro x1 σ hf; exact k_X12_begin_23 _ ih x1 σ hf
theorem k_X12_begin_2 {N : Nat} {ρ : Nat → Nat → Nat} {this : Nat} {r : Int32} {σr : St} (rec2 : Int32 → St → Option (Int32 × St)) (hrec2 : ∀ (x1 : Int32) (σ : St), rec2 x1 σ = some (r, σr) → Ag (fun p => p = ρ this 57) σ σr) (x1 : Int32) (σ : St) (hf : b_X12_begin_2 N ρ this rec2 x1 σ = some (r, σr)) : Ag (fun p => p = ρ this 57) σ σr := by
  unfold b_X12_begin_2 at hf
  rcases ite_some hf with ⟨_, hf⟩ | ⟨_, hf⟩
  · skip
    exact m_X12_begin_23 N _ _ hf
  · skip
    obtain ⟨_, hf⟩ := gd_some hf
    obtain ⟨σ12, eσ12, hf⟩ := nmd_some hf
    refine ag_I eσ12 rfl ?_
    exact hrec2 _ _ hf
theorem m_X12_begin_2 {N : Nat} {ρ : Nat → Nat → Nat} {this : Nat} {r : Int32} {σr : St} : ∀ (n : Nat) (x1 : Int32) (σ : St), f_X12_begin_2 N ρ this n x1 σ = some (r, σr) → Ag (fun p => p = ρ this 57) σ σr := by
  intro n
  induction n with
  | zero => intro x1 σ hf; cases hf
  | succ n ih => intro x1 σ hf; exact k_X12_begin_2 _ ih x1 σ hf
theorem m_X12_begin {N : Nat} {ρ : Nat → Nat → Nat} {this : Nat} {r : Int32} {σr : St} {σ : St} (hf : f_X12_begin N ρ this σ = some (r, σr)) : Ag (fun p => p = ρ this 57) σ σr := by
  unfold f_X12_begin at hf
  exact m_X12_begin_2 N _ _ hf
theorem k_X12_keepAir_2 {N : Nat} {ρ : Nat → Nat → Nat} {this : Nat} {r : Int32} {σr : St} (rec2 : Int32 → St → Option (Int32 × St)) (hrec2 : ∀ (x1 : Int32) (σ : St), rec2 x1 σ = some (r, σr) → Ag (fun p => p = ρ this 56) σ σr) (x1 : Int32) (σ : St) (hf : b_X12_keepAir_2 N ρ this rec2 x1 σ = some (r, σr)) : Ag (fun p => p = ρ this 56) σ σr := by
  unfold b_X12_keepAir_2 at hf
  rcases ite_some hf with ⟨_, hf⟩ | ⟨_, hf⟩
  · skip
    cases hf
    exact ag_refl
  · skip
    obtain ⟨_, hf⟩ := gd_some hf
    obtain ⟨_, hf⟩ := gd_some hf
    obtain ⟨σ4, eσ4, hf⟩ := nmd_some hf
    refine ag_I eσ4 rfl ?_
    exact hrec2 _ _ hf
theorem m_X12_keepAir_2 {N : Nat} {ρ : Nat → Nat → Nat} {this : Nat} {r : Int32} {σr : St} : ∀ (n : Nat) (x1 : Int32) (σ : St), f_X12_keepAir_2 N ρ this n x1 σ = some (r, σr) → Ag (fun p => p = ρ this 56) σ σr := by
  intro n
  induction n with
  | zero => intro x1 σ hf; cases hf
  | succ n ih => intro x1 σ hf; exact k_X12_keepAir_2 _ ih x1 σ hf
theorem m_X12_keepAir {N : Nat} {ρ : Nat → Nat → Nat} {this : Nat} {r : Int32} {σr : St} {σ : St} (hf : f_X12_keepAir N ρ this σ = some (r, σr)) : Ag (fun p => p = ρ this 56) σ σr := by
  unfold f_X12_keepAir at hf
  exact m_X12_keepAir_2 N _ _ hf
theorem k_X12_chapel_91 {N : Nat} {ρ : Nat → Nat → Nat} {this : Nat} {r : Int32} {σr : St} (rec55 : Int32 → St → Option (Int32 × St)) (hrec55 : ∀ (x1 : Int32) (σ : St), rec55 x1 σ = some (r, σr) → Ag (fun p => p = ρ this 14 ∨ p = ρ this 15 ∨ p = ρ this 16 ∨ p = ρ this 80 ∨ p = ρ this 57 ∨ p = ρ this 56 ∨ p = this ∨ p = ρ this 40 ∨ p = ρ this 41 ∨ p = ρ this 42 ∨ p = ρ this 43 ∨ p = ρ this 36 ∨ p = ρ this 37 ∨ p = ρ this 38 ∨ p = ρ this 39 ∨ p = ρ this 11 ∨ p = ρ this 12 ∨ p = ρ this 13 ∨ p = ρ this 17 ∨ p = ρ this 19 ∨ p = ρ this 10 ∨ p = ρ this 32 ∨ p = ρ this 33 ∨ p = ρ this 34 ∨ p = ρ this 35 ∨ p = ρ this 28 ∨ p = ρ this 29 ∨ p = ρ this 30 ∨ p = ρ this 31) σ σr) (rec91 : Int32 → Int32 → St → Option (Int32 × St)) (hrec91 : ∀ (x1 : Int32) (x2 : Int32) (σ : St), rec91 x1 x2 σ = some (r, σr) → Ag (fun p => p = ρ this 14 ∨ p = ρ this 15 ∨ p = ρ this 16 ∨ p = ρ this 80 ∨ p = ρ this 57 ∨ p = ρ this 56 ∨ p = this ∨ p = ρ this 40 ∨ p = ρ this 41 ∨ p = ρ this 42 ∨ p = ρ this 43 ∨ p = ρ this 36 ∨ p = ρ this 37 ∨ p = ρ this 38 ∨ p = ρ this 39 ∨ p = ρ this 11 ∨ p = ρ this 12 ∨ p = ρ this 13 ∨ p = ρ this 17 ∨ p = ρ this 19 ∨ p = ρ this 10 ∨ p = ρ this 32 ∨ p = ρ this 33 ∨ p = ρ this 34 ∨ p = ρ this 35 ∨ p = ρ this 28 ∨ p = ρ this 29 ∨ p = ρ this 30 ∨ p = ρ this 31) σ σr) (x1 : Int32) (x2 : Int32) (σ : St) (hf : b_X12_chapel_91 N ρ this rec55 rec91 x1 x2 σ = some (r, σr)) : Ag (fun p => p = ρ this 14 ∨ p = ρ this 15 ∨ p = ρ this 16 ∨ p = ρ this 80 ∨ p = ρ this 57 ∨ p = ρ this 56 ∨ p = this ∨ p = ρ this 40 ∨ p = ρ this 41 ∨ p = ρ this 42 ∨ p = ρ this 43 ∨ p = ρ this 36 ∨ p = ρ this 37 ∨ p = ρ this 38 ∨ p = ρ this 39 ∨ p = ρ this 11 ∨ p = ρ this 12 ∨ p = ρ this 13 ∨ p = ρ this 17 ∨ p = ρ this 19 ∨ p = ρ this 10 ∨ p = ρ this 32 ∨ p = ρ this 33 ∨ p = ρ this 34 ∨ p = ρ this 35 ∨ p = ρ this 28 ∨ p = ρ this 29 ∨ p = ρ this 30 ∨ p = ρ this 31) σ σr := by
  unfold b_X12_chapel_91 at hf
  obtain ⟨_, hf⟩ := gd_some hf
  rcases ite_some hf with ⟨_, hf⟩ | ⟨_, hf⟩
  · skip
    exact hrec55 _ _ hf
  · skip
    obtain ⟨_, hf⟩ := gd_some hf
    obtain ⟨_, hf⟩ := gd_some hf
    obtain ⟨σ5, eσ5, hf⟩ := nmd_some hf
    refine ag_I eσ5 (Or.inl rfl) ?_
    obtain ⟨_, hf⟩ := gd_some hf
    obtain ⟨_, hf⟩ := gd_some hf
    obtain ⟨σ8, eσ8, hf⟩ := nmd_some hf
    refine ag_I eσ8 (Or.inr (Or.inl rfl)) ?_
    exact hrec91 _ _ _ hf
theorem m_X12_chapel_91 {N : Nat} {ρ : Nat → Nat → Nat} {this : Nat} {r : Int32} {σr : St} (rec55 : Int32 → St → Option (Int32 × St)) (hrec55 : ∀ (x1 : Int32) (σ : St), rec55 x1 σ = some (r, σr) → Ag (fun p => p = ρ this 14 ∨ p = ρ this 15 ∨ p = ρ this 16 ∨ p = ρ this 80 ∨ p = ρ this 57 ∨ p = ρ this 56 ∨ p = this ∨ p = ρ this 40 ∨ p = ρ this 41 ∨ p = ρ this 42 ∨ p = ρ this 43 ∨ p = ρ this 36 ∨ p = ρ this 37 ∨ p = ρ this 38 ∨ p = ρ this 39 ∨ p = ρ this 11 ∨ p = ρ this 12 ∨ p = ρ this 13 ∨ p = ρ this 17 ∨ p = ρ this 19 ∨ p = ρ this 10 ∨ p = ρ this 32 ∨ p = ρ this 33 ∨ p = ρ this 34 ∨ p = ρ this 35 ∨ p = ρ this 28 ∨ p = ρ this 29 ∨ p = ρ this 30 ∨ p = ρ this 31) σ σr) : ∀ (n : Nat) (x1 : Int32) (x2 : Int32) (σ : St), f_X12_chapel_91 N ρ this rec55 n x1 x2 σ = some (r, σr) → Ag (fun p => p = ρ this 14 ∨ p = ρ this 15 ∨ p = ρ this 16 ∨ p = ρ this 80 ∨ p = ρ this 57 ∨ p = ρ this 56 ∨ p = this ∨ p = ρ this 40 ∨ p = ρ this 41 ∨ p = ρ this 42 ∨ p = ρ this 43 ∨ p = ρ this 36 ∨ p = ρ this 37 ∨ p = ρ this 38 ∨ p = ρ this 39 ∨ p = ρ this 11 ∨ p = ρ this 12 ∨ p = ρ this 13 ∨ p = ρ this 17 ∨ p = ρ this 19 ∨ p = ρ this 10 ∨ p = ρ this 32 ∨ p = ρ this 33 ∨ p = ρ this 34 ∨ p = ρ this 35 ∨ p = ρ this 28 ∨ p = ρ this 29 ∨ p = ρ this 30 ∨ p = ρ this 31) σ σr := by
  intro n
  induction n with
  | zero => intro x1 x2 σ hf; cases hf
  | succ n ih => intro x1 x2 σ hf; exact k_X12_chapel_91 rec55 hrec55 _ ih x1 x2 σ hf
theorem m_X12_chapel_84 {N : Nat} {ρ : Nat → Nat → Nat} {this : Nat} {r : Int32} {σr : St} (rec55 : Int32 → St → Option (Int32 × St)) (hrec55 : ∀ (x1 : Int32) (σ : St), rec55 x1 σ = some (r, σr) → Ag (fun p => p = ρ this 14 ∨ p = ρ this 15 ∨ p = ρ this 16 ∨ p = ρ this 80 ∨ p = ρ this 57 ∨ p = ρ this 56 ∨ p = this ∨ p = ρ this 40 ∨ p = ρ this 41 ∨ p = ρ this 42 ∨ p = ρ this 43 ∨ p = ρ this 36 ∨ p = ρ this 37 ∨ p = ρ this 38 ∨ p = ρ this 39 ∨ p = ρ this 11 ∨ p = ρ this 12 ∨ p = ρ this 13 ∨ p = ρ this 17 ∨ p = ρ this 19 ∨ p = ρ this 10 ∨ p = ρ this 32 ∨ p = ρ this 33 ∨ p = ρ this 34 ∨ p = ρ this 35 ∨ p = ρ this 28 ∨ p = ρ this 29 ∨ p = ρ this 30 ∨ p = ρ this 31) σ σr) (x1 : Int32) (s0 : Int32) (s1 : Int32) (σ : St) (hf : f_X12_chapel_84 N ρ this rec55 x1 s0 s1 σ = some (r, σr)) : Ag (fun p => p = ρ this 14 ∨ p = ρ this 15 ∨ p = ρ this 16 ∨ p = ρ this 80 ∨ p = ρ this 57 ∨ p = ρ this 56 ∨ p = this ∨ p = ρ this 40 ∨ p = ρ this 41 ∨ p = ρ this 42 ∨ p = ρ this 43 ∨ p = ρ this 36 ∨ p = ρ this 37 ∨ p = ρ this 38 ∨ p = ρ this 39 ∨ p = ρ this 11 ∨ p = ρ this 12 ∨ p = ρ this 13 ∨ p = ρ this 17 ∨ p = ρ this 19 ∨ p = ρ this 10 ∨ p = ρ this 32 ∨ p = ρ this 33 ∨ p = ρ this 34 ∨ p = ρ this 35 ∨ p = ρ this 28 ∨ p = ρ this 29 ∨ p = ρ this 30 ∨ p = ρ this 31) σ σr := by
  unfold f_X12_chapel_84 at hf
  obtain ⟨_, hf⟩ := gd_some hf
  obtain ⟨σ10, eσ10, hf⟩ := nmd_some hf
  refine ag_I eσ10 (Or.inr (Or.inr (Or.inl rfl))) ?_
  obtain ⟨y11, ey11, hf⟩ := nmd_some hf
  exact m_X12_chapel_91 rec55 hrec55 N _ _ _ hf
theorem k_X12_chapel_312 {N : Nat} {ρ : Nat → Nat → Nat} {this : Nat} {r : Int32} {σr : St} (rec312 : Int32 → St → Option (Int32 × St)) (hrec312 : ∀ (x1 : Int32) (σ : St), rec312 x1 σ = some (r, σr) → Ag (fun p => p = ρ this 14 ∨ p = ρ this 15 ∨ p = ρ this 16 ∨ p = ρ this 80 ∨ p = ρ this 57 ∨ p = ρ this 56 ∨ p = this ∨ p = ρ this 40 ∨ p = ρ this 41 ∨ p = ρ this 42 ∨ p = ρ this 43 ∨ p = ρ this 36 ∨ p = ρ this 37 ∨ p = ρ this 38 ∨ p = ρ this 39 ∨ p = ρ this 11 ∨ p = ρ this 12 ∨ p = ρ this 13 ∨ p = ρ this 17 ∨ p = ρ this 19 ∨ p = ρ this 10 ∨ p = ρ this 32 ∨ p = ρ this 33 ∨ p = ρ this 34 ∨ p = ρ this 35 ∨ p = ρ this 28 ∨ p = ρ this 29 ∨ p = ρ this 30 ∨ p = ρ this 31) σ σr) (x1 : Int32) (σ : St) (hf : b_X12_chapel_312 N ρ this rec312 x1 σ = some (r, σr)) : Ag (fun p => p = ρ this 14 ∨ p = ρ this 15 ∨ p = ρ this 16 ∨ p = ρ this 80 ∨ p = ρ this 57 ∨ p = ρ this 56 ∨ p = this ∨ p = ρ this 40 ∨ p = ρ this 41 ∨ p = ρ this 42 ∨ p = ρ this 43 ∨ p = ρ this 36 ∨ p = ρ this 37 ∨ p = ρ this 38 ∨ p = ρ this 39 ∨ p = ρ this 11 ∨ p = ρ this 12 ∨ p = ρ this 13 ∨ p = ρ this 17 ∨ p = ρ this 19 ∨ p = ρ this 10 ∨ p = ρ this 32 ∨ p = ρ this 33 ∨ p = ρ this 34 ∨ p = ρ this 35 ∨ p = ρ this 28 ∨ p = ρ this 29 ∨ p = ρ this 30 ∨ p = ρ this 31) σ σr := by
  unfold b_X12_chapel_312 at hf
  rcases ite_some hf with ⟨_, hf⟩ | ⟨_, hf⟩
  · skip
    cases hf
    exact ag_refl
  · skip
    obtain ⟨_, hf⟩ := gd_some hf
    obtain ⟨σ14, eσ14, hf⟩ := nmd_some hf
    refine ag_I eσ14 (Or.inr (Or.inr (Or.inr (Or.inl rfl)))) ?_
    exact hrec312 _ _ hf
theorem m_X12_chapel_312 {N : Nat} {ρ : Nat → Nat → Nat} {this : Nat} {r : Int32} {σr : St} : ∀ (n : Nat) (x1 : Int32) (σ : St), f_X12_chapel_312 N ρ this n x1 σ = some (r, σr) → Ag (fun p => p = ρ this 14 ∨ p = ρ this 15 ∨ p = ρ this 16 ∨ p = ρ this 80 ∨ p = ρ this 57 ∨ p = ρ this 56 ∨ p = this ∨ p = ρ this 40 ∨ p = ρ this 41 ∨ p = ρ this 42 ∨ p = ρ this 43 ∨ p = ρ this 36 ∨ p = ρ this 37 ∨ p = ρ this 38 ∨ p = ρ this 39 ∨ p = ρ this 11 ∨ p = ρ this 12 ∨ p = ρ this 13 ∨ p = ρ this 17 ∨ p = ρ this 19 ∨ p = ρ this 10 ∨ p = ρ this 32 ∨ p = ρ this 33 ∨ p = ρ this 34 ∨ p = ρ this 35 ∨ p = ρ this 28 ∨ p = ρ this 29 ∨ p = ρ this 30 ∨ p = ρ this 31) σ σr := by
  intro n
  induction n with
  | zero => intro x1 σ hf; cases hf
  | succ n ih => intro x1 σ hf; exact k_X12_chapel_312 _ ih x1 σ hf
theorem k_X12_chapel_209 {N : Nat} {ρ : Nat → Nat → Nat} {this : Nat} {r : Int32} {σr : St} (rec209 : Int32 → St → Option (Int32 × St)) (hrec209 : ∀ (x1 : Int32) (σ : St), rec209 x1 σ = some (r, σr) → Ag (fun p => p = ρ this 14 ∨ p = ρ this 15 ∨ p = ρ this 16 ∨ p = ρ this 80 ∨ p = ρ this 57 ∨ p = ρ this 56 ∨ p = this ∨ p = ρ this 40 ∨ p = ρ this 41 ∨ p = ρ this 42 ∨ p = ρ this 43 ∨ p = ρ this 36 ∨ p = ρ this 37 ∨ p = ρ this 38 ∨ p = ρ this 39 ∨ p = ρ this 11 ∨ p = ρ this 12 ∨ p = ρ this 13 ∨ p = ρ this 17 ∨ p = ρ this 19 ∨ p = ρ this 10 ∨ p = ρ this 32 ∨ p = ρ this 33 ∨ p = ρ this 34 ∨ p = ρ this 35 ∨ p = ρ this 28 ∨ p = ρ this 29 ∨ p = ρ this 30 ∨ p = ρ this 31) σ σr) (x1 : Int32) (σ : St) (hf : b_X12_chapel_209 N ρ this rec209 x1 σ = some (r, σr)) : Ag (fun p => p = ρ this 14 ∨ p = ρ this 15 ∨ p = ρ this 16 ∨ p = ρ this 80 ∨ p = ρ this 57 ∨ p = ρ this 56 ∨ p = this ∨ p = ρ this 40 ∨ p = ρ this 41 ∨ p = ρ this 42 ∨ p = ρ this 43 ∨ p = ρ this 36 ∨ p = ρ this 37 ∨ p = ρ this 38 ∨ p = ρ this 39 ∨ p = ρ this 11 ∨ p = ρ this 12 ∨ p = ρ this 13 ∨ p = ρ this 17 ∨ p = ρ this 19 ∨ p = ρ this 10 ∨ p = ρ this 32 ∨ p = ρ this 33 ∨ p = ρ this 34 ∨ p = ρ this 35 ∨ p = ρ this 28 ∨ p = ρ this 29 ∨ p = ρ this 30 ∨ p = ρ this 31) σ σr := by
  unfold b_X12_chapel_209 at hf
  rcases ite_some hf with ⟨_, hf⟩ | ⟨_, hf⟩
  · skip
    obtain ⟨_, σ17, q1, hf⟩ := bnd_some hf
    refine ag_call (m_X12_begin q1) (fun _ h => (Or.inr (Or.inr (Or.inr (Or.inr (Or.inl h)))))) ?_
    obtain ⟨_, hf⟩ := gd_some hf
    obtain ⟨σ20, eσ20, hf⟩ := nmd_some hf
    refine ag_I eσ20 (Or.inr (Or.inr (Or.inr (Or.inr (Or.inl rfl))))) ?_
    obtain ⟨_, σ22, q2, hf⟩ := bnd_some hf
    refine ag_call (m_X12_keepAir q2) (fun _ h => (Or.inr (Or.inr (Or.inr (Or.inr (Or.inr (Or.inl h))))))) ?_
    obtain ⟨σ24, eσ24, hf⟩ := nmd_some hf
    refine ag_I eσ24 (Or.inr (Or.inr (Or.inr (Or.inr (Or.inr (Or.inr (Or.inl rfl))))))) ?_
    obtain ⟨σ25, eσ25, hf⟩ := nmd_some hf
    refine ag_I eσ25 (Or.inr (Or.inr (Or.inr (Or.inr (Or.inr (Or.inr (Or.inl rfl))))))) ?_
    obtain ⟨σ26, eσ26, hf⟩ := nmd_some hf
    refine ag_I eσ26 (Or.inr (Or.inr (Or.inr (Or.inr (Or.inr (Or.inr (Or.inl rfl))))))) ?_
    obtain ⟨σ27, eσ27, hf⟩ := nmd_some hf
    refine ag_I eσ27 (Or.inr (Or.inr (Or.inr (Or.inr (Or.inr (Or.inr (Or.inl rfl))))))) ?_
    exact m_X12_chapel_312 N _ _ hf
  · skip
    obtain ⟨_, hf⟩ := gd_some hf
    obtain ⟨_, hf⟩ := gd_some hf
    obtain ⟨σ30, eσ30, hf⟩ := nmd_some hf
    refine ag_I eσ30 (Or.inr (Or.inr (Or.inr (Or.inr (Or.inr (Or.inr (Or.inr (Or.inl rfl)))))))) ?_
    obtain ⟨_, hf⟩ := gd_some hf
    obtain ⟨_, hf⟩ := gd_some hf
    obtain ⟨σ33, eσ33, hf⟩ := nmd_some hf
    refine ag_I eσ33 (Or.inr (Or.inr (Or.inr (Or.inr (Or.inr (Or.inr (Or.inr (Or.inr (Or.inl rfl))))))))) ?_
    obtain ⟨_, hf⟩ := gd_some hf
    obtain ⟨_, hf⟩ := gd_some hf
    obtain ⟨σ36, eσ36, hf⟩ := nmd_some hf
    refine ag_I eσ36 (Or.inr (Or.inr (Or.inr (Or.inr (Or.inr (Or.inr (Or.inr (Or.inr (Or.inr (Or.inl rfl)))))))))) ?_
    obtain ⟨_, hf⟩ := gd_some hf
    obtain ⟨_, hf⟩ := gd_some hf
    obtain ⟨σ39, eσ39, hf⟩ := nmd_some hf
    refine ag_I eσ39 (Or.inr (Or.inr (Or.inr (Or.inr (Or.inr (Or.inr (Or.inr (Or.inr (Or.inr (Or.inr (Or.inl rfl))))))))))) ?_
    exact hrec209 _ _ hf
theorem m_X12_chapel_209 {N : Nat} {ρ : Nat → Nat → Nat} {this : Nat} {r : Int32} {σr : St} : ∀ (n : Nat) (x1 : Int32) (σ : St), f_X12_chapel_209 N ρ this n x1 σ = some (r, σr) → Ag (fun p => p = ρ this 14 ∨ p = ρ this 15 ∨ p = ρ this 16 ∨ p = ρ this 80 ∨ p = ρ this 57 ∨ p = ρ this 56 ∨ p = this ∨ p = ρ this 40 ∨ p = ρ this 41 ∨ p = ρ this 42 ∨ p = ρ this 43 ∨ p = ρ this 36 ∨ p = ρ this 37 ∨ p = ρ this 38 ∨ p = ρ this 39 ∨ p = ρ this 11 ∨ p = ρ this 12 ∨ p = ρ this 13 ∨ p = ρ this 17 ∨ p = ρ this 19 ∨ p = ρ this 10 ∨ p = ρ this 32 ∨ p = ρ this 33 ∨ p = ρ this 34 ∨ p = ρ this 35 ∨ p = ρ this 28 ∨ p = ρ this 29 ∨ p = ρ this 30 ∨ p = ρ this 31) σ σr := by
  intro n
  induction n with
  | zero => intro x1 σ hf; cases hf
  | succ n ih => intro x1 σ hf; exact k_X12_chapel_209 _ ih x1 σ hf
theorem k_X12_chapel_145 {N : Nat} {ρ : Nat → Nat → Nat} {this : Nat} {r : Int32} {σr : St} (rec145 : Int32 → St → Option (Int32 × St)) (hrec145 : ∀ (x1 : Int32) (σ : St), rec145 x1 σ = some (r, σr) → Ag (fun p => p = ρ this 14 ∨ p = ρ this 15 ∨ p = ρ this 16 ∨ p = ρ this 80 ∨ p = ρ this 57 ∨ p = ρ this 56 ∨ p = this ∨ p = ρ this 40 ∨ p = ρ this 41 ∨ p = ρ this 42 ∨ p = ρ this 43 ∨ p = ρ this 36 ∨ p = ρ this 37 ∨ p = ρ this 38 ∨ p = ρ this 39 ∨ p = ρ this 11 ∨ p = ρ this 12 ∨ p = ρ this 13 ∨ p = ρ this 17 ∨ p = ρ this 19 ∨ p = ρ this 10 ∨ p = ρ this 32 ∨ p = ρ this 33 ∨ p = ρ this 34 ∨ p = ρ this 35 ∨ p = ρ this 28 ∨ p = ρ this 29 ∨ p = ρ this 30 ∨ p = ρ this 31) σ σr) (x1 : Int32) (σ : St) (hf : b_X12_chapel_145 N ρ this rec145 x1 σ = some (r, σr)) : Ag (fun p => p = ρ this 14 ∨ p = ρ this 15 ∨ p = ρ this 16 ∨ p = ρ this 80 ∨ p = ρ this 57 ∨ p = ρ this 56 ∨ p = this ∨ p = ρ this 40 ∨ p = ρ this 41 ∨ p = ρ this 42 ∨ p = ρ this 43 ∨ p = ρ this 36 ∨ p = ρ this 37 ∨ p = ρ this 38 ∨ p = ρ this 39 ∨ p = ρ this 11 ∨ p = ρ this 12 ∨ p = ρ this 13 ∨ p = ρ this 17 ∨ p = ρ this 19 ∨ p = ρ this 10 ∨ p = ρ this 32 ∨ p = ρ this 33 ∨ p = ρ this 34 ∨ p = ρ this 35 ∨ p = ρ this 28 ∨ p = ρ this 29 ∨ p = ρ this 30 ∨ p = ρ this 31) σ σr := by
  unfold b_X12_chapel_145 at hf
  rcases ite_some hf with ⟨_, hf⟩ | ⟨_, hf⟩
  · skip
    exact m_X12_chapel_209 N _ _ hf
  · skip
    obtain ⟨_, hf⟩ := gd_some hf
    obtain ⟨_, hf⟩ := gd_some hf
    obtain ⟨σ43, eσ43, hf⟩ := nmd_some hf
    refine ag_I eσ43 (Or.inr (Or.inr (Or.inr (Or.inr (Or.inr (Or.inr (Or.inr (Or.inr (Or.inr (Or.inr (Or.inr (Or.inl rfl)))))))))))) ?_
    obtain ⟨_, hf⟩ := gd_some hf
    obtain ⟨_, hf⟩ := gd_some hf
    obtain ⟨σ46, eσ46, hf⟩ := nmd_some hf
    refine ag_I eσ46 (Or.inr (Or.inr (Or.inr (Or.inr (Or.inr (Or.inr (Or.inr (Or.inr (Or.inr (Or.inr (Or.inr (Or.inr (Or.inl rfl))))))))))))) ?_
    obtain ⟨_, hf⟩ := gd_some hf
    obtain ⟨_, hf⟩ := gd_some hf
    obtain ⟨σ49, eσ49, hf⟩ := nmd_some hf
    refine ag_I eσ49 (Or.inr (Or.inr (Or.inr (Or.inr (Or.inr (Or.inr (Or.inr (Or.inr (Or.inr (Or.inr (Or.inr (Or.inr (Or.inr (Or.inl rfl)))))))))))))) ?_
    obtain ⟨_, hf⟩ := gd_some hf
    obtain ⟨_, hf⟩ := gd_some hf
    obtain ⟨σ52, eσ52, hf⟩ := nmd_some hf
    refine ag_I eσ52 (Or.inr (Or.inr (Or.inr (Or.inr (Or.inr (Or.inr (Or.inr (Or.inr (Or.inr (Or.inr (Or.inr (Or.inr (Or.inr (Or.inr (Or.inl rfl))))))))))))))) ?_
    exact hrec145 _ _ hf
theorem m_X12_chapel_145 {N : Nat} {ρ : Nat → Nat → Nat} {this : Nat} {r : Int32} {σr : St} : ∀ (n : Nat) (x1 : Int32) (σ : St), f_X12_chapel_145 N ρ this n x1 σ = some (r, σr) → Ag (fun p => p = ρ this 14 ∨ p = ρ this 15 ∨ p = ρ this 16 ∨ p = ρ this 80 ∨ p = ρ this 57 ∨ p = ρ this 56 ∨ p = this ∨ p = ρ this 40 ∨ p = ρ this 41 ∨ p = ρ this 42 ∨ p = ρ this 43 ∨ p = ρ this 36 ∨ p = ρ this 37 ∨ p = ρ this 38 ∨ p = ρ this 39 ∨ p = ρ this 11 ∨ p = ρ this 12 ∨ p = ρ this 13 ∨ p = ρ this 17 ∨ p = ρ this 19 ∨ p = ρ this 10 ∨ p = ρ this 32 ∨ p = ρ this 33 ∨ p = ρ this 34 ∨ p = ρ this 35 ∨ p = ρ this 28 ∨ p = ρ this 29 ∨ p = ρ this 30 ∨ p = ρ this 31) σ σr := by
  intro n
  induction n with
  | zero => intro x1 σ hf; cases hf
  | succ n ih => intro x1 σ hf; exact k_X12_chapel_145 _ ih x1 σ hf
theorem k_X12_chapel_55 {N : Nat} {ρ : Nat → Nat → Nat} {this : Nat} {r : Int32} {σr : St} (rec55 : Int32 → St → Option (Int32 × St)) (hrec55 : ∀ (x1 : Int32) (σ : St), rec55 x1 σ = some (r, σr) → Ag (fun p => p = ρ this 14 ∨ p = ρ this 15 ∨ p = ρ this 16 ∨ p = ρ this 80 ∨ p = ρ this 57 ∨ p = ρ this 56 ∨ p = this ∨ p = ρ this 40 ∨ p = ρ this 41 ∨ p = ρ this 42 ∨ p = ρ this 43 ∨ p = ρ this 36 ∨ p = ρ this 37 ∨ p = ρ this 38 ∨ p = ρ this 39 ∨ p = ρ this 11 ∨ p = ρ this 12 ∨ p = ρ this 13 ∨ p = ρ this 17 ∨ p = ρ this 19 ∨ p = ρ this 10 ∨ p = ρ this 32 ∨ p = ρ this 33 ∨ p = ρ this 34 ∨ p = ρ this 35 ∨ p = ρ this 28 ∨ p = ρ this 29 ∨ p = ρ this 30 ∨ p = ρ this 31) σ σr) (x1 : Int32) (σ : St) (hf : b_X12_chapel_55 N ρ this rec55 x1 σ = some (r, σr)) : Ag (fun p => p = ρ this 14 ∨ p = ρ this 15 ∨ p = ρ this 16 ∨ p = ρ this 80 ∨ p = ρ this 57 ∨ p = ρ this 56 ∨ p = this ∨ p = ρ this 40 ∨ p = ρ this 41 ∨ p = ρ this 42 ∨ p = ρ this 43 ∨ p = ρ this 36 ∨ p = ρ this 37 ∨ p = ρ this 38 ∨ p = ρ this 39 ∨ p = ρ this 11 ∨ p = ρ this 12 ∨ p = ρ this 13 ∨ p = ρ this 17 ∨ p = ρ this 19 ∨ p = ρ this 10 ∨ p = ρ this 32 ∨ p = ρ this 33 ∨ p = ρ this 34 ∨ p = ρ this 35 ∨ p = ρ this 28 ∨ p = ρ this 29 ∨ p = ρ this 30 ∨ p = ρ this 31) σ σr := by
  unfold b_X12_chapel_55 at hf
  rcases ite_some hf with ⟨_, hf⟩ | ⟨_, hf⟩
  · skip
    exact m_X12_chapel_145 N _ _ hf
  · skip
    obtain ⟨_, hf⟩ := gd_some hf
    rcases ite_some hf with ⟨_, hf⟩ | ⟨_, hf⟩
    · skip
      exact m_X12_chapel_84 rec55 hrec55 _ _ _ _ hf
    · skip
      obtain ⟨_, hf⟩ := gd_some hf
      exact m_X12_chapel_84 rec55 hrec55 _ _ _ _ hf
theorem m_X12_chapel_55 {N : Nat} {ρ : Nat → Nat → Nat} {this : Nat} {r : Int32} {σr : St} : ∀ (n : Nat) (x1 : Int32) (σ : St), f_X12_chapel_55 N ρ this n x1 σ = some (r, σr) → Ag (fun p => p = ρ this 14 ∨ p = ρ this 15 ∨ p = ρ this 16 ∨ p = ρ this 80 ∨ p = ρ this 57 ∨ p = ρ this 56 ∨ p = this ∨ p = ρ this 40 ∨ p = ρ this 41 ∨ p = ρ this 42 ∨ p = ρ this 43 ∨ p = ρ this 36 ∨ p = ρ this 37 ∨ p = ρ this 38 ∨ p = ρ this 39 ∨ p = ρ this 11 ∨ p = ρ this 12 ∨ p = ρ this 13 ∨ p = ρ this 17 ∨ p = ρ this 19 ∨ p = ρ this 10 ∨ p = ρ this 32 ∨ p = ρ this 33 ∨ p = ρ this 34 ∨ p = ρ this 35 ∨ p = ρ this 28 ∨ p = ρ this 29 ∨ p = ρ this 30 ∨ p = ρ this 31) σ σr := by
  intro n
  induction n with
  | zero => intro x1 σ hf; cases hf
  | succ n ih => intro x1 σ hf; exact k_X12_chapel_55 _ ih x1 σ hf
theorem m_X12_chapel {N : Nat} {ρ : Nat → Nat → Nat} {this : Nat} {r : Int32} {σr : St} {σ : St} (hf : f_X12_chapel N ρ this σ = some (r, σr)) : Ag (fun p => p = ρ this 14 ∨ p = ρ this 15 ∨ p = ρ this 16 ∨ p = ρ this 80 ∨ p = ρ this 57 ∨ p = ρ this 56 ∨ p = this ∨ p = ρ this 40 ∨ p = ρ this 41 ∨ p = ρ this 42 ∨ p = ρ this 43 ∨ p = ρ this 36 ∨ p = ρ this 37 ∨ p = ρ this 38 ∨ p = ρ this 39 ∨ p = ρ this 11 ∨ p = ρ this 12 ∨ p = ρ this 13 ∨ p = ρ this 17 ∨ p = ρ this 19 ∨ p = ρ this 10 ∨ p = ρ this 32 ∨ p = ρ this 33 ∨ p = ρ this 34 ∨ p = ρ this 35 ∨ p = ρ this 28 ∨ p = ρ this 29 ∨ p = ρ this 30 ∨ p = ρ this 31) σ σr := by
  unfold f_X12_chapel at hf
  obtain ⟨_, σ58, q1, hf⟩ := bnd_some hf
  refine ag_call (m_X12_readAll q1) (fun _ h => by
        rcases h with h | h | h | h | h | h | h | h | h | h | h | h | h | h | h
        · exact (Or.inr (Or.inr (Or.inr (Or.inr (Or.inr (Or.inr (Or.inl h)))))))
        · exact (Or.inr (Or.inr (Or.inr (Or.inr (Or.inr (Or.inr (Or.inr (Or.inr (Or.inr (Or.inr (Or.inr (Or.inr (Or.inr (Or.inr (Or.inr (Or.inl h))))))))))))))))
        · exact (Or.inr (Or.inr (Or.inr (Or.inr (Or.inr (Or.inr (Or.inr (Or.inr (Or.inr (Or.inr (Or.inr (Or.inr (Or.inr (Or.inr (Or.inr (Or.inr (Or.inl h)))))))))))))))))
        · exact (Or.inr (Or.inr (Or.inr (Or.inr (Or.inr (Or.inr (Or.inr (Or.inr (Or.inr (Or.inr (Or.inr (Or.inr (Or.inr (Or.inr (Or.inr (Or.inr (Or.inr (Or.inl h))))))))))))))))))
        · exact (Or.inr (Or.inr (Or.inr (Or.inr (Or.inr (Or.inr (Or.inr (Or.inr (Or.inr (Or.inr (Or.inr (Or.inr (Or.inr (Or.inr (Or.inr (Or.inr (Or.inr (Or.inr (Or.inl h)))))))))))))))))))
        · exact (Or.inr (Or.inr (Or.inr (Or.inr (Or.inr (Or.inr (Or.inr (Or.inr (Or.inr (Or.inr (Or.inr (Or.inr (Or.inr (Or.inr (Or.inr (Or.inr (Or.inr (Or.inr (Or.inr (Or.inl h))))))))))))))))))))
        · exact (Or.inr (Or.inr (Or.inr (Or.inr (Or.inr (Or.inr (Or.inr (Or.inr (Or.inr (Or.inr (Or.inr (Or.inr (Or.inr (Or.inr (Or.inr (Or.inr (Or.inr (Or.inr (Or.inr (Or.inr (Or.inl h)))))))))))))))))))))
        · exact (Or.inr (Or.inr (Or.inr (Or.inr (Or.inr (Or.inr (Or.inr (Or.inr (Or.inr (Or.inr (Or.inr (Or.inr (Or.inr (Or.inr (Or.inr (Or.inr (Or.inr (Or.inr (Or.inr (Or.inr (Or.inr (Or.inl h))))))))))))))))))))))
        · exact (Or.inr (Or.inr (Or.inr (Or.inr (Or.inr (Or.inr (Or.inr (Or.inr (Or.inr (Or.inr (Or.inr (Or.inr (Or.inr (Or.inr (Or.inr (Or.inr (Or.inr (Or.inr (Or.inr (Or.inr (Or.inr (Or.inr (Or.inl h)))))))))))))))))))))))
        · exact (Or.inr (Or.inr (Or.inr (Or.inr (Or.inr (Or.inr (Or.inr (Or.inr (Or.inr (Or.inr (Or.inr (Or.inr (Or.inr (Or.inr (Or.inr (Or.inr (Or.inr (Or.inr (Or.inr (Or.inr (Or.inr (Or.inr (Or.inr (Or.inl h))))))))))))))))))))))))
        · exact (Or.inr (Or.inr (Or.inr (Or.inr (Or.inr (Or.inr (Or.inr (Or.inr (Or.inr (Or.inr (Or.inr (Or.inr (Or.inr (Or.inr (Or.inr (Or.inr (Or.inr (Or.inr (Or.inr (Or.inr (Or.inr (Or.inr (Or.inr (Or.inr (Or.inl h)))))))))))))))))))))))))
        · exact (Or.inr (Or.inr (Or.inr (Or.inr (Or.inr (Or.inr (Or.inr (Or.inr (Or.inr (Or.inr (Or.inr (Or.inr (Or.inr (Or.inr (Or.inr (Or.inr (Or.inr (Or.inr (Or.inr (Or.inr (Or.inr (Or.inr (Or.inr (Or.inr (Or.inr (Or.inl h))))))))))))))))))))))))))
        · exact (Or.inr (Or.inr (Or.inr (Or.inr (Or.inr (Or.inr (Or.inr (Or.inr (Or.inr (Or.inr (Or.inr (Or.inr (Or.inr (Or.inr (Or.inr (Or.inr (Or.inr (Or.inr (Or.inr (Or.inr (Or.inr (Or.inr (Or.inr (Or.inr (Or.inr (Or.inr (Or.inl h)))))))))))))))))))))))))))
        · exact (Or.inr (Or.inr (Or.inr (Or.inr (Or.inr (Or.inr (Or.inr (Or.inr (Or.inr (Or.inr (Or.inr (Or.inr (Or.inr (Or.inr (Or.inr (Or.inr (Or.inr (Or.inr (Or.inr (Or.inr (Or.inr (Or.inr (Or.inr (Or.inr (Or.inr (Or.inr (Or.inr (Or.inl h))))))))))))))))))))))))))))
        · exact (Or.inr (Or.inr (Or.inr (Or.inr (Or.inr (Or.inr (Or.inr (Or.inr (Or.inr (Or.inr (Or.inr (Or.inr (Or.inr (Or.inr (Or.inr (Or.inr (Or.inr (Or.inr (Or.inr (Or.inr (Or.inr (Or.inr (Or.inr (Or.inr (Or.inr (Or.inr (Or.inr (Or.inr h))))))))))))))))))))))))))))) ?_
  rcases ite_some hf with ⟨_, hf⟩ | ⟨_, hf⟩
  · skip
    obtain ⟨σ61, eσ61, hf⟩ := nmd_some hf
    refine ag_I eσ61 (Or.inr (Or.inr (Or.inr (Or.inr (Or.inr (Or.inr (Or.inl rfl))))))) ?_
    obtain ⟨σ62, eσ62, hf⟩ := nmd_some hf
    refine ag_I eσ62 (Or.inr (Or.inr (Or.inr (Or.inr (Or.inr (Or.inr (Or.inl rfl))))))) ?_
    obtain ⟨σ63, eσ63, hf⟩ := nmd_some hf
    refine ag_I eσ63 (Or.inr (Or.inr (Or.inr (Or.inr (Or.inr (Or.inr (Or.inl rfl))))))) ?_
    obtain ⟨σ64, eσ64, hf⟩ := nmd_some hf
    refine ag_I eσ64 (Or.inr (Or.inr (Or.inr (Or.inr (Or.inr (Or.inr (Or.inl rfl))))))) ?_
    obtain ⟨σ65, eσ65, hf⟩ := nmd_some hf
    refine ag_I eσ65 (Or.inr (Or.inr (Or.inr (Or.inr (Or.inr (Or.inr (Or.inl rfl))))))) ?_
    exact m_X12_chapel_55 N _ _ hf
  · skip
    cases hf
    exact ag_refl
theorem m_X12_fault_24 {N : Nat} {ρ : Nat → Nat → Nat} {this : Nat} {a1 : Int32} {r : Int32} {σr : St} (s0 : Int32) (σ : St) (hf : f_X12_fault_24 N ρ this a1 s0 σ = some (r, σr)) : Ag (fun p => False) σ σr := by
  unfold f_X12_fault_24 at hf
  cases hf
  exact ag_refl
theorem m_X12_fault {N : Nat} {ρ : Nat → Nat → Nat} {this : Nat} {a1 : Int32} {r : Int32} {σr : St} {σ : St} (hf : f_X12_fault N ρ this a1 σ = some (r, σr)) : Ag (fun p => False) σ σr := by
  unfold f_X12_fault at hf
  rcases ite_some hf with ⟨_, hf⟩ | ⟨_, hf⟩
  · skip
    exact m_X12_fault_24 _ _ hf
  · skip
    rcases ite_some hf with ⟨_, hf⟩ | ⟨_, hf⟩
    · skip
      exact m_X12_fault_24 _ _ hf
    · skip
      exact m_X12_fault_24 _ _ hf
theorem m_X12_isIn_15 {N : Nat} {ρ : Nat → Nat → Nat} {a1 : Int32} {a2 : Int32} {a3 : Int32} {r : Int32} {σr : St} (s0 : Int32) (σ : St) (hf : f_X12_isIn_15 N ρ a1 a2 a3 s0 σ = some (r, σr)) : Ag (fun p => False) σ σr := by
  unfold f_X12_isIn_15 at hf
  obtain ⟨_, hf⟩ := gd_some hf
  cases hf
  exact ag_refl
theorem m_X12_isIn_14 {N : Nat} {ρ : Nat → Nat → Nat} {a1 : Int32} {a2 : Int32} {a3 : Int32} {r : Int32} {σr : St} (σ : St) (hf : f_X12_isIn_14 N ρ a1 a2 a3 σ = some (r, σr)) : Ag (fun p => False) σ σr := by
  unfold f_X12_isIn_14 at hf
  exact m_X12_isIn_15 _ _ hf
theorem m_X12_isIn {N : Nat} {ρ : Nat → Nat → Nat} {a1 : Int32} {a2 : Int32} {a3 : Int32} {r : Int32} {σr : St} {σ : St} (hf : f_X12_isIn N ρ a1 a2 a3 σ = some (r, σr)) : Ag (fun p => False) σ σr := by
  unfold f_X12_isIn at hf
  rcases ite_some hf with ⟨_, hf⟩ | ⟨_, hf⟩
  · skip
    exact m_X12_isIn_14 _ hf
  · skip
    rcases ite_some hf with ⟨_, hf⟩ | ⟨_, hf⟩
    · skip
      exact m_X12_isIn_14 _ hf
    · skip
      exact m_X12_isIn_15 _ _ hf
theorem m_X12_isHearth {N : Nat} {ρ : Nat → Nat → Nat} {this : Nat} {a1 : Int32} {r : Int32} {σr : St} {σ : St} (hf : f_X12_isHearth N ρ this a1 σ = some (r, σr)) : Ag (fun p => False) σ σr := by
  unfold f_X12_isHearth at hf
  obtain ⟨_, σ2, q1, hf⟩ := bnd_some hf
  refine ag_call (m_X12_isIn q1) (fun _ h => h.elim) ?_
  obtain ⟨_, hf⟩ := gd_some hf
  cases hf
  exact ag_refl
theorem m_X12_isStool {N : Nat} {ρ : Nat → Nat → Nat} {this : Nat} {a1 : Int32} {r : Int32} {σr : St} {σ : St} (hf : f_X12_isStool N ρ this a1 σ = some (r, σr)) : Ag (fun p => False) σ σr := by
  unfold f_X12_isStool at hf
  obtain ⟨_, σ2, q1, hf⟩ := bnd_some hf
  refine ag_call (m_X12_isIn q1) (fun _ h => h.elim) ?_
  obtain ⟨_, hf⟩ := gd_some hf
  cases hf
  exact ag_refl
theorem k_X12_members_4 {N : Nat} {ρ : Nat → Nat → Nat} {a1 : Int32} {r : Int32} {σr : St} (rec4 : Int32 → Int32 → St → Option (Int32 × St)) (hrec4 : ∀ (x1 : Int32) (x2 : Int32) (σ : St), rec4 x1 x2 σ = some (r, σr) → Ag (fun p => False) σ σr) (x1 : Int32) (x2 : Int32) (σ : St) (hf : b_X12_members_4 N ρ a1 rec4 x1 x2 σ = some (r, σr)) : Ag (fun p => False) σ σr := by
  unfold b_X12_members_4 at hf
  rcases ite_some hf with ⟨_, hf⟩ | ⟨_, hf⟩
  · skip
    cases hf
    exact ag_refl
  · skip
    obtain ⟨y2, ey2, hf⟩ := nmd_some hf
    exact hrec4 _ _ _ hf
theorem m_X12_members_4 {N : Nat} {ρ : Nat → Nat → Nat} {a1 : Int32} {r : Int32} {σr : St} : ∀ (n : Nat) (x1 : Int32) (x2 : Int32) (σ : St), f_X12_members_4 N ρ a1 n x1 x2 σ = some (r, σr) → Ag (fun p => False) σ σr := by
  intro n
  induction n with
  | zero => intro x1 x2 σ hf; cases hf
  | succ n ih => intro x1 x2 σ hf; exact k_X12_members_4 _ ih x1 x2 σ hf
theorem m_X12_members {N : Nat} {ρ : Nat → Nat → Nat} {a1 : Int32} {r : Int32} {σr : St} {σ : St} (hf : f_X12_members N ρ a1 σ = some (r, σr)) : Ag (fun p => False) σ σr := by
  unfold f_X12_members at hf
  exact m_X12_members_4 N _ _ _ hf
theorem m_X12_plain_10 {N : Nat} {ρ : Nat → Nat → Nat} {a1 : Int32} {r : Int32} {σr : St} (s0 : Int32) (σ : St) (hf : f_X12_plain_10 N ρ a1 s0 σ = some (r, σr)) : Ag (fun p => False) σ σr := by
  unfold f_X12_plain_10 at hf
  cases hf
  exact ag_refl
theorem m_X12_plain {N : Nat} {ρ : Nat → Nat → Nat} {a1 : Int32} {r : Int32} {σr : St} {σ : St} (hf : f_X12_plain N ρ a1 σ = some (r, σr)) : Ag (fun p => False) σ σr := by
  unfold f_X12_plain at hf
  rcases ite_some hf with ⟨_, hf⟩ | ⟨_, hf⟩
  · skip
    exact m_X12_plain_10 _ _ hf
  · skip
    exact m_X12_plain_10 _ _ hf
theorem k_X12_fill_2 {N : Nat} {ρ : Nat → Nat → Nat} {this : Nat} {r : Int32} {σr : St} (rec2 : Int32 → St → Option (Int32 × St)) (hrec2 : ∀ (x1 : Int32) (σ : St), rec2 x1 σ = some (r, σr) → Ag (fun p => p = ρ this 57) σ σr) (x1 : Int32) (σ : St) (hf : b_X12_fill_2 N ρ this rec2 x1 σ = some (r, σr)) : Ag (fun p => p = ρ this 57) σ σr := by
  unfold b_X12_fill_2 at hf
  rcases ite_some hf with ⟨_, hf⟩ | ⟨_, hf⟩
  · skip
    cases hf
    exact ag_refl
  · skip
    obtain ⟨_, hf⟩ := gd_some hf
    obtain ⟨_, hf⟩ := gd_some hf
    obtain ⟨σ4, eσ4, hf⟩ := nmd_some hf
    refine ag_I eσ4 rfl ?_
    exact hrec2 _ _ hf
theorem m_X12_fill_2 {N : Nat} {ρ : Nat → Nat → Nat} {this : Nat} {r : Int32} {σr : St} : ∀ (n : Nat) (x1 : Int32) (σ : St), f_X12_fill_2 N ρ this n x1 σ = some (r, σr) → Ag (fun p => p = ρ this 57) σ σr := by
  intro n
  induction n with
  | zero => intro x1 σ hf; cases hf
  | succ n ih => intro x1 σ hf; exact k_X12_fill_2 _ ih x1 σ hf
theorem m_X12_fill {N : Nat} {ρ : Nat → Nat → Nat} {this : Nat} {r : Int32} {σr : St} {σ : St} (hf : f_X12_fill N ρ this σ = some (r, σr)) : Ag (fun p => p = ρ this 57) σ σr := by
  unfold f_X12_fill at hf
  exact m_X12_fill_2 N _ _ hf
theorem k_X12_callAll_2 {N : Nat} {ρ : Nat → Nat → Nat} {this : Nat} {r : Int32} {σr : St} (rec2 : Int32 → St → Option (Int32 × St)) (hrec2 : ∀ (x1 : Int32) (σ : St), rec2 x1 σ = some (r, σr) → Ag (fun p => p = ρ this 57) σ σr) (x1 : Int32) (σ : St) (hf : b_X12_callAll_2 N ρ this rec2 x1 σ = some (r, σr)) : Ag (fun p => p = ρ this 57) σ σr := by
  unfold b_X12_callAll_2 at hf
  rcases ite_some hf with ⟨_, hf⟩ | ⟨_, hf⟩
  · skip
    cases hf
    exact ag_refl
  · skip
    obtain ⟨_, hf⟩ := gd_some hf
    obtain ⟨σ3, eσ3, hf⟩ := nmd_some hf
    refine ag_I eσ3 rfl ?_
    exact hrec2 _ _ hf
theorem m_X12_callAll_2 {N : Nat} {ρ : Nat → Nat → Nat} {this : Nat} {r : Int32} {σr : St} : ∀ (n : Nat) (x1 : Int32) (σ : St), f_X12_callAll_2 N ρ this n x1 σ = some (r, σr) → Ag (fun p => p = ρ this 57) σ σr := by
  intro n
  induction n with
  | zero => intro x1 σ hf; cases hf
  | succ n ih => intro x1 σ hf; exact k_X12_callAll_2 _ ih x1 σ hf
theorem m_X12_callAll {N : Nat} {ρ : Nat → Nat → Nat} {this : Nat} {r : Int32} {σr : St} {σ : St} (hf : f_X12_callAll N ρ this σ = some (r, σr)) : Ag (fun p => p = ρ this 57) σ σr := by
  unfold f_X12_callAll at hf
  exact m_X12_callAll_2 N _ _ hf
theorem m_X12_sentTo_31 {N : Nat} {ρ : Nat → Nat → Nat} {this : Nat} {a1 : Int32} {r : Int32} {σr : St} (rec4 : Int32 → Int32 → St → Option (Int32 × St)) (hrec4 : ∀ (x2 : Int32) (x3 : Int32) (σ : St), rec4 x2 x3 σ = some (r, σr) → Ag (fun p => False) σ σr) (x3 : Int32) (s0 : Int32) (s1 : Int32) (σ : St) (hf : f_X12_sentTo_31 N ρ this a1 rec4 x3 s0 s1 σ = some (r, σr)) : Ag (fun p => False) σ σr := by
  unfold f_X12_sentTo_31 at hf
  obtain ⟨_, σ2, q1, hf⟩ := bnd_some hf
  refine ag_call (m_X12_truth q1) (fun _ h => h.elim) ?_
  obtain ⟨y4, ey4, hf⟩ := nmd_some hf
  exact hrec4 _ _ _ hf
theorem k_X12_sentTo_4 {N : Nat} {ρ : Nat → Nat → Nat} {this : Nat} {a1 : Int32} {r : Int32} {σr : St} (rec4 : Int32 → Int32 → St → Option (Int32 × St)) (hrec4 : ∀ (x2 : Int32) (x3 : Int32) (σ : St), rec4 x2 x3 σ = some (r, σr) → Ag (fun p => False) σ σr) (x2 : Int32) (x3 : Int32) (σ : St) (hf : b_X12_sentTo_4 N ρ this a1 rec4 x2 x3 σ = some (r, σr)) : Ag (fun p => False) σ σr := by
  unfold b_X12_sentTo_4 at hf
  rcases ite_some hf with ⟨_, hf⟩ | ⟨_, hf⟩
  · skip
    cases hf
    exact ag_refl
  · skip
    obtain ⟨_, hf⟩ := gd_some hf
    rcases ite_some hf with ⟨_, hf⟩ | ⟨_, hf⟩
    · skip
      exact m_X12_sentTo_31 rec4 hrec4 _ _ _ _ hf
    · skip
      exact m_X12_sentTo_31 rec4 hrec4 _ _ _ _ hf
theorem m_X12_sentTo_4 {N : Nat} {ρ : Nat → Nat → Nat} {this : Nat} {a1 : Int32} {r : Int32} {σr : St} : ∀ (n : Nat) (x2 : Int32) (x3 : Int32) (σ : St), f_X12_sentTo_4 N ρ this a1 n x2 x3 σ = some (r, σr) → Ag (fun p => False) σ σr := by
  intro n
  induction n with
  | zero => intro x2 x3 σ hf; cases hf
  | succ n ih => intro x2 x3 σ hf; exact k_X12_sentTo_4 _ ih x2 x3 σ hf
theorem m_X12_sentTo {N : Nat} {ρ : Nat → Nat → Nat} {this : Nat} {a1 : Int32} {r : Int32} {σr : St} {σ : St} (hf : f_X12_sentTo N ρ this a1 σ = some (r, σr)) : Ag (fun p => False) σ σr := by
  unfold f_X12_sentTo at hf
  exact m_X12_sentTo_4 N _ _ _ hf
theorem m_X12_quarrels_73 {N : Nat} {ρ : Nat → Nat → Nat} {this : Nat} {a1 : Int32} {r : Int32} {σr : St} (rec4 : Int32 → Int32 → St → Option (Int32 × St)) (hrec4 : ∀ (x2 : Int32) (x3 : Int32) (σ : St), rec4 x2 x3 σ = some (r, σr) → Ag (fun p => False) σ σr) (rec15 : Int32 → Int32 → Int32 → St → Option (Int32 × St)) (hrec15 : ∀ (x2 : Int32) (x3 : Int32) (x4 : Int32) (σ : St), rec15 x2 x3 x4 σ = some (r, σr) → Ag (fun p => False) σ σr) (x3 : Int32) (x4 : Int32) (s0 : Int32) (σ : St) (hf : f_X12_quarrels_73 N ρ this a1 rec4 rec15 x3 x4 s0 σ = some (r, σr)) : Ag (fun p => False) σ σr := by
  unfold f_X12_quarrels_73 at hf
  exact hrec15 _ _ _ _ hf
theorem m_X12_quarrels_68 {N : Nat} {ρ : Nat → Nat → Nat} {this : Nat} {a1 : Int32} {r : Int32} {σr : St} (rec4 : Int32 → Int32 → St → Option (Int32 × St)) (hrec4 : ∀ (x2 : Int32) (x3 : Int32) (σ : St), rec4 x2 x3 σ = some (r, σr) → Ag (fun p => False) σ σr) (rec15 : Int32 → Int32 → Int32 → St → Option (Int32 × St)) (hrec15 : ∀ (x2 : Int32) (x3 : Int32) (x4 : Int32) (σ : St), rec15 x2 x3 x4 σ = some (r, σr) → Ag (fun p => False) σ σr) (x3 : Int32) (x4 : Int32) (σ : St) (hf : f_X12_quarrels_68 N ρ this a1 rec4 rec15 x3 x4 σ = some (r, σr)) : Ag (fun p => False) σ σr := by
  unfold f_X12_quarrels_68 at hf
  exact m_X12_quarrels_73 rec4 hrec4 rec15 hrec15 _ _ _ _ hf
theorem m_X12_quarrels_72 {N : Nat} {ρ : Nat → Nat → Nat} {this : Nat} {a1 : Int32} {r : Int32} {σr : St} (rec4 : Int32 → Int32 → St → Option (Int32 × St)) (hrec4 : ∀ (x2 : Int32) (x3 : Int32) (σ : St), rec4 x2 x3 σ = some (r, σr) → Ag (fun p => False) σ σr) (rec15 : Int32 → Int32 → Int32 → St → Option (Int32 × St)) (hrec15 : ∀ (x2 : Int32) (x3 : Int32) (x4 : Int32) (σ : St), rec15 x2 x3 x4 σ = some (r, σr) → Ag (fun p => False) σ σr) (x3 : Int32) (x4 : Int32) (σ : St) (hf : f_X12_quarrels_72 N ρ this a1 rec4 rec15 x3 x4 σ = some (r, σr)) : Ag (fun p => False) σ σr := by
  unfold f_X12_quarrels_72 at hf
  exact m_X12_quarrels_73 rec4 hrec4 rec15 hrec15 _ _ _ _ hf
theorem k_X12_quarrels_15 {N : Nat} {ρ : Nat → Nat → Nat} {this : Nat} {a1 : Int32} {r : Int32} {σr : St} (rec4 : Int32 → Int32 → St → Option (Int32 × St)) (hrec4 : ∀ (x2 : Int32) (x3 : Int32) (σ : St), rec4 x2 x3 σ = some (r, σr) → Ag (fun p => False) σ σr) (rec15 : Int32 → Int32 → Int32 → St → Option (Int32 × St)) (hrec15 : ∀ (x2 : Int32) (x3 : Int32) (x4 : Int32) (σ : St), rec15 x2 x3 x4 σ = some (r, σr) → Ag (fun p => False) σ σr) (x2 : Int32) (x3 : Int32) (x4 : Int32) (σ : St) (hf : b_X12_quarrels_15 N ρ this a1 rec4 rec15 x2 x3 x4 σ = some (r, σr)) : Ag (fun p => False) σ σr := by
  unfold b_X12_quarrels_15 at hf
  rcases ite_some hf with ⟨_, hf⟩ | ⟨_, hf⟩
  · skip
    exact hrec4 _ _ _ hf
  · skip
    rcases ite_some hf with ⟨_, hf⟩ | ⟨_, hf⟩
    · skip
      obtain ⟨_, hf⟩ := gd_some hf
      rcases ite_some hf with ⟨_, hf⟩ | ⟨_, hf⟩
      · skip
        obtain ⟨_, hf⟩ := gd_some hf
        rcases ite_some hf with ⟨_, hf⟩ | ⟨_, hf⟩
        · skip
          obtain ⟨_, hf⟩ := gd_some hf
          obtain ⟨_, hf⟩ := gd_some hf
          rcases ite_some hf with ⟨_, hf⟩ | ⟨_, hf⟩
          · skip
            exact m_X12_quarrels_72 rec4 hrec4 rec15 hrec15 _ _ _ hf
          · skip
            exact m_X12_quarrels_68 rec4 hrec4 rec15 hrec15 _ _ _ hf
        · skip
          exact m_X12_quarrels_72 rec4 hrec4 rec15 hrec15 _ _ _ hf
      · skip
        exact m_X12_quarrels_72 rec4 hrec4 rec15 hrec15 _ _ _ hf
    · skip
      exact m_X12_quarrels_68 rec4 hrec4 rec15 hrec15 _ _ _ hf
theorem m_X12_quarrels_15 {N : Nat} {ρ : Nat → Nat → Nat} {this : Nat} {a1 : Int32} {r : Int32} {σr : St} (rec4 : Int32 → Int32 → St → Option (Int32 × St)) (hrec4 : ∀ (x2 : Int32) (x3 : Int32) (σ : St), rec4 x2 x3 σ = some (r, σr) → Ag (fun p => False) σ σr) : ∀ (n : Nat) (x2 : Int32) (x3 : Int32) (x4 : Int32) (σ : St), f_X12_quarrels_15 N ρ this a1 rec4 n x2 x3 x4 σ = some (r, σr) → Ag (fun p => False) σ σr := by
  intro n
  induction n with
  | zero => intro x2 x3 x4 σ hf; cases hf
  | succ n ih => intro x2 x3 x4 σ hf; exact k_X12_quarrels_15 rec4 hrec4 _ ih x2 x3 x4 σ hf
theorem k_X12_quarrels_4 {N : Nat} {ρ : Nat → Nat → Nat} {this : Nat} {a1 : Int32} {r : Int32} {σr : St} (rec4 : Int32 → Int32 → St → Option (Int32 × St)) (hrec4 : ∀ (x2 : Int32) (x3 : Int32) (σ : St), rec4 x2 x3 σ = some (r, σr) → Ag (fun p => False) σ σr) (x2 : Int32) (x3 : Int32) (σ : St) (hf : b_X12_quarrels_4 N ρ this a1 rec4 x2 x3 σ = some (r, σr)) : Ag (fun p => False) σ σr := by
  unfold b_X12_quarrels_4 at hf
  rcases ite_some hf with ⟨_, hf⟩ | ⟨_, hf⟩
  · skip
    obtain ⟨_, hf⟩ := gd_some hf
    cases hf
    exact ag_refl
  · skip
    exact m_X12_quarrels_15 rec4 hrec4 N _ _ _ _ hf
theorem m_X12_quarrels_4 {N : Nat} {ρ : Nat → Nat → Nat} {this : Nat} {a1 : Int32} {r : Int32} {σr : St} : ∀ (n : Nat) (x2 : Int32) (x3 : Int32) (σ : St), f_X12_quarrels_4 N ρ this a1 n x2 x3 σ = some (r, σr) → Ag (fun p => False) σ σr := by
  intro n
  induction n with
  | zero => intro x2 x3 σ hf; cases hf
  | succ n ih => intro x2 x3 σ hf; exact k_X12_quarrels_4 _ ih x2 x3 σ hf
theorem m_X12_quarrels {N : Nat} {ρ : Nat → Nat → Nat} {this : Nat} {a1 : Int32} {r : Int32} {σr : St} {σ : St} (hf : f_X12_quarrels N ρ this a1 σ = some (r, σr)) : Ag (fun p => False) σ σr := by
  unfold f_X12_quarrels at hf
  exact m_X12_quarrels_4 N _ _ _ hf
theorem m_X12_loadAt {N : Nat} {ρ : Nat → Nat → Nat} {this : Nat} {a1 : Int32} {a2 : Int32} {a3 : Int32} {r : Int32} {σr : St} {σ : St} (hf : f_X12_loadAt N ρ this a1 a2 a3 σ = some (r, σr)) : Ag (fun p => p = ρ this 18 ∨ p = ρ this 26) σ σr := by
  unfold f_X12_loadAt at hf
  obtain ⟨_, σ2, q1, hf⟩ := bnd_some hf
  refine ag_call (m_X12_heavyOf q1) (fun _ h => h.elim) ?_
  obtain ⟨_, hf⟩ := gd_some hf
  obtain ⟨_, σ6, q2, hf⟩ := bnd_some hf
  refine ag_call (m_X12_worked q2) (fun _ h => by
        rcases h with h | h
        · exact (Or.inl h)
        · exact (Or.inr h)) ?_
  cases hf
  exact ag_refl
theorem m_X12_loadOf {N : Nat} {ρ : Nat → Nat → Nat} {this : Nat} {a1 : Int32} {r : Int32} {σr : St} {σ : St} (hf : f_X12_loadOf N ρ this a1 σ = some (r, σr)) : Ag (fun p => p = ρ this 18 ∨ p = ρ this 26) σ σr := by
  unfold f_X12_loadOf at hf
  obtain ⟨_, hf⟩ := gd_some hf
  obtain ⟨_, hf⟩ := gd_some hf
  obtain ⟨_, σ4, q1, hf⟩ := bnd_some hf
  refine ag_call (m_X12_sentTo q1) (fun _ h => h.elim) ?_
  obtain ⟨_, σ7, q2, hf⟩ := bnd_some hf
  refine ag_call (m_X12_members q2) (fun _ h => h.elim) ?_
  obtain ⟨_, σ10, q3, hf⟩ := bnd_some hf
  refine ag_call (m_X12_loadAt q3) (fun _ h => by
        rcases h with h | h
        · exact (Or.inl h)
        · exact (Or.inr h)) ?_
  cases hf
  exact ag_refl
theorem m_X12_fareOf_45 {N : Nat} {ρ : Nat → Nat → Nat} {this : Nat} {a1 : Int32} {r : Int32} {σr : St} (s0 : Int32) (σ : St) (hf : f_X12_fareOf_45 N ρ this a1 s0 σ = some (r, σr)) : Ag (fun p => p = ρ this 18 ∨ p = ρ this 26) σ σr := by
  unfold f_X12_fareOf_45 at hf
  cases hf
  exact ag_refl
theorem m_X12_fareOf {N : Nat} {ρ : Nat → Nat → Nat} {this : Nat} {a1 : Int32} {r : Int32} {σr : St} {σ : St} (hf : f_X12_fareOf N ρ this a1 σ = some (r, σr)) : Ag (fun p => p = ρ this 18 ∨ p = ρ this 26) σ σr := by
  unfold f_X12_fareOf at hf
  obtain ⟨_, hf⟩ := gd_some hf
  obtain ⟨y2, ey2, hf⟩ := nmd_some hf
  rcases ite_some hf with ⟨_, hf⟩ | ⟨_, hf⟩
  · skip
    obtain ⟨_, σ5, q1, hf⟩ := bnd_some hf
    refine ag_call (m_X12_quarrels q1) (fun _ h => h.elim) ?_
    rcases ite_some hf with ⟨_, hf⟩ | ⟨_, hf⟩
    · skip
      obtain ⟨_, σ9, q2, hf⟩ := bnd_some hf
      refine ag_call (m_X12_loadOf q2) (fun _ h => by
            rcases h with h | h
            · exact (Or.inl h)
            · exact (Or.inr h)) ?_
      obtain ⟨_, hf⟩ := gd_some hf
      rcases ite_some hf with ⟨_, hf⟩ | ⟨_, hf⟩
      · skip
        exact m_X12_fareOf_45 _ _ hf
      · skip
        exact m_X12_fareOf_45 _ _ hf
    · skip
      cases hf
      exact ag_refl
  · skip
    cases hf
    exact ag_refl
theorem m_X12_whoFares_27 {N : Nat} {ρ : Nat → Nat → Nat} {this : Nat} {a1 : Int32} {r : Int32} {σr : St} (rec4 : Int32 → Int32 → St → Option (Int32 × St)) (hrec4 : ∀ (x2 : Int32) (x3 : Int32) (σ : St), rec4 x2 x3 σ = some (r, σr) → Ag (fun p => p = ρ this 18 ∨ p = ρ this 26) σ σr) (x3 : Int32) (s0 : Int32) (s1 : Int32) (σ : St) (hf : f_X12_whoFares_27 N ρ this a1 rec4 x3 s0 s1 σ = some (r, σr)) : Ag (fun p => p = ρ this 18 ∨ p = ρ this 26) σ σr := by
  unfold f_X12_whoFares_27 at hf
  obtain ⟨_, σ2, q1, hf⟩ := bnd_some hf
  refine ag_call (m_X12_truth q1) (fun _ h => h.elim) ?_
  obtain ⟨y4, ey4, hf⟩ := nmd_some hf
  exact hrec4 _ _ _ hf
theorem k_X12_whoFares_4 {N : Nat} {ρ : Nat → Nat → Nat} {this : Nat} {a1 : Int32} {r : Int32} {σr : St} (rec4 : Int32 → Int32 → St → Option (Int32 × St)) (hrec4 : ∀ (x2 : Int32) (x3 : Int32) (σ : St), rec4 x2 x3 σ = some (r, σr) → Ag (fun p => p = ρ this 18 ∨ p = ρ this 26) σ σr) (x2 : Int32) (x3 : Int32) (σ : St) (hf : b_X12_whoFares_4 N ρ this a1 rec4 x2 x3 σ = some (r, σr)) : Ag (fun p => p = ρ this 18 ∨ p = ρ this 26) σ σr := by
  unfold b_X12_whoFares_4 at hf
  rcases ite_some hf with ⟨_, hf⟩ | ⟨_, hf⟩
  · skip
    cases hf
    exact ag_refl
  · skip
    obtain ⟨_, σ7, q1, hf⟩ := bnd_some hf
    refine ag_call (m_X12_fareOf q1) (fun _ h => by
          rcases h with h | h
          · exact (Or.inl h)
          · exact (Or.inr h)) ?_
    rcases ite_some hf with ⟨_, hf⟩ | ⟨_, hf⟩
    · skip
      exact m_X12_whoFares_27 rec4 hrec4 _ _ _ _ hf
    · skip
      exact m_X12_whoFares_27 rec4 hrec4 _ _ _ _ hf
theorem m_X12_whoFares_4 {N : Nat} {ρ : Nat → Nat → Nat} {this : Nat} {a1 : Int32} {r : Int32} {σr : St} : ∀ (n : Nat) (x2 : Int32) (x3 : Int32) (σ : St), f_X12_whoFares_4 N ρ this a1 n x2 x3 σ = some (r, σr) → Ag (fun p => p = ρ this 18 ∨ p = ρ this 26) σ σr := by
  intro n
  induction n with
  | zero => intro x2 x3 σ hf; cases hf
  | succ n ih => intro x2 x3 σ hf; exact k_X12_whoFares_4 _ ih x2 x3 σ hf
theorem m_X12_whoFares {N : Nat} {ρ : Nat → Nat → Nat} {this : Nat} {a1 : Int32} {r : Int32} {σr : St} {σ : St} (hf : f_X12_whoFares N ρ this a1 σ = some (r, σr)) : Ag (fun p => p = ρ this 18 ∨ p = ρ this 26) σ σr := by
  unfold f_X12_whoFares at hf
  exact m_X12_whoFares_4 N _ _ _ hf
theorem m_X12_goEvening_100 {N : Nat} {ρ : Nat → Nat → Nat} {this : Nat} {a1 : Int32} {r : Int32} {σr : St} (rec2 : Int32 → St → Option (Int32 × St)) (hrec2 : ∀ (x2 : Int32) (σ : St), rec2 x2 σ = some (r, σr) → Ag (fun p => p = ρ this 58 ∨ p = ρ this 18 ∨ p = ρ this 26 ∨ p = ρ this 59 ∨ p = ρ this 60 ∨ p = ρ this 57) σ σr) (x2 : Int32) (σ : St) (hf : f_X12_goEvening_100 N ρ this a1 rec2 x2 σ = some (r, σr)) : Ag (fun p => p = ρ this 58 ∨ p = ρ this 18 ∨ p = ρ this 26 ∨ p = ρ this 59 ∨ p = ρ this 60 ∨ p = ρ this 57) σ σr := by
  unfold f_X12_goEvening_100 at hf
  exact hrec2 _ _ hf
theorem m_X12_goEvening_47 {N : Nat} {ρ : Nat → Nat → Nat} {this : Nat} {a1 : Int32} {r : Int32} {σr : St} (rec2 : Int32 → St → Option (Int32 × St)) (hrec2 : ∀ (x2 : Int32) (σ : St), rec2 x2 σ = some (r, σr) → Ag (fun p => p = ρ this 58 ∨ p = ρ this 18 ∨ p = ρ this 26 ∨ p = ρ this 59 ∨ p = ρ this 60 ∨ p = ρ this 57) σ σr) (x2 : Int32) (x3 : Int32) (s0 : Int32) (s1 : Int32) (σ : St) (hf : f_X12_goEvening_47 N ρ this a1 rec2 x2 x3 s0 s1 σ = some (r, σr)) : Ag (fun p => p = ρ this 58 ∨ p = ρ this 18 ∨ p = ρ this 26 ∨ p = ρ this 59 ∨ p = ρ this 60 ∨ p = ρ this 57) σ σr := by
  unfold f_X12_goEvening_47 at hf
  obtain ⟨_, hf⟩ := gd_some hf
  obtain ⟨σ2, eσ2, hf⟩ := nmd_some hf
  refine ag_I eσ2 (Or.inl rfl) ?_
  obtain ⟨_, hf⟩ := gd_some hf
  rcases ite_some hf with ⟨_, hf⟩ | ⟨_, hf⟩
  · skip
    obtain ⟨_, σ6, q1, hf⟩ := bnd_some hf
    refine ag_call (m_X12_loadOf q1) (fun _ h => by
          rcases h with h | h
          · exact (Or.inr (Or.inl h))
          · exact (Or.inr (Or.inr (Or.inl h)))) ?_
    obtain ⟨_, hf⟩ := gd_some hf
    obtain ⟨σ9, eσ9, hf⟩ := nmd_some hf
    refine ag_I eσ9 (Or.inr (Or.inr (Or.inr (Or.inl rfl)))) ?_
    obtain ⟨_, σ11, q2, hf⟩ := bnd_some hf
    refine ag_call (m_X12_sentTo q2) (fun _ h => h.elim) ?_
    obtain ⟨_, σ14, q3, hf⟩ := bnd_some hf
    refine ag_call (m_X12_members q3) (fun _ h => h.elim) ?_
    obtain ⟨_, hf⟩ := gd_some hf
    obtain ⟨_, σ18, q4, hf⟩ := bnd_some hf
    refine ag_call (m_X12_worked q4) (fun _ h => by
          rcases h with h | h
          · exact (Or.inr (Or.inl h))
          · exact (Or.inr (Or.inr (Or.inl h)))) ?_
    obtain ⟨_, hf⟩ := gd_some hf
    obtain ⟨σ21, eσ21, hf⟩ := nmd_some hf
    refine ag_I eσ21 (Or.inr (Or.inr (Or.inr (Or.inr (Or.inl rfl))))) ?_
    exact m_X12_goEvening_100 rec2 hrec2 _ _ hf
  · skip
    exact m_X12_goEvening_100 rec2 hrec2 _ _ hf
theorem m_X12_goEvening_42 {N : Nat} {ρ : Nat → Nat → Nat} {this : Nat} {a1 : Int32} {r : Int32} {σr : St} (rec2 : Int32 → St → Option (Int32 × St)) (hrec2 : ∀ (x2 : Int32) (σ : St), rec2 x2 σ = some (r, σr) → Ag (fun p => p = ρ this 58 ∨ p = ρ this 18 ∨ p = ρ this 26 ∨ p = ρ this 59 ∨ p = ρ this 60 ∨ p = ρ this 57) σ σr) (x2 : Int32) (x3 : Int32) (s0 : Int32) (σ : St) (hf : f_X12_goEvening_42 N ρ this a1 rec2 x2 x3 s0 σ = some (r, σr)) : Ag (fun p => p = ρ this 58 ∨ p = ρ this 18 ∨ p = ρ this 26 ∨ p = ρ this 59 ∨ p = ρ this 60 ∨ p = ρ this 57) σ σr := by
  unfold f_X12_goEvening_42 at hf
  obtain ⟨_, σ23, q1, hf⟩ := bnd_some hf
  refine ag_call (m_X12_fareOf q1) (fun _ h => by
        rcases h with h | h
        · exact (Or.inr (Or.inl h))
        · exact (Or.inr (Or.inr (Or.inl h)))) ?_
  exact m_X12_goEvening_47 rec2 hrec2 _ _ _ _ _ hf
theorem m_X12_goEvening_254 {N : Nat} {ρ : Nat → Nat → Nat} {this : Nat} {a1 : Int32} {r : Int32} {σr : St} (rec108 : Int32 → St → Option (Int32 × St)) (hrec108 : ∀ (x2 : Int32) (σ : St), rec108 x2 σ = some (r, σr) → Ag (fun p => p = ρ this 58 ∨ p = ρ this 18 ∨ p = ρ this 26 ∨ p = ρ this 59 ∨ p = ρ this 60 ∨ p = ρ this 57) σ σr) (x2 : Int32) (σ : St) (hf : f_X12_goEvening_254 N ρ this a1 rec108 x2 σ = some (r, σr)) : Ag (fun p => p = ρ this 58 ∨ p = ρ this 18 ∨ p = ρ this 26 ∨ p = ρ this 59 ∨ p = ρ this 60 ∨ p = ρ this 57) σ σr := by
  unfold f_X12_goEvening_254 at hf
  exact hrec108 _ _ hf
theorem k_X12_goEvening_108 {N : Nat} {ρ : Nat → Nat → Nat} {this : Nat} {a1 : Int32} {r : Int32} {σr : St} (rec108 : Int32 → St → Option (Int32 × St)) (hrec108 : ∀ (x2 : Int32) (σ : St), rec108 x2 σ = some (r, σr) → Ag (fun p => p = ρ this 58 ∨ p = ρ this 18 ∨ p = ρ this 26 ∨ p = ρ this 59 ∨ p = ρ this 60 ∨ p = ρ this 57) σ σr) (x2 : Int32) (σ : St) (hf : b_X12_goEvening_108 N ρ this a1 rec108 x2 σ = some (r, σr)) : Ag (fun p => p = ρ this 58 ∨ p = ρ this 18 ∨ p = ρ this 26 ∨ p = ρ this 59 ∨ p = ρ this 60 ∨ p = ρ this 57) σ σr := by
  unfold b_X12_goEvening_108 at hf
  rcases ite_some hf with ⟨_, hf⟩ | ⟨_, hf⟩
  · skip
    obtain ⟨_, hf⟩ := gd_some hf
    obtain ⟨_, hf⟩ := gd_some hf
    obtain ⟨σ28, eσ28, hf⟩ := nmd_some hf
    refine ag_I eσ28 (Or.inr (Or.inr (Or.inr (Or.inr (Or.inr rfl))))) ?_
    cases hf
    exact ag_refl
  · skip
    obtain ⟨_, hf⟩ := gd_some hf
    rcases ite_some hf with ⟨_, hf⟩ | ⟨_, hf⟩
    · skip
      obtain ⟨_, hf⟩ := gd_some hf
      obtain ⟨_, hf⟩ := gd_some hf
      obtain ⟨_, σ58, q1, hf⟩ := bnd_some hf
      refine ag_call (m_X12_within q1) (fun _ h => h.elim) ?_
      obtain ⟨_, hf⟩ := gd_some hf
      obtain ⟨σ61, eσ61, hf⟩ := nmd_some hf
      refine ag_I eσ61 (Or.inr (Or.inr (Or.inr (Or.inr (Or.inr rfl))))) ?_
      exact m_X12_goEvening_254 rec108 hrec108 _ _ hf
    · skip
      obtain ⟨_, hf⟩ := gd_some hf
      rcases ite_some hf with ⟨_, hf⟩ | ⟨_, hf⟩
      · skip
        obtain ⟨_, hf⟩ := gd_some hf
        obtain ⟨_, σ40, q2, hf⟩ := bnd_some hf
        refine ag_call (m_X12_within q2) (fun _ h => h.elim) ?_
        obtain ⟨_, hf⟩ := gd_some hf
        obtain ⟨σ43, eσ43, hf⟩ := nmd_some hf
        refine ag_I eσ43 (Or.inr (Or.inr (Or.inr (Or.inr (Or.inr rfl))))) ?_
        obtain ⟨_, hf⟩ := gd_some hf
        obtain ⟨_, hf⟩ := gd_some hf
        obtain ⟨_, σ47, q3, hf⟩ := bnd_some hf
        refine ag_call (m_X12_within q3) (fun _ h => h.elim) ?_
        obtain ⟨_, hf⟩ := gd_some hf
        obtain ⟨σ50, eσ50, hf⟩ := nmd_some hf
        refine ag_I eσ50 (Or.inr (Or.inr (Or.inr (Or.inr (Or.inr rfl))))) ?_
        obtain ⟨_, hf⟩ := gd_some hf
        obtain ⟨_, hf⟩ := gd_some hf
        obtain ⟨_, hf⟩ := gd_some hf
        obtain ⟨σ54, eσ54, hf⟩ := nmd_some hf
        refine ag_I eσ54 (Or.inr (Or.inr (Or.inr (Or.inr (Or.inr rfl))))) ?_
        exact m_X12_goEvening_254 rec108 hrec108 _ _ hf
      · skip
        obtain ⟨_, hf⟩ := gd_some hf
        rcases ite_some hf with ⟨_, hf⟩ | ⟨_, hf⟩
        · skip
          obtain ⟨_, hf⟩ := gd_some hf
          obtain ⟨_, hf⟩ := gd_some hf
          obtain ⟨σ37, eσ37, hf⟩ := nmd_some hf
          refine ag_I eσ37 (Or.inr (Or.inr (Or.inr (Or.inr (Or.inr rfl))))) ?_
          exact m_X12_goEvening_254 rec108 hrec108 _ _ hf
        · skip
          exact m_X12_goEvening_254 rec108 hrec108 _ _ hf
theorem m_X12_goEvening_108 {N : Nat} {ρ : Nat → Nat → Nat} {this : Nat} {a1 : Int32} {r : Int32} {σr : St} : ∀ (n : Nat) (x2 : Int32) (σ : St), f_X12_goEvening_108 N ρ this a1 n x2 σ = some (r, σr) → Ag (fun p => p = ρ this 58 ∨ p = ρ this 18 ∨ p = ρ this 26 ∨ p = ρ this 59 ∨ p = ρ this 60 ∨ p = ρ this 57) σ σr := by
  intro n
  induction n with
  | zero => intro x2 σ hf; cases hf
  | succ n ih => intro x2 σ hf; exact k_X12_goEvening_108 _ ih x2 σ hf
theorem k_X12_goEvening_2 {N : Nat} {ρ : Nat → Nat → Nat} {this : Nat} {a1 : Int32} {r : Int32} {σr : St} (rec2 : Int32 → St → Option (Int32 × St)) (hrec2 : ∀ (x2 : Int32) (σ : St), rec2 x2 σ = some (r, σr) → Ag (fun p => p = ρ this 58 ∨ p = ρ this 18 ∨ p = ρ this 26 ∨ p = ρ this 59 ∨ p = ρ this 60 ∨ p = ρ this 57) σ σr) (x2 : Int32) (σ : St) (hf : b_X12_goEvening_2 N ρ this a1 rec2 x2 σ = some (r, σr)) : Ag (fun p => p = ρ this 58 ∨ p = ρ this 18 ∨ p = ρ this 26 ∨ p = ρ this 59 ∨ p = ρ this 60 ∨ p = ρ this 57) σ σr := by
  unfold b_X12_goEvening_2 at hf
  rcases ite_some hf with ⟨_, hf⟩ | ⟨_, hf⟩
  · skip
    exact m_X12_goEvening_108 N _ _ hf
  · skip
    obtain ⟨_, hf⟩ := gd_some hf
    obtain ⟨y64, ey64, hf⟩ := nmd_some hf
    rcases ite_some hf with ⟨_, hf⟩ | ⟨_, hf⟩
    · skip
      exact m_X12_goEvening_42 rec2 hrec2 _ _ _ _ hf
    · skip
      rcases ite_some hf with ⟨_, hf⟩ | ⟨_, hf⟩
      · skip
        exact m_X12_goEvening_47 rec2 hrec2 _ _ _ _ _ hf
      · skip
        exact m_X12_goEvening_42 rec2 hrec2 _ _ _ _ hf
theorem m_X12_goEvening_2 {N : Nat} {ρ : Nat → Nat → Nat} {this : Nat} {a1 : Int32} {r : Int32} {σr : St} : ∀ (n : Nat) (x2 : Int32) (σ : St), f_X12_goEvening_2 N ρ this a1 n x2 σ = some (r, σr) → Ag (fun p => p = ρ this 58 ∨ p = ρ this 18 ∨ p = ρ this 26 ∨ p = ρ this 59 ∨ p = ρ this 60 ∨ p = ρ this 57) σ σr := by
  intro n
  induction n with
  | zero => intro x2 σ hf; cases hf
  | succ n ih => intro x2 σ hf; exact k_X12_goEvening_2 _ ih x2 σ hf
theorem m_X12_goEvening {N : Nat} {ρ : Nat → Nat → Nat} {this : Nat} {a1 : Int32} {r : Int32} {σr : St} {σ : St} (hf : f_X12_goEvening N ρ this a1 σ = some (r, σr)) : Ag (fun p => p = ρ this 58 ∨ p = ρ this 18 ∨ p = ρ this 26 ∨ p = ρ this 59 ∨ p = ρ this 60 ∨ p = ρ this 57) σ σr := by
  unfold f_X12_goEvening at hf
  exact m_X12_goEvening_2 N _ _ hf
theorem m_X12_drawCold_60 {N : Nat} {ρ : Nat → Nat → Nat} {this : Nat} {r : Int32} {σr : St} (rec4 : Int32 → Int32 → St → Option (Int32 × St)) (hrec4 : ∀ (x1 : Int32) (x2 : Int32) (σ : St), rec4 x1 x2 σ = some (r, σr) → Ag (fun p => p = ρ this 57) σ σr) (x2 : Int32) (s0 : Int32) (s1 : Int32) (σ : St) (hf : f_X12_drawCold_60 N ρ this rec4 x2 s0 s1 σ = some (r, σr)) : Ag (fun p => p = ρ this 57) σ σr := by
  unfold f_X12_drawCold_60 at hf
  obtain ⟨_, σ2, q1, hf⟩ := bnd_some hf
  refine ag_call (m_X12_truth q1) (fun _ h => h.elim) ?_
  obtain ⟨y4, ey4, hf⟩ := nmd_some hf
  exact hrec4 _ _ _ hf
theorem k_X12_drawCold_4 {N : Nat} {ρ : Nat → Nat → Nat} {this : Nat} {r : Int32} {σr : St} (rec4 : Int32 → Int32 → St → Option (Int32 × St)) (hrec4 : ∀ (x1 : Int32) (x2 : Int32) (σ : St), rec4 x1 x2 σ = some (r, σr) → Ag (fun p => p = ρ this 57) σ σr) (x1 : Int32) (x2 : Int32) (σ : St) (hf : b_X12_drawCold_4 N ρ this rec4 x1 x2 σ = some (r, σr)) : Ag (fun p => p = ρ this 57) σ σr := by
  unfold b_X12_drawCold_4 at hf
  rcases ite_some hf with ⟨_, hf⟩ | ⟨_, hf⟩
  · skip
    cases hf
    exact ag_refl
  · skip
    obtain ⟨_, hf⟩ := gd_some hf
    obtain ⟨_, hf⟩ := gd_some hf
    obtain ⟨σ8, eσ8, hf⟩ := nmd_some hf
    refine ag_I eσ8 rfl ?_
    obtain ⟨_, hf⟩ := gd_some hf
    rcases ite_some hf with ⟨_, hf⟩ | ⟨_, hf⟩
    · skip
      exact m_X12_drawCold_60 rec4 hrec4 _ _ _ _ hf
    · skip
      exact m_X12_drawCold_60 rec4 hrec4 _ _ _ _ hf
theorem m_X12_drawCold_4 {N : Nat} {ρ : Nat → Nat → Nat} {this : Nat} {r : Int32} {σr : St} : ∀ (n : Nat) (x1 : Int32) (x2 : Int32) (σ : St), f_X12_drawCold_4 N ρ this n x1 x2 σ = some (r, σr) → Ag (fun p => p = ρ this 57) σ σr := by
  intro n
  induction n with
  | zero => intro x1 x2 σ hf; cases hf
  | succ n ih => intro x1 x2 σ hf; exact k_X12_drawCold_4 _ ih x1 x2 σ hf
theorem m_X12_drawCold {N : Nat} {ρ : Nat → Nat → Nat} {this : Nat} {r : Int32} {σr : St} {σ : St} (hf : f_X12_drawCold N ρ this σ = some (r, σr)) : Ag (fun p => p = ρ this 57) σ σr := by
  unfold f_X12_drawCold at hf
  exact m_X12_drawCold_4 N _ _ _ hf
theorem m_X12_isSaved_21 {N : Nat} {ρ : Nat → Nat → Nat} {this : Nat} {a1 : Int32} {r : Int32} {σr : St} (s0 : Int32) (σ : St) (hf : f_X12_isSaved_21 N ρ this a1 s0 σ = some (r, σr)) : Ag (fun p => False) σ σr := by
  unfold f_X12_isSaved_21 at hf
  obtain ⟨_, hf⟩ := gd_some hf
  cases hf
  exact ag_refl
theorem m_X12_isSaved {N : Nat} {ρ : Nat → Nat → Nat} {this : Nat} {a1 : Int32} {r : Int32} {σr : St} {σ : St} (hf : f_X12_isSaved N ρ this a1 σ = some (r, σr)) : Ag (fun p => False) σ σr := by
  unfold f_X12_isSaved at hf
  obtain ⟨_, hf⟩ := gd_some hf
  rcases ite_some hf with ⟨_, hf⟩ | ⟨_, hf⟩
  · skip
    exact m_X12_isSaved_21 _ _ hf
  · skip
    exact m_X12_isSaved_21 _ _ hf
theorem m_X12_hearth {N : Nat} {ρ : Nat → Nat → Nat} {this : Nat} {a1 : Int32} {a2 : Int32} {r : Int32} {σr : St} {σ : St} (hf : f_X12_hearth N ρ this a1 a2 σ = some (r, σr)) : Ag (fun p => p = ρ this 57) σ σr := by
  unfold f_X12_hearth at hf
  obtain ⟨_, σ2, q1, hf⟩ := bnd_some hf
  refine ag_call (m_X12_isHearth q1) (fun _ h => h.elim) ?_
  rcases ite_some hf with ⟨_, hf⟩ | ⟨_, hf⟩
  · skip
    cases hf
    exact ag_refl
  · skip
    obtain ⟨_, σ6, q2, hf⟩ := bnd_some hf
    refine ag_call (m_X12_fill q2) (fun _ h => h) ?_
    rcases ite_some hf with ⟨_, hf⟩ | ⟨_, hf⟩
    · skip
      obtain ⟨_, hf⟩ := gd_some hf
      cases hf
      exact ag_refl
    · skip
      rcases ite_some hf with ⟨_, hf⟩ | ⟨_, hf⟩
      · skip
        obtain ⟨_, hf⟩ := gd_some hf
        cases hf
        exact ag_refl
      · skip
        rcases ite_some hf with ⟨_, hf⟩ | ⟨_, hf⟩
        · skip
          obtain ⟨_, hf⟩ := gd_some hf
          cases hf
          exact ag_refl
        · skip
          rcases ite_some hf with ⟨_, hf⟩ | ⟨_, hf⟩
          · skip
            obtain ⟨_, hf⟩ := gd_some hf
            cases hf
            exact ag_refl
          · skip
            rcases ite_some hf with ⟨_, hf⟩ | ⟨_, hf⟩
            · skip
              obtain ⟨_, σ18, q3, hf⟩ := bnd_some hf
              refine ag_call (m_X12_sentTo q3) (fun _ h => h.elim) ?_
              cases hf
              exact ag_refl
            · skip
              rcases ite_some hf with ⟨_, hf⟩ | ⟨_, hf⟩
              · skip
                obtain ⟨_, σ22, q4, hf⟩ := bnd_some hf
                refine ag_call (m_X12_quarrels q4) (fun _ h => h.elim) ?_
                obtain ⟨_, σ25, q5, hf⟩ := bnd_some hf
                refine ag_call (m_X12_truth q5) (fun _ h => h.elim) ?_
                cases hf
                exact ag_refl
              · skip
                cases hf
                exact ag_refl
theorem m_X12_stool {N : Nat} {ρ : Nat → Nat → Nat} {this : Nat} {a1 : Int32} {a2 : Int32} {r : Int32} {σr : St} {σ : St} (hf : f_X12_stool N ρ this a1 a2 σ = some (r, σr)) : Ag (fun p => p = ρ this 57) σ σr := by
  unfold f_X12_stool at hf
  obtain ⟨_, σ2, q1, hf⟩ := bnd_some hf
  refine ag_call (m_X12_isStool q1) (fun _ h => h.elim) ?_
  rcases ite_some hf with ⟨_, hf⟩ | ⟨_, hf⟩
  · skip
    cases hf
    exact ag_refl
  · skip
    obtain ⟨_, σ6, q2, hf⟩ := bnd_some hf
    refine ag_call (m_X12_fill q2) (fun _ h => h) ?_
    rcases ite_some hf with ⟨_, hf⟩ | ⟨_, hf⟩
    · skip
      obtain ⟨_, hf⟩ := gd_some hf
      cases hf
      exact ag_refl
    · skip
      rcases ite_some hf with ⟨_, hf⟩ | ⟨_, hf⟩
      · skip
        obtain ⟨_, hf⟩ := gd_some hf
        cases hf
        exact ag_refl
      · skip
        rcases ite_some hf with ⟨_, hf⟩ | ⟨_, hf⟩
        · skip
          obtain ⟨_, hf⟩ := gd_some hf
          cases hf
          exact ag_refl
        · skip
          rcases ite_some hf with ⟨_, hf⟩ | ⟨_, hf⟩
          · skip
            obtain ⟨_, hf⟩ := gd_some hf
            cases hf
            exact ag_refl
          · skip
            rcases ite_some hf with ⟨_, hf⟩ | ⟨_, hf⟩
            · skip
              obtain ⟨_, hf⟩ := gd_some hf
              cases hf
              exact ag_refl
            · skip
              rcases ite_some hf with ⟨_, hf⟩ | ⟨_, hf⟩
              · skip
                obtain ⟨_, hf⟩ := gd_some hf
                cases hf
                exact ag_refl
              · skip
                rcases ite_some hf with ⟨_, hf⟩ | ⟨_, hf⟩
                · skip
                  obtain ⟨_, σ22, q3, hf⟩ := bnd_some hf
                  refine ag_call (m_X12_isSaved q3) (fun _ h => h.elim) ?_
                  obtain ⟨_, σ25, q4, hf⟩ := bnd_some hf
                  refine ag_call (m_X12_truth q4) (fun _ h => h.elim) ?_
                  cases hf
                  exact ag_refl
                · skip
                  cases hf
                  exact ag_refl
theorem m_X12_load_33 {N : Nat} {ρ : Nat → Nat → Nat} {this : Nat} {a1 : Int32} {r : Int32} {σr : St} (s0 : Int32) (σ : St) (hf : f_X12_load_33 N ρ this a1 s0 σ = some (r, σr)) : Ag (fun p => p = ρ this 57 ∨ p = ρ this 18 ∨ p = ρ this 26) σ σr := by
  unfold f_X12_load_33 at hf
  cases hf
  exact ag_refl
theorem m_X12_load_32 {N : Nat} {ρ : Nat → Nat → Nat} {this : Nat} {a1 : Int32} {r : Int32} {σr : St} (σ : St) (hf : f_X12_load_32 N ρ this a1 σ = some (r, σr)) : Ag (fun p => p = ρ this 57 ∨ p = ρ this 18 ∨ p = ρ this 26) σ σr := by
  unfold f_X12_load_32 at hf
  exact m_X12_load_33 _ _ hf
theorem m_X12_load {N : Nat} {ρ : Nat → Nat → Nat} {this : Nat} {a1 : Int32} {r : Int32} {σr : St} {σ : St} (hf : f_X12_load N ρ this a1 σ = some (r, σr)) : Ag (fun p => p = ρ this 57 ∨ p = ρ this 18 ∨ p = ρ this 26) σ σr := by
  unfold f_X12_load at hf
  obtain ⟨_, σ2, q1, hf⟩ := bnd_some hf
  refine ag_call (m_X12_fill q1) (fun _ h => (Or.inl h)) ?_
  obtain ⟨_, σ5, q2, hf⟩ := bnd_some hf
  refine ag_call (m_X12_isStool q2) (fun _ h => h.elim) ?_
  rcases ite_some hf with ⟨_, hf⟩ | ⟨_, hf⟩
  · skip
    exact m_X12_load_32 _ hf
  · skip
    obtain ⟨_, hf⟩ := gd_some hf
    rcases ite_some hf with ⟨_, hf⟩ | ⟨_, hf⟩
    · skip
      exact m_X12_load_32 _ hf
    · skip
      obtain ⟨_, σ11, q3, hf⟩ := bnd_some hf
      refine ag_call (m_X12_loadOf q3) (fun _ h => by
            rcases h with h | h
            · exact (Or.inr (Or.inl h))
            · exact (Or.inr (Or.inr h))) ?_
      exact m_X12_load_33 _ _ hf
theorem k_X12_act_51 {N : Nat} {ρ : Nat → Nat → Nat} {this : Nat} {r : Int32} {σr : St} (rec51 : Int32 → St → Option (Int32 × St)) (hrec51 : ∀ (x1 : Int32) (σ : St), rec51 x1 σ = some (r, σr) → Ag (fun p => p = this ∨ p = ρ this 57 ∨ p = ρ this 61) σ σr) (x1 : Int32) (σ : St) (hf : b_X12_act_51 N ρ this rec51 x1 σ = some (r, σr)) : Ag (fun p => p = this ∨ p = ρ this 57 ∨ p = ρ this 61) σ σr := by
  unfold b_X12_act_51 at hf
  rcases ite_some hf with ⟨_, hf⟩ | ⟨_, hf⟩
  · skip
    obtain ⟨σ2, eσ2, hf⟩ := nmd_some hf
    refine ag_I eσ2 (Or.inl rfl) ?_
    obtain ⟨σ3, eσ3, hf⟩ := nmd_some hf
    refine ag_I eσ3 (Or.inl rfl) ?_
    obtain ⟨_, σ5, q1, hf⟩ := bnd_some hf
    refine ag_call (m_X12_fill q1) (fun _ h => (Or.inr (Or.inl h))) ?_
    cases hf
    exact ag_refl
  · skip
    obtain ⟨_, hf⟩ := gd_some hf
    obtain ⟨_, hf⟩ := gd_some hf
    obtain ⟨σ9, eσ9, hf⟩ := nmd_some hf
    refine ag_I eσ9 (Or.inr (Or.inr rfl)) ?_
    exact hrec51 _ _ hf
theorem m_X12_act_51 {N : Nat} {ρ : Nat → Nat → Nat} {this : Nat} {r : Int32} {σr : St} : ∀ (n : Nat) (x1 : Int32) (σ : St), f_X12_act_51 N ρ this n x1 σ = some (r, σr) → Ag (fun p => p = this ∨ p = ρ this 57 ∨ p = ρ this 61) σ σr := by
  intro n
  induction n with
  | zero => intro x1 σ hf; cases hf
  | succ n ih => intro x1 σ hf; exact k_X12_act_51 _ ih x1 σ hf
theorem m_X12_act_49 {N : Nat} {ρ : Nat → Nat → Nat} {this : Nat} {r : Int32} {σr : St} (σ : St) (hf : f_X12_act_49 N ρ this σ = some (r, σr)) : Ag (fun p => p = this ∨ p = ρ this 57 ∨ p = ρ this 61) σ σr := by
  unfold f_X12_act_49 at hf
  exact m_X12_act_51 N _ _ hf
theorem k_X12_act_11 {N : Nat} {ρ : Nat → Nat → Nat} {this : Nat} {r : Int32} {σr : St} (rec11 : Int32 → St → Option (Int32 × St)) (hrec11 : ∀ (x1 : Int32) (σ : St), rec11 x1 σ = some (r, σr) → Ag (fun p => p = this ∨ p = ρ this 57 ∨ p = ρ this 61) σ σr) (x1 : Int32) (σ : St) (hf : b_X12_act_11 N ρ this rec11 x1 σ = some (r, σr)) : Ag (fun p => p = this ∨ p = ρ this 57 ∨ p = ρ this 61) σ σr := by
  unfold b_X12_act_11 at hf
  rcases ite_some hf with ⟨_, hf⟩ | ⟨_, hf⟩
  · skip
    obtain ⟨σ11, eσ11, hf⟩ := nmd_some hf
    refine ag_I eσ11 (Or.inl rfl) ?_
    exact m_X12_act_49 _ hf
  · skip
    obtain ⟨_, hf⟩ := gd_some hf
    obtain ⟨_, hf⟩ := gd_some hf
    obtain ⟨σ14, eσ14, hf⟩ := nmd_some hf
    refine ag_I eσ14 (Or.inr (Or.inr rfl)) ?_
    exact hrec11 _ _ hf
theorem m_X12_act_11 {N : Nat} {ρ : Nat → Nat → Nat} {this : Nat} {r : Int32} {σr : St} : ∀ (n : Nat) (x1 : Int32) (σ : St), f_X12_act_11 N ρ this n x1 σ = some (r, σr) → Ag (fun p => p = this ∨ p = ρ this 57 ∨ p = ρ this 61) σ σr := by
  intro n
  induction n with
  | zero => intro x1 σ hf; cases hf
  | succ n ih => intro x1 σ hf; exact k_X12_act_11 _ ih x1 σ hf
theorem m_X12_act {N : Nat} {ρ : Nat → Nat → Nat} {this : Nat} {r : Int32} {σr : St} {σ : St} (hf : f_X12_act N ρ this σ = some (r, σr)) : Ag (fun p => p = this ∨ p = ρ this 57 ∨ p = ρ this 61) σ σr := by
  unfold f_X12_act at hf
  rcases ite_some hf with ⟨_, hf⟩ | ⟨_, hf⟩
  · skip
    exact m_X12_act_11 N _ _ hf
  · skip
    exact m_X12_act_49 _ hf
theorem k_X12_exchange_2 {N : Nat} {ρ : Nat → Nat → Nat} {this : Nat} {a1 : Int32} {r : Int32} {σr : St} (rec2 : Int32 → St → Option (Int32 × St)) (hrec2 : ∀ (x2 : Int32) (σ : St), rec2 x2 σ = some (r, σr) → Ag (fun p => p = ρ this 61 ∨ p = ρ this 56) σ σr) (x2 : Int32) (σ : St) (hf : b_X12_exchange_2 N ρ this a1 rec2 x2 σ = some (r, σr)) : Ag (fun p => p = ρ this 61 ∨ p = ρ this 56) σ σr := by
  unfold b_X12_exchange_2 at hf
  rcases ite_some hf with ⟨_, hf⟩ | ⟨_, hf⟩
  · skip
    cases hf
    exact ag_refl
  · skip
    obtain ⟨_, hf⟩ := gd_some hf
    obtain ⟨y3, ey3, hf⟩ := nmd_some hf
    obtain ⟨_, hf⟩ := gd_some hf
    obtain ⟨_, hf⟩ := gd_some hf
    obtain ⟨σ6, eσ6, hf⟩ := nmd_some hf
    refine ag_I eσ6 (Or.inl rfl) ?_
    obtain ⟨_, hf⟩ := gd_some hf
    obtain ⟨σ8, eσ8, hf⟩ := nmd_some hf
    refine ag_I eσ8 (Or.inr rfl) ?_
    exact hrec2 _ _ hf
theorem m_X12_exchange_2 {N : Nat} {ρ : Nat → Nat → Nat} {this : Nat} {a1 : Int32} {r : Int32} {σr : St} : ∀ (n : Nat) (x2 : Int32) (σ : St), f_X12_exchange_2 N ρ this a1 n x2 σ = some (r, σr) → Ag (fun p => p = ρ this 61 ∨ p = ρ this 56) σ σr := by
  intro n
  induction n with
  | zero => intro x2 σ hf; cases hf
  | succ n ih => intro x2 σ hf; exact k_X12_exchange_2 _ ih x2 σ hf
theorem m_X12_exchange {N : Nat} {ρ : Nat → Nat → Nat} {this : Nat} {a1 : Int32} {r : Int32} {σr : St} {σ : St} (hf : f_X12_exchange N ρ this a1 σ = some (r, σr)) : Ag (fun p => p = ρ this 61 ∨ p = ρ this 56) σ σr := by
  unfold f_X12_exchange at hf
  exact m_X12_exchange_2 N _ _ hf
theorem m_X12_hasRoom_22 {N : Nat} {ρ : Nat → Nat → Nat} {this : Nat} {a1 : Int32} {r : Int32} {σr : St} (s0 : Int32) (σ : St) (hf : f_X12_hasRoom_22 N ρ this a1 s0 σ = some (r, σr)) : Ag (fun p => False) σ σr := by
  unfold f_X12_hasRoom_22 at hf
  obtain ⟨_, hf⟩ := gd_some hf
  cases hf
  exact ag_refl
theorem m_X12_hasRoom {N : Nat} {ρ : Nat → Nat → Nat} {this : Nat} {a1 : Int32} {r : Int32} {σr : St} {σ : St} (hf : f_X12_hasRoom N ρ this a1 σ = some (r, σr)) : Ag (fun p => False) σ σr := by
  unfold f_X12_hasRoom at hf
  obtain ⟨_, σ3, q1, hf⟩ := bnd_some hf
  refine ag_call (m_X12_sentTo q1) (fun _ h => h.elim) ?_
  obtain ⟨_, σ6, q2, hf⟩ := bnd_some hf
  refine ag_call (m_X12_members q2) (fun _ h => h.elim) ?_
  obtain ⟨_, hf⟩ := gd_some hf
  rcases ite_some hf with ⟨_, hf⟩ | ⟨_, hf⟩
  · skip
    exact m_X12_hasRoom_22 _ _ hf
  · skip
    exact m_X12_hasRoom_22 _ _ hf
theorem m_X12_send_41 {N : Nat} {ρ : Nat → Nat → Nat} {this : Nat} {a1 : Int32} {a2 : Int32} {r : Int32} {σr : St} (σ : St) (hf : f_X12_send_41 N ρ this a1 a2 σ = some (r, σr)) : Ag (fun p => p = ρ this 57 ∨ p = this ∨ p = ρ this 61 ∨ p = ρ this 56) σ σr := by
  unfold f_X12_send_41 at hf
  cases hf
  exact ag_refl
theorem m_X12_send {N : Nat} {ρ : Nat → Nat → Nat} {this : Nat} {a1 : Int32} {a2 : Int32} {r : Int32} {σr : St} {σ : St} (hf : f_X12_send N ρ this a1 a2 σ = some (r, σr)) : Ag (fun p => p = ρ this 57 ∨ p = this ∨ p = ρ this 61 ∨ p = ρ this 56) σ σr := by
  unfold f_X12_send at hf
  obtain ⟨_, σ2, q1, hf⟩ := bnd_some hf
  refine ag_call (m_X12_fill q1) (fun _ h => (Or.inl h)) ?_
  obtain ⟨_, σ5, q2, hf⟩ := bnd_some hf
  refine ag_call (m_X12_isStool q2) (fun _ h => h.elim) ?_
  rcases ite_some hf with ⟨_, hf⟩ | ⟨_, hf⟩
  · skip
    exact m_X12_send_41 _ hf
  · skip
    obtain ⟨_, σ9, q3, hf⟩ := bnd_some hf
    refine ag_call (m_X12_isHearth q3) (fun _ h => h.elim) ?_
    rcases ite_some hf with ⟨_, hf⟩ | ⟨_, hf⟩
    · skip
      exact m_X12_send_41 _ hf
    · skip
      obtain ⟨_, hf⟩ := gd_some hf
      rcases ite_some hf with ⟨_, hf⟩ | ⟨_, hf⟩
      · skip
        exact m_X12_send_41 _ hf
      · skip
        obtain ⟨_, σ15, q4, hf⟩ := bnd_some hf
        refine ag_call (m_X12_hasRoom q4) (fun _ h => h.elim) ?_
        rcases ite_some hf with ⟨_, hf⟩ | ⟨_, hf⟩
        · skip
          exact m_X12_send_41 _ hf
        · skip
          obtain ⟨_, σ19, q5, hf⟩ := bnd_some hf
          refine ag_call (m_X12_act q5) (fun _ h => by
                rcases h with h | h | h
                · exact (Or.inr (Or.inl h))
                · exact (Or.inl h)
                · exact (Or.inr (Or.inr (Or.inl h)))) ?_
          obtain ⟨_, hf⟩ := gd_some hf
          obtain ⟨y22, ey22, hf⟩ := nmd_some hf
          obtain ⟨_, hf⟩ := gd_some hf
          obtain ⟨σ24, eσ24, hf⟩ := nmd_some hf
          refine ag_I eσ24 (Or.inr (Or.inr (Or.inr rfl))) ?_
          cases hf
          exact ag_refl
theorem m_X12_call_20 {N : Nat} {ρ : Nat → Nat → Nat} {this : Nat} {a1 : Int32} {r : Int32} {σr : St} (σ : St) (hf : f_X12_call_20 N ρ this a1 σ = some (r, σr)) : Ag (fun p => p = this ∨ p = ρ this 57 ∨ p = ρ this 61 ∨ p = ρ this 56) σ σr := by
  unfold f_X12_call_20 at hf
  cases hf
  exact ag_refl
theorem m_X12_call {N : Nat} {ρ : Nat → Nat → Nat} {this : Nat} {a1 : Int32} {r : Int32} {σr : St} {σ : St} (hf : f_X12_call N ρ this a1 σ = some (r, σr)) : Ag (fun p => p = this ∨ p = ρ this 57 ∨ p = ρ this 61 ∨ p = ρ this 56) σ σr := by
  unfold f_X12_call at hf
  obtain ⟨_, σ2, q1, hf⟩ := bnd_some hf
  refine ag_call (m_X12_isStool q1) (fun _ h => h.elim) ?_
  rcases ite_some hf with ⟨_, hf⟩ | ⟨_, hf⟩
  · skip
    exact m_X12_call_20 _ hf
  · skip
    obtain ⟨_, hf⟩ := gd_some hf
    rcases ite_some hf with ⟨_, hf⟩ | ⟨_, hf⟩
    · skip
      obtain ⟨_, σ8, q2, hf⟩ := bnd_some hf
      refine ag_call (m_X12_act q2) (fun _ h => by
            rcases h with h | h | h
            · exact (Or.inl h)
            · exact (Or.inr (Or.inl h))
            · exact (Or.inr (Or.inr (Or.inl h)))) ?_
      obtain ⟨_, hf⟩ := gd_some hf
      obtain ⟨y11, ey11, hf⟩ := nmd_some hf
      obtain ⟨_, hf⟩ := gd_some hf
      obtain ⟨σ13, eσ13, hf⟩ := nmd_some hf
      refine ag_I eσ13 (Or.inr (Or.inr (Or.inr rfl))) ?_
      cases hf
      exact ag_refl
    · skip
      exact m_X12_call_20 _ hf
theorem m_X12_evening {N : Nat} {ρ : Nat → Nat → Nat} {this : Nat} {r : Int32} {σr : St} {σ : St} (hf : f_X12_evening N ρ this σ = some (r, σr)) : Ag (fun p => p = this ∨ p = ρ this 57 ∨ p = ρ this 61 ∨ p = ρ this 58 ∨ p = ρ this 18 ∨ p = ρ this 26 ∨ p = ρ this 59 ∨ p = ρ this 60 ∨ p = ρ this 56) σ σr := by
  unfold f_X12_evening at hf
  obtain ⟨_, hf⟩ := gd_some hf
  rcases ite_some hf with ⟨_, hf⟩ | ⟨_, hf⟩
  · skip
    cases hf
    exact ag_refl
  · skip
    obtain ⟨_, σ4, q1, hf⟩ := bnd_some hf
    refine ag_call (m_X12_act q1) (fun _ h => by
          rcases h with h | h | h
          · exact (Or.inl h)
          · exact (Or.inr (Or.inl h))
          · exact (Or.inr (Or.inr (Or.inl h)))) ?_
    obtain ⟨_, σ7, q2, hf⟩ := bnd_some hf
    refine ag_call (m_X12_drawCold q2) (fun _ h => (Or.inr (Or.inl h))) ?_
    obtain ⟨_, σ10, q3, hf⟩ := bnd_some hf
    refine ag_call (m_X12_goEvening q3) (fun _ h => by
          rcases h with h | h | h | h | h | h
          · exact (Or.inr (Or.inr (Or.inr (Or.inl h))))
          · exact (Or.inr (Or.inr (Or.inr (Or.inr (Or.inl h)))))
          · exact (Or.inr (Or.inr (Or.inr (Or.inr (Or.inr (Or.inl h))))))
          · exact (Or.inr (Or.inr (Or.inr (Or.inr (Or.inr (Or.inr (Or.inl h)))))))
          · exact (Or.inr (Or.inr (Or.inr (Or.inr (Or.inr (Or.inr (Or.inr (Or.inl h))))))))
          · exact (Or.inr (Or.inl h))) ?_
    obtain ⟨_, σ13, q4, hf⟩ := bnd_some hf
    refine ag_call (m_X12_keepAir q4) (fun _ h => (Or.inr (Or.inr (Or.inr (Or.inr (Or.inr (Or.inr (Or.inr (Or.inr h))))))))) ?_
    cases hf
    exact ag_refl
theorem m_X12_undo {N : Nat} {ρ : Nat → Nat → Nat} {this : Nat} {r : Int32} {σr : St} {σ : St} (hf : f_X12_undo N ρ this σ = some (r, σr)) : Ag (fun p => p = this ∨ p = ρ this 61 ∨ p = ρ this 56) σ σr := by
  unfold f_X12_undo at hf
  rcases ite_some hf with ⟨_, hf⟩ | ⟨_, hf⟩
  · skip
    cases hf
    exact ag_refl
  · skip
    obtain ⟨σ2, eσ2, hf⟩ := nmd_some hf
    refine ag_I eσ2 (Or.inl rfl) ?_
    obtain ⟨σ3, eσ3, hf⟩ := nmd_some hf
    refine ag_I eσ3 (Or.inl rfl) ?_
    obtain ⟨_, σ5, q1, hf⟩ := bnd_some hf
    refine ag_call (m_X12_exchange q1) (fun _ h => by
          rcases h with h | h
          · exact (Or.inr (Or.inl h))
          · exact (Or.inr (Or.inr h))) ?_
    cases hf
    exact ag_refl
theorem m_X12_redo {N : Nat} {ρ : Nat → Nat → Nat} {this : Nat} {r : Int32} {σr : St} {σ : St} (hf : f_X12_redo N ρ this σ = some (r, σr)) : Ag (fun p => p = ρ this 61 ∨ p = ρ this 56 ∨ p = this) σ σr := by
  unfold f_X12_redo at hf
  rcases ite_some hf with ⟨_, hf⟩ | ⟨_, hf⟩
  · skip
    cases hf
    exact ag_refl
  · skip
    obtain ⟨_, σ3, q1, hf⟩ := bnd_some hf
    refine ag_call (m_X12_exchange q1) (fun _ h => by
          rcases h with h | h
          · exact (Or.inl h)
          · exact (Or.inr (Or.inl h))) ?_
    obtain ⟨σ5, eσ5, hf⟩ := nmd_some hf
    refine ag_I eσ5 (Or.inr (Or.inr rfl)) ?_
    obtain ⟨σ6, eσ6, hf⟩ := nmd_some hf
    refine ag_I eσ6 (Or.inr (Or.inr rfl)) ?_
    cases hf
    exact ag_refl
theorem m_X12_tonight {N : Nat} {ρ : Nat → Nat → Nat} {this : Nat} {a1 : Int32} {r : Int32} {σr : St} {σ : St} (hf : f_X12_tonight N ρ this a1 σ = some (r, σr)) : Ag (fun p => p = ρ this 57 ∨ p = ρ this 18 ∨ p = ρ this 26) σ σr := by
  unfold f_X12_tonight at hf
  obtain ⟨_, σ2, q1, hf⟩ := bnd_some hf
  refine ag_call (m_X12_isIn q1) (fun _ h => h.elim) ?_
  rcases ite_some hf with ⟨_, hf⟩ | ⟨_, hf⟩
  · skip
    cases hf
    exact ag_refl
  · skip
    obtain ⟨_, σ6, q2, hf⟩ := bnd_some hf
    refine ag_call (m_X12_fill q2) (fun _ h => (Or.inl h)) ?_
    obtain ⟨_, σ9, q3, hf⟩ := bnd_some hf
    refine ag_call (m_X12_whoFares q3) (fun _ h => by
          rcases h with h | h
          · exact (Or.inr (Or.inl h))
          · exact (Or.inr (Or.inr h))) ?_
    cases hf
    exact ag_refl
theorem m_X12_wayOf_24 {N : Nat} {ρ : Nat → Nat → Nat} {this : Nat} {a1 : Int32} {a2 : Int32} {r : Int32} {σr : St} (s0 : Int32) (σ : St) (hf : f_X12_wayOf_24 N ρ this a1 a2 s0 σ = some (r, σr)) : Ag (fun p => False) σ σr := by
  unfold f_X12_wayOf_24 at hf
  cases hf
  exact ag_refl
theorem m_X12_wayOf {N : Nat} {ρ : Nat → Nat → Nat} {this : Nat} {a1 : Int32} {a2 : Int32} {r : Int32} {σr : St} {σ : St} (hf : f_X12_wayOf N ρ this a1 a2 σ = some (r, σr)) : Ag (fun p => False) σ σr := by
  unfold f_X12_wayOf at hf
  rcases ite_some hf with ⟨_, hf⟩ | ⟨_, hf⟩
  · skip
    obtain ⟨_, hf⟩ := gd_some hf
    obtain ⟨_, hf⟩ := gd_some hf
    obtain ⟨_, σ5, q1, hf⟩ := bnd_some hf
    refine ag_call (m_X12_plain q1) (fun _ h => h.elim) ?_
    exact m_X12_wayOf_24 _ _ hf
  · skip
    exact m_X12_wayOf_24 _ _ hf
theorem k_X12_walkOf_4 {N : Nat} {ρ : Nat → Nat → Nat} {this : Nat} {r : Int32} {σr : St} (rec4 : Int32 → Int32 → St → Option (Int32 × St)) (hrec4 : ∀ (x1 : Int32) (x2 : Int32) (σ : St), rec4 x1 x2 σ = some (r, σr) → Ag (fun p => False) σ σr) (x1 : Int32) (x2 : Int32) (σ : St) (hf : b_X12_walkOf_4 N ρ this rec4 x1 x2 σ = some (r, σr)) : Ag (fun p => False) σ σr := by
  unfold b_X12_walkOf_4 at hf
  rcases ite_some hf with ⟨_, hf⟩ | ⟨_, hf⟩
  · skip
    cases hf
    exact ag_refl
  · skip
    obtain ⟨_, hf⟩ := gd_some hf
    obtain ⟨_, σ4, q1, hf⟩ := bnd_some hf
    refine ag_call (m_X12_wayOf q1) (fun _ h => h.elim) ?_
    obtain ⟨y6, ey6, hf⟩ := nmd_some hf
    exact hrec4 _ _ _ hf
theorem m_X12_walkOf_4 {N : Nat} {ρ : Nat → Nat → Nat} {this : Nat} {r : Int32} {σr : St} : ∀ (n : Nat) (x1 : Int32) (x2 : Int32) (σ : St), f_X12_walkOf_4 N ρ this n x1 x2 σ = some (r, σr) → Ag (fun p => False) σ σr := by
  intro n
  induction n with
  | zero => intro x1 x2 σ hf; cases hf
  | succ n ih => intro x1 x2 σ hf; exact k_X12_walkOf_4 _ ih x1 x2 σ hf
theorem m_X12_walkOf {N : Nat} {ρ : Nat → Nat → Nat} {this : Nat} {r : Int32} {σr : St} {σ : St} (hf : f_X12_walkOf N ρ this σ = some (r, σr)) : Ag (fun p => False) σ σr := by
  unfold f_X12_walkOf at hf
  exact m_X12_walkOf_4 N _ _ _ hf
theorem m_X12_walk {N : Nat} {ρ : Nat → Nat → Nat} {this : Nat} {r : Int32} {σr : St} {σ : St} (hf : f_X12_walk N ρ this σ = some (r, σr)) : Ag (fun p => p = ρ this 57) σ σr := by
  unfold f_X12_walk at hf
  obtain ⟨_, σ2, q1, hf⟩ := bnd_some hf
  refine ag_call (m_X12_fill q1) (fun _ h => h) ?_
  obtain ⟨_, σ5, q2, hf⟩ := bnd_some hf
  refine ag_call (m_X12_walkOf q2) (fun _ h => h.elim) ?_
  cases hf
  exact ag_refl
theorem k_X12_power_4 {N : Nat} {ρ : Nat → Nat → Nat} {a1 : Int32} {a2 : Int32} {r : Int32} {σr : St} (rec4 : Int32 → Int32 → St → Option (Int32 × St)) (hrec4 : ∀ (x2 : Int32) (x3 : Int32) (σ : St), rec4 x2 x3 σ = some (r, σr) → Ag (fun p => False) σ σr) (x2 : Int32) (x3 : Int32) (σ : St) (hf : b_X12_power_4 N ρ a1 a2 rec4 x2 x3 σ = some (r, σr)) : Ag (fun p => False) σ σr := by
  unfold b_X12_power_4 at hf
  rcases ite_some hf with ⟨_, hf⟩ | ⟨_, hf⟩
  · skip
    cases hf
    exact ag_refl
  · skip
    obtain ⟨y2, ey2, hf⟩ := nmd_some hf
    exact hrec4 _ _ _ hf
theorem m_X12_power_4 {N : Nat} {ρ : Nat → Nat → Nat} {a1 : Int32} {a2 : Int32} {r : Int32} {σr : St} : ∀ (n : Nat) (x2 : Int32) (x3 : Int32) (σ : St), f_X12_power_4 N ρ a1 a2 n x2 x3 σ = some (r, σr) → Ag (fun p => False) σ σr := by
  intro n
  induction n with
  | zero => intro x2 x3 σ hf; cases hf
  | succ n ih => intro x2 x3 σ hf; exact k_X12_power_4 _ ih x2 x3 σ hf
theorem m_X12_power {N : Nat} {ρ : Nat → Nat → Nat} {a1 : Int32} {a2 : Int32} {r : Int32} {σr : St} {σ : St} (hf : f_X12_power N ρ a1 a2 σ = some (r, σr)) : Ag (fun p => False) σ σr := by
  unfold f_X12_power at hf
  exact m_X12_power_4 N _ _ _ hf
theorem m_X12_laySending_46 {N : Nat} {ρ : Nat → Nat → Nat} {this : Nat} {a1 : Int32} {r : Int32} {σr : St} (rec9 : Int32 → Int32 → St → Option (Int32 × St)) (hrec9 : ∀ (x2 : Int32) (x3 : Int32) (σ : St), rec9 x2 x3 σ = some (r, σr) → Ag (fun p => p = ρ this 57) σ σr) (x2 : Int32) (x3 : Int32) (s0 : Int32) (s1 : Int32) (σ : St) (hf : f_X12_laySending_46 N ρ this a1 rec9 x2 x3 s0 s1 σ = some (r, σr)) : Ag (fun p => p = ρ this 57) σ σr := by
  unfold f_X12_laySending_46 at hf
  obtain ⟨_, hf⟩ := gd_some hf
  obtain ⟨σ2, eσ2, hf⟩ := nmd_some hf
  refine ag_I eσ2 rfl ?_
  obtain ⟨_, hf⟩ := gd_some hf
  obtain ⟨y4, ey4, hf⟩ := nmd_some hf
  exact hrec9 _ _ _ hf
theorem m_X12_laySending_104 {N : Nat} {ρ : Nat → Nat → Nat} {this : Nat} {a1 : Int32} {r : Int32} {σr : St} (rec67 : Int32 → Int32 → St → Option (Int32 × St)) (hrec67 : ∀ (x3 : Int32) (x4 : Int32) (σ : St), rec67 x3 x4 σ = some (r, σr) → Ag (fun p => p = ρ this 57) σ σr) (x4 : Int32) (s0 : Int32) (σ : St) (hf : f_X12_laySending_104 N ρ this a1 rec67 x4 s0 σ = some (r, σr)) : Ag (fun p => p = ρ this 57) σ σr := by
  unfold f_X12_laySending_104 at hf
  exact hrec67 _ _ _ hf
theorem m_X12_laySending_103 {N : Nat} {ρ : Nat → Nat → Nat} {this : Nat} {a1 : Int32} {r : Int32} {σr : St} (rec67 : Int32 → Int32 → St → Option (Int32 × St)) (hrec67 : ∀ (x3 : Int32) (x4 : Int32) (σ : St), rec67 x3 x4 σ = some (r, σr) → Ag (fun p => p = ρ this 57) σ σr) (x4 : Int32) (σ : St) (hf : f_X12_laySending_103 N ρ this a1 rec67 x4 σ = some (r, σr)) : Ag (fun p => p = ρ this 57) σ σr := by
  unfold f_X12_laySending_103 at hf
  exact m_X12_laySending_104 rec67 hrec67 _ _ _ hf
theorem k_X12_laySending_67 {N : Nat} {ρ : Nat → Nat → Nat} {this : Nat} {a1 : Int32} {r : Int32} {σr : St} (rec67 : Int32 → Int32 → St → Option (Int32 × St)) (hrec67 : ∀ (x3 : Int32) (x4 : Int32) (σ : St), rec67 x3 x4 σ = some (r, σr) → Ag (fun p => p = ρ this 57) σ σr) (x3 : Int32) (x4 : Int32) (σ : St) (hf : b_X12_laySending_67 N ρ this a1 rec67 x3 x4 σ = some (r, σr)) : Ag (fun p => p = ρ this 57) σ σr := by
  unfold b_X12_laySending_67 at hf
  rcases ite_some hf with ⟨_, hf⟩ | ⟨_, hf⟩
  · skip
    obtain ⟨_, hf⟩ := gd_some hf
    cases hf
    exact ag_refl
  · skip
    rcases ite_some hf with ⟨_, hf⟩ | ⟨_, hf⟩
    · skip
      exact m_X12_laySending_103 rec67 hrec67 _ _ hf
    · skip
      obtain ⟨_, σ9, q1, hf⟩ := bnd_some hf
      refine ag_call (m_X12_sentTo q1) (fun _ h => h.elim) ?_
      obtain ⟨_, σ12, q2, hf⟩ := bnd_some hf
      refine ag_call (m_X12_members q2) (fun _ h => h.elim) ?_
      obtain ⟨_, hf⟩ := gd_some hf
      rcases ite_some hf with ⟨_, hf⟩ | ⟨_, hf⟩
      · skip
        exact m_X12_laySending_103 rec67 hrec67 _ _ hf
      · skip
        exact m_X12_laySending_104 rec67 hrec67 _ _ _ hf
theorem m_X12_laySending_67 {N : Nat} {ρ : Nat → Nat → Nat} {this : Nat} {a1 : Int32} {r : Int32} {σr : St} : ∀ (n : Nat) (x3 : Int32) (x4 : Int32) (σ : St), f_X12_laySending_67 N ρ this a1 n x3 x4 σ = some (r, σr) → Ag (fun p => p = ρ this 57) σ σr := by
  intro n
  induction n with
  | zero => intro x3 x4 σ hf; cases hf
  | succ n ih => intro x3 x4 σ hf; exact k_X12_laySending_67 _ ih x3 x4 σ hf
theorem k_X12_laySending_9 {N : Nat} {ρ : Nat → Nat → Nat} {this : Nat} {a1 : Int32} {r : Int32} {σr : St} (rec9 : Int32 → Int32 → St → Option (Int32 × St)) (hrec9 : ∀ (x2 : Int32) (x3 : Int32) (σ : St), rec9 x2 x3 σ = some (r, σr) → Ag (fun p => p = ρ this 57) σ σr) (x2 : Int32) (x3 : Int32) (σ : St) (hf : b_X12_laySending_9 N ρ this a1 rec9 x2 x3 σ = some (r, σr)) : Ag (fun p => p = ρ this 57) σ σr := by
  unfold b_X12_laySending_9 at hf
  rcases ite_some hf with ⟨_, hf⟩ | ⟨_, hf⟩
  · skip
    exact m_X12_laySending_67 N _ _ _ hf
  · skip
    obtain ⟨_, hf⟩ := gd_some hf
    obtain ⟨y18, ey18, hf⟩ := nmd_some hf
    rcases ite_some hf with ⟨_, hf⟩ | ⟨_, hf⟩
    · skip
      exact m_X12_laySending_46 rec9 hrec9 _ _ _ _ _ hf
    · skip
      exact m_X12_laySending_46 rec9 hrec9 _ _ _ _ _ hf
theorem m_X12_laySending_9 {N : Nat} {ρ : Nat → Nat → Nat} {this : Nat} {a1 : Int32} {r : Int32} {σr : St} : ∀ (n : Nat) (x2 : Int32) (x3 : Int32) (σ : St), f_X12_laySending_9 N ρ this a1 n x2 x3 σ = some (r, σr) → Ag (fun p => p = ρ this 57) σ σr := by
  intro n
  induction n with
  | zero => intro x2 x3 σ hf; cases hf
  | succ n ih => intro x2 x3 σ hf; exact k_X12_laySending_9 _ ih x2 x3 σ hf
theorem m_X12_laySending {N : Nat} {ρ : Nat → Nat → Nat} {this : Nat} {a1 : Int32} {r : Int32} {σr : St} {σ : St} (hf : f_X12_laySending N ρ this a1 σ = some (r, σr)) : Ag (fun p => p = ρ this 57) σ σr := by
  unfold f_X12_laySending at hf
  obtain ⟨y20, ey20, hf⟩ := nmd_some hf
  exact m_X12_laySending_9 N _ _ _ hf
theorem k_X12_putSending_2 {N : Nat} {ρ : Nat → Nat → Nat} {this : Nat} {r : Int32} {σr : St} (rec2 : Int32 → St → Option (Int32 × St)) (hrec2 : ∀ (x1 : Int32) (σ : St), rec2 x1 σ = some (r, σr) → Ag (fun p => p = this ∨ p = ρ this 64) σ σr) (x1 : Int32) (σ : St) (hf : b_X12_putSending_2 N ρ this rec2 x1 σ = some (r, σr)) : Ag (fun p => p = this ∨ p = ρ this 64) σ σr := by
  unfold b_X12_putSending_2 at hf
  rcases ite_some hf with ⟨_, hf⟩ | ⟨_, hf⟩
  · skip
    obtain ⟨σ2, eσ2, hf⟩ := nmd_some hf
    refine ag_I eσ2 (Or.inl rfl) ?_
    cases hf
    exact ag_refl
  · skip
    obtain ⟨_, hf⟩ := gd_some hf
    obtain ⟨_, hf⟩ := gd_some hf
    obtain ⟨σ5, eσ5, hf⟩ := nmd_some hf
    refine ag_I eσ5 (Or.inr rfl) ?_
    exact hrec2 _ _ hf
theorem m_X12_putSending_2 {N : Nat} {ρ : Nat → Nat → Nat} {this : Nat} {r : Int32} {σr : St} : ∀ (n : Nat) (x1 : Int32) (σ : St), f_X12_putSending_2 N ρ this n x1 σ = some (r, σr) → Ag (fun p => p = this ∨ p = ρ this 64) σ σr := by
  intro n
  induction n with
  | zero => intro x1 σ hf; cases hf
  | succ n ih => intro x1 σ hf; exact k_X12_putSending_2 _ ih x1 σ hf
theorem m_X12_putSending {N : Nat} {ρ : Nat → Nat → Nat} {this : Nat} {r : Int32} {σr : St} {σ : St} (hf : f_X12_putSending N ρ this σ = some (r, σr)) : Ag (fun p => p = this ∨ p = ρ this 64) σ σr := by
  unfold f_X12_putSending at hf
  exact m_X12_putSending_2 N _ _ hf
theorem m_X12_round_97 {N : Nat} {ρ : Nat → Nat → Nat} {this : Nat} {a1 : Int32} {r : Int32} {σr : St} (rec22 : Int32 → Int32 → Int32 → St → Option (Int32 × St)) (hrec22 : ∀ (x2 : Int32) (x3 : Int32) (x4 : Int32) (σ : St), rec22 x2 x3 x4 σ = some (r, σr) → Ag (fun p => p = this ∨ p = ρ this 64 ∨ p = ρ this 57 ∨ p = ρ this 18 ∨ p = ρ this 26) σ σr) (x2 : Int32) (x3 : Int32) (x4 : Int32) (σ : St) (hf : f_X12_round_97 N ρ this a1 rec22 x2 x3 x4 σ = some (r, σr)) : Ag (fun p => p = this ∨ p = ρ this 64 ∨ p = ρ this 57 ∨ p = ρ this 18 ∨ p = ρ this 26) σ σr := by
  unfold f_X12_round_97 at hf
  exact hrec22 _ _ _ _ hf
theorem m_X12_round_85 {N : Nat} {ρ : Nat → Nat → Nat} {this : Nat} {a1 : Int32} {r : Int32} {σr : St} (rec22 : Int32 → Int32 → Int32 → St → Option (Int32 × St)) (hrec22 : ∀ (x2 : Int32) (x3 : Int32) (x4 : Int32) (σ : St), rec22 x2 x3 x4 σ = some (r, σr) → Ag (fun p => p = this ∨ p = ρ this 64 ∨ p = ρ this 57 ∨ p = ρ this 18 ∨ p = ρ this 26) σ σr) (x4 : Int32) (x5 : Int32) (σ : St) (hf : f_X12_round_85 N ρ this a1 rec22 x4 x5 σ = some (r, σr)) : Ag (fun p => p = this ∨ p = ρ this 64 ∨ p = ρ this 57 ∨ p = ρ this 18 ∨ p = ρ this 26) σ σr := by
  unfold f_X12_round_85 at hf
  obtain ⟨_, σ2, q1, hf⟩ := bnd_some hf
  refine ag_call (m_X12_walkOf q1) (fun _ h => h.elim) ?_
  obtain ⟨_, σ5, q2, hf⟩ := bnd_some hf
  refine ag_call (m_X12_putSending q2) (fun _ h => by
        rcases h with h | h
        · exact (Or.inl h)
        · exact (Or.inr (Or.inl h))) ?_
  exact m_X12_round_97 rec22 hrec22 _ _ _ _ hf
theorem m_X12_round_112 {N : Nat} {ρ : Nat → Nat → Nat} {this : Nat} {a1 : Int32} {r : Int32} {σr : St} (s0 : Int32) (σ : St) (hf : f_X12_round_112 N ρ this a1 s0 σ = some (r, σr)) : Ag (fun p => p = this ∨ p = ρ this 64 ∨ p = ρ this 57 ∨ p = ρ this 18 ∨ p = ρ this 26) σ σr := by
  unfold f_X12_round_112 at hf
  cases hf
  exact ag_refl
theorem k_X12_round_22 {N : Nat} {ρ : Nat → Nat → Nat} {this : Nat} {a1 : Int32} {r : Int32} {σr : St} (rec22 : Int32 → Int32 → Int32 → St → Option (Int32 × St)) (hrec22 : ∀ (x2 : Int32) (x3 : Int32) (x4 : Int32) (σ : St), rec22 x2 x3 x4 σ = some (r, σr) → Ag (fun p => p = this ∨ p = ρ this 64 ∨ p = ρ this 57 ∨ p = ρ this 18 ∨ p = ρ this 26) σ σr) (x2 : Int32) (x3 : Int32) (x4 : Int32) (σ : St) (hf : b_X12_round_22 N ρ this a1 rec22 x2 x3 x4 σ = some (r, σr)) : Ag (fun p => p = this ∨ p = ρ this 64 ∨ p = ρ this 57 ∨ p = ρ this 18 ∨ p = ρ this 26) σ σr := by
  unfold b_X12_round_22 at hf
  obtain ⟨_, σ8, q1, hf⟩ := bnd_some hf
  refine ag_call (m_X12_power q1) (fun _ h => h.elim) ?_
  rcases ite_some hf with ⟨_, hf⟩ | ⟨_, hf⟩
  · skip
    rcases ite_some hf with ⟨_, hf⟩ | ⟨_, hf⟩
    · skip
      exact m_X12_round_112 _ _ hf
    · skip
      exact m_X12_round_112 _ _ hf
  · skip
    obtain ⟨_, σ13, q2, hf⟩ := bnd_some hf
    refine ag_call (m_X12_laySending q2) (fun _ h => (Or.inr (Or.inr (Or.inl h)))) ?_
    rcases ite_some hf with ⟨_, hf⟩ | ⟨_, hf⟩
    · skip
      exact m_X12_round_97 rec22 hrec22 _ _ _ _ hf
    · skip
      obtain ⟨_, σ17, q3, hf⟩ := bnd_some hf
      refine ag_call (m_X12_whoFares q3) (fun _ h => by
            rcases h with h | h
            · exact (Or.inr (Or.inr (Or.inr (Or.inl h))))
            · exact (Or.inr (Or.inr (Or.inr (Or.inr h))))) ?_
      obtain ⟨_, σ20, q4, hf⟩ := bnd_some hf
      refine ag_call (m_X12_members q4) (fun _ h => h.elim) ?_
      rcases ite_some hf with ⟨_, hf⟩ | ⟨_, hf⟩
      · skip
        exact m_X12_round_97 rec22 hrec22 _ _ _ _ hf
      · skip
        rcases ite_some hf with ⟨_, hf⟩ | ⟨_, hf⟩
        · skip
          obtain ⟨_, σ25, q5, hf⟩ := bnd_some hf
          refine ag_call (m_X12_walkOf q5) (fun _ h => h.elim) ?_
          rcases ite_some hf with ⟨_, hf⟩ | ⟨_, hf⟩
          · skip
            exact m_X12_round_85 rec22 hrec22 _ _ _ hf
          · skip
            exact m_X12_round_97 rec22 hrec22 _ _ _ _ hf
        · skip
          exact m_X12_round_85 rec22 hrec22 _ _ _ hf
theorem m_X12_round_22 {N : Nat} {ρ : Nat → Nat → Nat} {this : Nat} {a1 : Int32} {r : Int32} {σr : St} : ∀ (n : Nat) (x2 : Int32) (x3 : Int32) (x4 : Int32) (σ : St), f_X12_round_22 N ρ this a1 n x2 x3 x4 σ = some (r, σr) → Ag (fun p => p = this ∨ p = ρ this 64 ∨ p = ρ this 57 ∨ p = ρ this 18 ∨ p = ρ this 26) σ σr := by
  intro n
  induction n with
  | zero => intro x2 x3 x4 σ hf; cases hf
  | succ n ih => intro x2 x3 x4 σ hf; exact k_X12_round_22 _ ih x2 x3 x4 σ hf
theorem m_X12_round {N : Nat} {ρ : Nat → Nat → Nat} {this : Nat} {a1 : Int32} {r : Int32} {σr : St} {σ : St} (hf : f_X12_round N ρ this a1 σ = some (r, σr)) : Ag (fun p => p = this ∨ p = ρ this 64 ∨ p = ρ this 57 ∨ p = ρ this 18 ∨ p = ρ this 26) σ σr := by
  unfold f_X12_round at hf
  obtain ⟨_, σ29, q1, hf⟩ := bnd_some hf
  refine ag_call (m_X12_isIn q1) (fun _ h => h.elim) ?_
  rcases ite_some hf with ⟨_, hf⟩ | ⟨_, hf⟩
  · skip
    cases hf
    exact ag_refl
  · skip
    obtain ⟨_, σ33, q2, hf⟩ := bnd_some hf
    refine ag_call (m_X12_fill q2) (fun _ h => (Or.inr (Or.inr (Or.inl h)))) ?_
    exact m_X12_round_22 N _ _ _ _ hf
theorem m_X12_serves_57 {N : Nat} {ρ : Nat → Nat → Nat} {this : Nat} {r : Int32} {σr : St} (rec30 : Int32 → Int32 → Int32 → St → Option (Int32 × St)) (hrec30 : ∀ (x1 : Int32) (x2 : Int32) (x3 : Int32) (σ : St), rec30 x1 x2 x3 σ = some (r, σr) → Ag (fun p => p = ρ this 18 ∨ p = ρ this 26) σ σr) (x1 : Int32) (x3 : Int32) (s0 : Int32) (σ : St) (hf : f_X12_serves_57 N ρ this rec30 x1 x3 s0 σ = some (r, σr)) : Ag (fun p => p = ρ this 18 ∨ p = ρ this 26) σ σr := by
  unfold f_X12_serves_57 at hf
  exact hrec30 _ _ _ _ hf
theorem m_X12_serves_56 {N : Nat} {ρ : Nat → Nat → Nat} {this : Nat} {r : Int32} {σr : St} (rec30 : Int32 → Int32 → Int32 → St → Option (Int32 × St)) (hrec30 : ∀ (x1 : Int32) (x2 : Int32) (x3 : Int32) (σ : St), rec30 x1 x2 x3 σ = some (r, σr) → Ag (fun p => p = ρ this 18 ∨ p = ρ this 26) σ σr) (x1 : Int32) (x3 : Int32) (σ : St) (hf : f_X12_serves_56 N ρ this rec30 x1 x3 σ = some (r, σr)) : Ag (fun p => p = ρ this 18 ∨ p = ρ this 26) σ σr := by
  unfold f_X12_serves_56 at hf
  exact m_X12_serves_57 rec30 hrec30 _ _ _ _ hf
theorem k_X12_serves_30 {N : Nat} {ρ : Nat → Nat → Nat} {this : Nat} {r : Int32} {σr : St} (rec30 : Int32 → Int32 → Int32 → St → Option (Int32 × St)) (hrec30 : ∀ (x1 : Int32) (x2 : Int32) (x3 : Int32) (σ : St), rec30 x1 x2 x3 σ = some (r, σr) → Ag (fun p => p = ρ this 18 ∨ p = ρ this 26) σ σr) (x1 : Int32) (x2 : Int32) (x3 : Int32) (σ : St) (hf : b_X12_serves_30 N ρ this rec30 x1 x2 x3 σ = some (r, σr)) : Ag (fun p => p = ρ this 18 ∨ p = ρ this 26) σ σr := by
  unfold b_X12_serves_30 at hf
  rcases ite_some hf with ⟨_, hf⟩ | ⟨_, hf⟩
  · skip
    obtain ⟨_, hf⟩ := gd_some hf
    cases hf
    exact ag_refl
  · skip
    rcases ite_some hf with ⟨_, hf⟩ | ⟨_, hf⟩
    · skip
      exact m_X12_serves_56 rec30 hrec30 _ _ _ hf
    · skip
      obtain ⟨_, σ5, q1, hf⟩ := bnd_some hf
      refine ag_call (m_X12_sentTo q1) (fun _ h => h.elim) ?_
      rcases ite_some hf with ⟨_, hf⟩ | ⟨_, hf⟩
      · skip
        exact m_X12_serves_56 rec30 hrec30 _ _ _ hf
      · skip
        exact m_X12_serves_57 rec30 hrec30 _ _ _ _ hf
theorem m_X12_serves_30 {N : Nat} {ρ : Nat → Nat → Nat} {this : Nat} {r : Int32} {σr : St} : ∀ (n : Nat) (x1 : Int32) (x2 : Int32) (x3 : Int32) (σ : St), f_X12_serves_30 N ρ this n x1 x2 x3 σ = some (r, σr) → Ag (fun p => p = ρ this 18 ∨ p = ρ this 26) σ σr := by
  intro n
  induction n with
  | zero => intro x1 x2 x3 σ hf; cases hf
  | succ n ih => intro x1 x2 x3 σ hf; exact k_X12_serves_30 _ ih x1 x2 x3 σ hf
theorem m_X12_serves_27 {N : Nat} {ρ : Nat → Nat → Nat} {this : Nat} {r : Int32} {σr : St} (x1 : Int32) (s0 : Int32) (σ : St) (hf : f_X12_serves_27 N ρ this x1 s0 σ = some (r, σr)) : Ag (fun p => p = ρ this 18 ∨ p = ρ this 26) σ σr := by
  unfold f_X12_serves_27 at hf
  exact m_X12_serves_30 N _ _ _ _ hf
theorem m_X12_serves_26 {N : Nat} {ρ : Nat → Nat → Nat} {this : Nat} {r : Int32} {σr : St} (x1 : Int32) (σ : St) (hf : f_X12_serves_26 N ρ this x1 σ = some (r, σr)) : Ag (fun p => p = ρ this 18 ∨ p = ρ this 26) σ σr := by
  unfold f_X12_serves_26 at hf
  exact m_X12_serves_27 _ _ _ hf
theorem m_X12_serves {N : Nat} {ρ : Nat → Nat → Nat} {this : Nat} {r : Int32} {σr : St} {σ : St} (hf : f_X12_serves N ρ this σ = some (r, σr)) : Ag (fun p => p = ρ this 18 ∨ p = ρ this 26) σ σr := by
  unfold f_X12_serves at hf
  obtain ⟨_, σ9, q1, hf⟩ := bnd_some hf
  refine ag_call (m_X12_whoFares q1) (fun _ h => by
        rcases h with h | h
        · exact (Or.inl h)
        · exact (Or.inr h)) ?_
  obtain ⟨_, σ12, q2, hf⟩ := bnd_some hf
  refine ag_call (m_X12_whoFares q2) (fun _ h => by
        rcases h with h | h
        · exact (Or.inl h)
        · exact (Or.inr h)) ?_
  rcases ite_some hf with ⟨_, hf⟩ | ⟨_, hf⟩
  · skip
    obtain ⟨_, σ16, q3, hf⟩ := bnd_some hf
    refine ag_call (m_X12_whoFares q3) (fun _ h => by
          rcases h with h | h
          · exact (Or.inl h)
          · exact (Or.inr h)) ?_
    rcases ite_some hf with ⟨_, hf⟩ | ⟨_, hf⟩
    · skip
      exact m_X12_serves_27 _ _ _ hf
    · skip
      exact m_X12_serves_26 _ _ hf
  · skip
    exact m_X12_serves_26 _ _ hf
theorem m_X12_service_67 {N : Nat} {ρ : Nat → Nat → Nat} {this : Nat} {r : Int32} {σr : St} (rec15 : Int32 → Int32 → St → Option (Int32 × St)) (hrec15 : ∀ (x1 : Int32) (x2 : Int32) (σ : St), rec15 x1 x2 σ = some (r, σr) → Ag (fun p => p = ρ this 57 ∨ p = ρ this 18 ∨ p = ρ this 26 ∨ p = this ∨ p = ρ this 64) σ σr) (x1 : Int32) (x2 : Int32) (σ : St) (hf : f_X12_service_67 N ρ this rec15 x1 x2 σ = some (r, σr)) : Ag (fun p => p = ρ this 57 ∨ p = ρ this 18 ∨ p = ρ this 26 ∨ p = this ∨ p = ρ this 64) σ σr := by
  unfold f_X12_service_67 at hf
  exact hrec15 _ _ _ hf
theorem m_X12_service_85 {N : Nat} {ρ : Nat → Nat → Nat} {this : Nat} {r : Int32} {σr : St} (s0 : Int32) (σ : St) (hf : f_X12_service_85 N ρ this s0 σ = some (r, σr)) : Ag (fun p => p = ρ this 57 ∨ p = ρ this 18 ∨ p = ρ this 26 ∨ p = this ∨ p = ρ this 64) σ σr := by
  unfold f_X12_service_85 at hf
  cases hf
  exact ag_refl
theorem k_X12_service_15 {N : Nat} {ρ : Nat → Nat → Nat} {this : Nat} {r : Int32} {σr : St} (rec15 : Int32 → Int32 → St → Option (Int32 × St)) (hrec15 : ∀ (x1 : Int32) (x2 : Int32) (σ : St), rec15 x1 x2 σ = some (r, σr) → Ag (fun p => p = ρ this 57 ∨ p = ρ this 18 ∨ p = ρ this 26 ∨ p = this ∨ p = ρ this 64) σ σr) (x1 : Int32) (x2 : Int32) (σ : St) (hf : b_X12_service_15 N ρ this rec15 x1 x2 σ = some (r, σr)) : Ag (fun p => p = ρ this 57 ∨ p = ρ this 18 ∨ p = ρ this 26 ∨ p = this ∨ p = ρ this 64) σ σr := by
  unfold b_X12_service_15 at hf
  obtain ⟨_, σ2, q1, hf⟩ := bnd_some hf
  refine ag_call (m_X12_power q1) (fun _ h => h.elim) ?_
  rcases ite_some hf with ⟨_, hf⟩ | ⟨_, hf⟩
  · skip
    rcases ite_some hf with ⟨_, hf⟩ | ⟨_, hf⟩
    · skip
      exact m_X12_service_85 _ _ hf
    · skip
      exact m_X12_service_85 _ _ hf
  · skip
    obtain ⟨_, σ7, q2, hf⟩ := bnd_some hf
    refine ag_call (m_X12_laySending q2) (fun _ h => (Or.inl h)) ?_
    rcases ite_some hf with ⟨_, hf⟩ | ⟨_, hf⟩
    · skip
      exact m_X12_service_67 rec15 hrec15 _ _ _ hf
    · skip
      obtain ⟨_, σ11, q3, hf⟩ := bnd_some hf
      refine ag_call (m_X12_walkOf q3) (fun _ h => h.elim) ?_
      rcases ite_some hf with ⟨_, hf⟩ | ⟨_, hf⟩
      · skip
        exact m_X12_service_67 rec15 hrec15 _ _ _ hf
      · skip
        obtain ⟨_, σ15, q4, hf⟩ := bnd_some hf
        refine ag_call (m_X12_serves q4) (fun _ h => by
              rcases h with h | h
              · exact (Or.inr (Or.inl h))
              · exact (Or.inr (Or.inr (Or.inl h)))) ?_
        rcases ite_some hf with ⟨_, hf⟩ | ⟨_, hf⟩
        · skip
          exact m_X12_service_67 rec15 hrec15 _ _ _ hf
        · skip
          obtain ⟨_, σ19, q5, hf⟩ := bnd_some hf
          refine ag_call (m_X12_walkOf q5) (fun _ h => h.elim) ?_
          obtain ⟨_, σ22, q6, hf⟩ := bnd_some hf
          refine ag_call (m_X12_putSending q6) (fun _ h => by
                rcases h with h | h
                · exact (Or.inr (Or.inr (Or.inr (Or.inl h))))
                · exact (Or.inr (Or.inr (Or.inr (Or.inr h))))) ?_
          exact m_X12_service_67 rec15 hrec15 _ _ _ hf
theorem m_X12_service_15 {N : Nat} {ρ : Nat → Nat → Nat} {this : Nat} {r : Int32} {σr : St} : ∀ (n : Nat) (x1 : Int32) (x2 : Int32) (σ : St), f_X12_service_15 N ρ this n x1 x2 σ = some (r, σr) → Ag (fun p => p = ρ this 57 ∨ p = ρ this 18 ∨ p = ρ this 26 ∨ p = this ∨ p = ρ this 64) σ σr := by
  intro n
  induction n with
  | zero => intro x1 x2 σ hf; cases hf
  | succ n ih => intro x1 x2 σ hf; exact k_X12_service_15 _ ih x1 x2 σ hf
theorem m_X12_service {N : Nat} {ρ : Nat → Nat → Nat} {this : Nat} {r : Int32} {σr : St} {σ : St} (hf : f_X12_service N ρ this σ = some (r, σr)) : Ag (fun p => p = ρ this 57 ∨ p = ρ this 18 ∨ p = ρ this 26 ∨ p = this ∨ p = ρ this 64) σ σr := by
  unfold f_X12_service at hf
  obtain ⟨_, σ25, q1, hf⟩ := bnd_some hf
  refine ag_call (m_X12_fill q1) (fun _ h => (Or.inl h)) ?_
  obtain ⟨σ27, eσ27, hf⟩ := nmd_some hf
  refine ag_I eσ27 (Or.inr (Or.inr (Or.inr (Or.inl rfl)))) ?_
  exact m_X12_service_15 N _ _ _ hf
theorem m_X12_sendJust_32 {N : Nat} {ρ : Nat → Nat → Nat} {this : Nat} {a1 : Int32} {a2 : Int32} {r : Int32} {σr : St} (rec2 : Int32 → St → Option (Int32 × St)) (hrec2 : ∀ (x3 : Int32) (σ : St), rec2 x3 σ = some (r, σr) → Ag (fun p => p = ρ this 57) σ σr) (x3 : Int32) (s0 : Int32) (s1 : Int32) (σ : St) (hf : f_X12_sendJust_32 N ρ this a1 a2 rec2 x3 s0 s1 σ = some (r, σr)) : Ag (fun p => p = ρ this 57) σ σr := by
  unfold f_X12_sendJust_32 at hf
  obtain ⟨_, hf⟩ := gd_some hf
  obtain ⟨σ2, eσ2, hf⟩ := nmd_some hf
  refine ag_I eσ2 rfl ?_
  exact hrec2 _ _ hf
theorem k_X12_sendJust_2 {N : Nat} {ρ : Nat → Nat → Nat} {this : Nat} {a1 : Int32} {a2 : Int32} {r : Int32} {σr : St} (rec2 : Int32 → St → Option (Int32 × St)) (hrec2 : ∀ (x3 : Int32) (σ : St), rec2 x3 σ = some (r, σr) → Ag (fun p => p = ρ this 57) σ σr) (x3 : Int32) (σ : St) (hf : b_X12_sendJust_2 N ρ this a1 a2 rec2 x3 σ = some (r, σr)) : Ag (fun p => p = ρ this 57) σ σr := by
  unfold b_X12_sendJust_2 at hf
  rcases ite_some hf with ⟨_, hf⟩ | ⟨_, hf⟩
  · skip
    cases hf
    exact ag_refl
  · skip
    rcases ite_some hf with ⟨_, hf⟩ | ⟨_, hf⟩
    · skip
      exact m_X12_sendJust_32 rec2 hrec2 _ _ _ _ hf
    · skip
      exact m_X12_sendJust_32 rec2 hrec2 _ _ _ _ hf
theorem m_X12_sendJust_2 {N : Nat} {ρ : Nat → Nat → Nat} {this : Nat} {a1 : Int32} {a2 : Int32} {r : Int32} {σr : St} : ∀ (n : Nat) (x3 : Int32) (σ : St), f_X12_sendJust_2 N ρ this a1 a2 n x3 σ = some (r, σr) → Ag (fun p => p = ρ this 57) σ σr := by
  intro n
  induction n with
  | zero => intro x3 σ hf; cases hf
  | succ n ih => intro x3 σ hf; exact k_X12_sendJust_2 _ ih x3 σ hf
theorem m_X12_sendJust {N : Nat} {ρ : Nat → Nat → Nat} {this : Nat} {a1 : Int32} {a2 : Int32} {r : Int32} {σr : St} {σ : St} (hf : f_X12_sendJust N ρ this a1 a2 σ = some (r, σr)) : Ag (fun p => p = ρ this 57) σ σr := by
  unfold f_X12_sendJust at hf
  exact m_X12_sendJust_2 N _ _ hf
theorem m_X12_team_17 {N : Nat} {ρ : Nat → Nat → Nat} {this : Nat} {a1 : Int32} {a2 : Int32} {r : Int32} {σr : St} (σ : St) (hf : f_X12_team_17 N ρ this a1 a2 σ = some (r, σr)) : Ag (fun p => p = ρ this 57 ∨ p = ρ this 18 ∨ p = ρ this 26) σ σr := by
  unfold f_X12_team_17 at hf
  cases hf
  exact ag_refl
theorem m_X12_team_92 {N : Nat} {ρ : Nat → Nat → Nat} {this : Nat} {a1 : Int32} {a2 : Int32} {r : Int32} {σr : St} (rec28 : Int32 → Int32 → St → Option (Int32 × St)) (hrec28 : ∀ (x3 : Int32) (x4 : Int32) (σ : St), rec28 x3 x4 σ = some (r, σr) → Ag (fun p => p = ρ this 57 ∨ p = ρ this 18 ∨ p = ρ this 26) σ σr) (x3 : Int32) (x4 : Int32) (σ : St) (hf : f_X12_team_92 N ρ this a1 a2 rec28 x3 x4 σ = some (r, σr)) : Ag (fun p => p = ρ this 57 ∨ p = ρ this 18 ∨ p = ρ this 26) σ σr := by
  unfold f_X12_team_92 at hf
  exact hrec28 _ _ _ hf
theorem m_X12_team_72 {N : Nat} {ρ : Nat → Nat → Nat} {this : Nat} {a1 : Int32} {a2 : Int32} {r : Int32} {σr : St} (rec28 : Int32 → Int32 → St → Option (Int32 × St)) (hrec28 : ∀ (x3 : Int32) (x4 : Int32) (σ : St), rec28 x3 x4 σ = some (r, σr) → Ag (fun p => p = ρ this 57 ∨ p = ρ this 18 ∨ p = ρ this 26) σ σr) (x3 : Int32) (x4 : Int32) (σ : St) (hf : f_X12_team_72 N ρ this a1 a2 rec28 x3 x4 σ = some (r, σr)) : Ag (fun p => p = ρ this 57 ∨ p = ρ this 18 ∨ p = ρ this 26) σ σr := by
  unfold f_X12_team_72 at hf
  obtain ⟨_, σ2, q1, hf⟩ := bnd_some hf
  refine ag_call (m_X12_sendJust q1) (fun _ h => (Or.inl h)) ?_
  obtain ⟨_, σ5, q2, hf⟩ := bnd_some hf
  refine ag_call (m_X12_whoFares q2) (fun _ h => by
        rcases h with h | h
        · exact (Or.inr (Or.inl h))
        · exact (Or.inr (Or.inr h))) ?_
  rcases ite_some hf with ⟨_, hf⟩ | ⟨_, hf⟩
  · skip
    exact m_X12_team_92 rec28 hrec28 _ _ _ hf
  · skip
    exact m_X12_team_92 rec28 hrec28 _ _ _ hf
theorem m_X12_team_118 {N : Nat} {ρ : Nat → Nat → Nat} {this : Nat} {a1 : Int32} {a2 : Int32} {r : Int32} {σr : St} (s0 : Int32) (σ : St) (hf : f_X12_team_118 N ρ this a1 a2 s0 σ = some (r, σr)) : Ag (fun p => p = ρ this 57 ∨ p = ρ this 18 ∨ p = ρ this 26) σ σr := by
  unfold f_X12_team_118 at hf
  cases hf
  exact ag_refl
theorem k_X12_team_28 {N : Nat} {ρ : Nat → Nat → Nat} {this : Nat} {a1 : Int32} {a2 : Int32} {r : Int32} {σr : St} (rec28 : Int32 → Int32 → St → Option (Int32 × St)) (hrec28 : ∀ (x3 : Int32) (x4 : Int32) (σ : St), rec28 x3 x4 σ = some (r, σr) → Ag (fun p => p = ρ this 57 ∨ p = ρ this 18 ∨ p = ρ this 26) σ σr) (x3 : Int32) (x4 : Int32) (σ : St) (hf : b_X12_team_28 N ρ this a1 a2 rec28 x3 x4 σ = some (r, σr)) : Ag (fun p => p = ρ this 57 ∨ p = ρ this 18 ∨ p = ρ this 26) σ σr := by
  unfold b_X12_team_28 at hf
  rcases ite_some hf with ⟨_, hf⟩ | ⟨_, hf⟩
  · skip
    rcases ite_some hf with ⟨_, hf⟩ | ⟨_, hf⟩
    · skip
      rcases ite_some hf with ⟨_, hf⟩ | ⟨_, hf⟩
      · skip
        obtain ⟨_, σ12, q1, hf⟩ := bnd_some hf
        refine ag_call (m_X12_members q1) (fun _ h => h.elim) ?_
        exact m_X12_team_118 _ _ hf
      · skip
        exact m_X12_team_118 _ _ hf
    · skip
      exact m_X12_team_118 _ _ hf
  · skip
    obtain ⟨_, σ15, q2, hf⟩ := bnd_some hf
    refine ag_call (m_X12_members q2) (fun _ h => h.elim) ?_
    obtain ⟨_, hf⟩ := gd_some hf
    rcases ite_some hf with ⟨_, hf⟩ | ⟨_, hf⟩
    · skip
      exact m_X12_team_92 rec28 hrec28 _ _ _ hf
    · skip
      rcases ite_some hf with ⟨_, hf⟩ | ⟨_, hf⟩
      · skip
        exact m_X12_team_72 rec28 hrec28 _ _ _ hf
      · skip
        obtain ⟨_, σ21, q3, hf⟩ := bnd_some hf
        refine ag_call (m_X12_members q3) (fun _ h => h.elim) ?_
        obtain ⟨_, σ24, q4, hf⟩ := bnd_some hf
        refine ag_call (m_X12_members q4) (fun _ h => h.elim) ?_
        rcases ite_some hf with ⟨_, hf⟩ | ⟨_, hf⟩
        · skip
          exact m_X12_team_72 rec28 hrec28 _ _ _ hf
        · skip
          exact m_X12_team_92 rec28 hrec28 _ _ _ hf
theorem m_X12_team_28 {N : Nat} {ρ : Nat → Nat → Nat} {this : Nat} {a1 : Int32} {a2 : Int32} {r : Int32} {σr : St} : ∀ (n : Nat) (x3 : Int32) (x4 : Int32) (σ : St), f_X12_team_28 N ρ this a1 a2 n x3 x4 σ = some (r, σr) → Ag (fun p => p = ρ this 57 ∨ p = ρ this 18 ∨ p = ρ this 26) σ σr := by
  intro n
  induction n with
  | zero => intro x3 x4 σ hf; cases hf
  | succ n ih => intro x3 x4 σ hf; exact k_X12_team_28 _ ih x3 x4 σ hf
theorem m_X12_team {N : Nat} {ρ : Nat → Nat → Nat} {this : Nat} {a1 : Int32} {a2 : Int32} {r : Int32} {σr : St} {σ : St} (hf : f_X12_team N ρ this a1 a2 σ = some (r, σr)) : Ag (fun p => p = ρ this 57 ∨ p = ρ this 18 ∨ p = ρ this 26) σ σr := by
  unfold f_X12_team at hf
  obtain ⟨_, σ28, q1, hf⟩ := bnd_some hf
  refine ag_call (m_X12_isHearth q1) (fun _ h => h.elim) ?_
  rcases ite_some hf with ⟨_, hf⟩ | ⟨_, hf⟩
  · skip
    exact m_X12_team_17 _ hf
  · skip
    obtain ⟨_, σ32, q2, hf⟩ := bnd_some hf
    refine ag_call (m_X12_isIn q2) (fun _ h => h.elim) ?_
    rcases ite_some hf with ⟨_, hf⟩ | ⟨_, hf⟩
    · skip
      exact m_X12_team_17 _ hf
    · skip
      obtain ⟨_, σ36, q3, hf⟩ := bnd_some hf
      refine ag_call (m_X12_fill q3) (fun _ h => (Or.inl h)) ?_
      exact m_X12_team_28 N _ _ _ hf
theorem m_X12_countsAlone_22 {N : Nat} {ρ : Nat → Nat → Nat} {this : Nat} {a1 : Int32} {a2 : Int32} {r : Int32} {σr : St} (s0 : Int32) (σ : St) (hf : f_X12_countsAlone_22 N ρ this a1 a2 s0 σ = some (r, σr)) : Ag (fun p => p = ρ this 57 ∨ p = ρ this 18 ∨ p = ρ this 26) σ σr := by
  unfold f_X12_countsAlone_22 at hf
  obtain ⟨_, hf⟩ := gd_some hf
  cases hf
  exact ag_refl
theorem m_X12_countsAlone {N : Nat} {ρ : Nat → Nat → Nat} {this : Nat} {a1 : Int32} {a2 : Int32} {r : Int32} {σr : St} {σ : St} (hf : f_X12_countsAlone N ρ this a1 a2 σ = some (r, σr)) : Ag (fun p => p = ρ this 57 ∨ p = ρ this 18 ∨ p = ρ this 26) σ σr := by
  unfold f_X12_countsAlone at hf
  obtain ⟨_, σ3, q1, hf⟩ := bnd_some hf
  refine ag_call (m_X12_sendJust q1) (fun _ h => (Or.inl h)) ?_
  obtain ⟨_, σ6, q2, hf⟩ := bnd_some hf
  refine ag_call (m_X12_fareOf q2) (fun _ h => by
        rcases h with h | h
        · exact (Or.inr (Or.inl h))
        · exact (Or.inr (Or.inr h))) ?_
  rcases ite_some hf with ⟨_, hf⟩ | ⟨_, hf⟩
  · skip
    exact m_X12_countsAlone_22 _ _ hf
  · skip
    exact m_X12_countsAlone_22 _ _ hf
theorem m_X12_lasts_16 {N : Nat} {ρ : Nat → Nat → Nat} {this : Nat} {a1 : Int32} {a2 : Int32} {r : Int32} {σr : St} (σ : St) (hf : f_X12_lasts_16 N ρ this a1 a2 σ = some (r, σr)) : Ag (fun p => p = ρ this 57 ∨ p = ρ this 18 ∨ p = ρ this 26 ∨ p = ρ this 58 ∨ p = ρ this 59 ∨ p = ρ this 60) σ σr := by
  unfold f_X12_lasts_16 at hf
  cases hf
  exact ag_refl
theorem k_X12_lasts_24 {N : Nat} {ρ : Nat → Nat → Nat} {this : Nat} {a1 : Int32} {a2 : Int32} {r : Int32} {σr : St} (rec24 : Int32 → St → Option (Int32 × St)) (hrec24 : ∀ (x3 : Int32) (σ : St), rec24 x3 σ = some (r, σr) → Ag (fun p => p = ρ this 57 ∨ p = ρ this 18 ∨ p = ρ this 26 ∨ p = ρ this 58 ∨ p = ρ this 59 ∨ p = ρ this 60) σ σr) (x3 : Int32) (σ : St) (hf : b_X12_lasts_24 N ρ this a1 a2 rec24 x3 σ = some (r, σr)) : Ag (fun p => p = ρ this 57 ∨ p = ρ this 18 ∨ p = ρ this 26 ∨ p = ρ this 58 ∨ p = ρ this 59 ∨ p = ρ this 60) σ σr := by
  unfold b_X12_lasts_24 at hf
  rcases ite_some hf with ⟨_, hf⟩ | ⟨_, hf⟩
  · skip
    cases hf
    exact ag_refl
  · skip
    obtain ⟨_, σ3, q1, hf⟩ := bnd_some hf
    refine ag_call (m_X12_countsAlone q1) (fun _ h => by
          rcases h with h | h | h
          · exact (Or.inl h)
          · exact (Or.inr (Or.inl h))
          · exact (Or.inr (Or.inr (Or.inl h)))) ?_
    rcases ite_some hf with ⟨_, hf⟩ | ⟨_, hf⟩
    · skip
      cases hf
      exact ag_refl
    · skip
      obtain ⟨_, σ7, q2, hf⟩ := bnd_some hf
      refine ag_call (m_X12_goEvening q2) (fun _ h => by
            rcases h with h | h | h | h | h | h
            · exact (Or.inr (Or.inr (Or.inr (Or.inl h))))
            · exact (Or.inr (Or.inl h))
            · exact (Or.inr (Or.inr (Or.inl h)))
            · exact (Or.inr (Or.inr (Or.inr (Or.inr (Or.inl h)))))
            · exact (Or.inr (Or.inr (Or.inr (Or.inr (Or.inr h)))))
            · exact (Or.inl h)) ?_
      exact hrec24 _ _ hf
theorem m_X12_lasts_24 {N : Nat} {ρ : Nat → Nat → Nat} {this : Nat} {a1 : Int32} {a2 : Int32} {r : Int32} {σr : St} : ∀ (n : Nat) (x3 : Int32) (σ : St), f_X12_lasts_24 N ρ this a1 a2 n x3 σ = some (r, σr) → Ag (fun p => p = ρ this 57 ∨ p = ρ this 18 ∨ p = ρ this 26 ∨ p = ρ this 58 ∨ p = ρ this 59 ∨ p = ρ this 60) σ σr := by
  intro n
  induction n with
  | zero => intro x3 σ hf; cases hf
  | succ n ih => intro x3 σ hf; exact k_X12_lasts_24 _ ih x3 σ hf
theorem m_X12_lasts {N : Nat} {ρ : Nat → Nat → Nat} {this : Nat} {a1 : Int32} {a2 : Int32} {r : Int32} {σr : St} {σ : St} (hf : f_X12_lasts N ρ this a1 a2 σ = some (r, σr)) : Ag (fun p => p = ρ this 57 ∨ p = ρ this 18 ∨ p = ρ this 26 ∨ p = ρ this 58 ∨ p = ρ this 59 ∨ p = ρ this 60) σ σr := by
  unfold f_X12_lasts at hf
  obtain ⟨_, σ10, q1, hf⟩ := bnd_some hf
  refine ag_call (m_X12_isStool q1) (fun _ h => h.elim) ?_
  rcases ite_some hf with ⟨_, hf⟩ | ⟨_, hf⟩
  · skip
    exact m_X12_lasts_16 _ hf
  · skip
    obtain ⟨_, σ14, q2, hf⟩ := bnd_some hf
    refine ag_call (m_X12_isHearth q2) (fun _ h => h.elim) ?_
    rcases ite_some hf with ⟨_, hf⟩ | ⟨_, hf⟩
    · skip
      exact m_X12_lasts_16 _ hf
    · skip
      obtain ⟨_, σ18, q3, hf⟩ := bnd_some hf
      refine ag_call (m_X12_fill q3) (fun _ h => (Or.inl h)) ?_
      exact m_X12_lasts_24 N _ _ hf
theorem m_X12_soon_16 {N : Nat} {ρ : Nat → Nat → Nat} {this : Nat} {a1 : Int32} {a2 : Int32} {r : Int32} {σr : St} (σ : St) (hf : f_X12_soon_16 N ρ this a1 a2 σ = some (r, σr)) : Ag (fun p => p = ρ this 58 ∨ p = ρ this 18 ∨ p = ρ this 26 ∨ p = ρ this 59 ∨ p = ρ this 60 ∨ p = ρ this 57) σ σr := by
  unfold f_X12_soon_16 at hf
  cases hf
  exact ag_refl
theorem k_X12_soon_32 {N : Nat} {ρ : Nat → Nat → Nat} {this : Nat} {a1 : Int32} {a2 : Int32} {r : Int32} {σr : St} (rec32 : Int32 → St → Option (Int32 × St)) (hrec32 : ∀ (x3 : Int32) (σ : St), rec32 x3 σ = some (r, σr) → Ag (fun p => p = ρ this 58 ∨ p = ρ this 18 ∨ p = ρ this 26 ∨ p = ρ this 59 ∨ p = ρ this 60 ∨ p = ρ this 57) σ σr) (x3 : Int32) (σ : St) (hf : b_X12_soon_32 N ρ this a1 a2 rec32 x3 σ = some (r, σr)) : Ag (fun p => p = ρ this 58 ∨ p = ρ this 18 ∨ p = ρ this 26 ∨ p = ρ this 59 ∨ p = ρ this 60 ∨ p = ρ this 57) σ σr := by
  unfold b_X12_soon_32 at hf
  rcases ite_some hf with ⟨_, hf⟩ | ⟨_, hf⟩
  · skip
    cases hf
    exact ag_refl
  · skip
    obtain ⟨_, σ3, q1, hf⟩ := bnd_some hf
    refine ag_call (m_X12_isSaved q1) (fun _ h => h.elim) ?_
    rcases ite_some hf with ⟨_, hf⟩ | ⟨_, hf⟩
    · skip
      obtain ⟨_, σ7, q2, hf⟩ := bnd_some hf
      refine ag_call (m_X12_goEvening q2) (fun _ h => by
            rcases h with h | h | h | h | h | h
            · exact (Or.inl h)
            · exact (Or.inr (Or.inl h))
            · exact (Or.inr (Or.inr (Or.inl h)))
            · exact (Or.inr (Or.inr (Or.inr (Or.inl h))))
            · exact (Or.inr (Or.inr (Or.inr (Or.inr (Or.inl h)))))
            · exact (Or.inr (Or.inr (Or.inr (Or.inr (Or.inr h)))))) ?_
      exact hrec32 _ _ hf
    · skip
      cases hf
      exact ag_refl
theorem m_X12_soon_32 {N : Nat} {ρ : Nat → Nat → Nat} {this : Nat} {a1 : Int32} {a2 : Int32} {r : Int32} {σr : St} : ∀ (n : Nat) (x3 : Int32) (σ : St), f_X12_soon_32 N ρ this a1 a2 n x3 σ = some (r, σr) → Ag (fun p => p = ρ this 58 ∨ p = ρ this 18 ∨ p = ρ this 26 ∨ p = ρ this 59 ∨ p = ρ this 60 ∨ p = ρ this 57) σ σr := by
  intro n
  induction n with
  | zero => intro x3 σ hf; cases hf
  | succ n ih => intro x3 σ hf; exact k_X12_soon_32 _ ih x3 σ hf
theorem m_X12_soon {N : Nat} {ρ : Nat → Nat → Nat} {this : Nat} {a1 : Int32} {a2 : Int32} {r : Int32} {σr : St} {σ : St} (hf : f_X12_soon N ρ this a1 a2 σ = some (r, σr)) : Ag (fun p => p = ρ this 58 ∨ p = ρ this 18 ∨ p = ρ this 26 ∨ p = ρ this 59 ∨ p = ρ this 60 ∨ p = ρ this 57) σ σr := by
  unfold f_X12_soon at hf
  obtain ⟨_, σ10, q1, hf⟩ := bnd_some hf
  refine ag_call (m_X12_isStool q1) (fun _ h => h.elim) ?_
  rcases ite_some hf with ⟨_, hf⟩ | ⟨_, hf⟩
  · skip
    exact m_X12_soon_16 _ hf
  · skip
    obtain ⟨_, σ14, q2, hf⟩ := bnd_some hf
    refine ag_call (m_X12_isHearth q2) (fun _ h => h.elim) ?_
    rcases ite_some hf with ⟨_, hf⟩ | ⟨_, hf⟩
    · skip
      exact m_X12_soon_16 _ hf
    · skip
      obtain ⟨_, σ18, q3, hf⟩ := bnd_some hf
      refine ag_call (m_X12_fill q3) (fun _ h => (Or.inr (Or.inr (Or.inr (Or.inr (Or.inr h)))))) ?_
      obtain ⟨_, σ21, q4, hf⟩ := bnd_some hf
      refine ag_call (m_X12_sendJust q4) (fun _ h => (Or.inr (Or.inr (Or.inr (Or.inr (Or.inr h)))))) ?_
      exact m_X12_soon_32 N _ _ hf
theorem m_X12_change_127 {N : Nat} {ρ : Nat → Nat → Nat} {this : Nat} {a1 : Int32} {r : Int32} {σr : St} (rec29 : Int32 → Int32 → Int32 → St → Option (Int32 × St)) (hrec29 : ∀ (x2 : Int32) (x3 : Int32) (x4 : Int32) (σ : St), rec29 x2 x3 x4 σ = some (r, σr) → Ag (fun p => p = ρ this 57 ∨ p = ρ this 18 ∨ p = ρ this 26) σ σr) (rec44 : Int32 → Int32 → Int32 → Int32 → St → Option (Int32 × St)) (hrec44 : ∀ (x2 : Int32) (x3 : Int32) (x4 : Int32) (x5 : Int32) (σ : St), rec44 x2 x3 x4 x5 σ = some (r, σr) → Ag (fun p => p = ρ this 57 ∨ p = ρ this 18 ∨ p = ρ this 26) σ σr) (x2 : Int32) (x3 : Int32) (x4 : Int32) (x5 : Int32) (σ : St) (hf : f_X12_change_127 N ρ this a1 rec29 rec44 x2 x3 x4 x5 σ = some (r, σr)) : Ag (fun p => p = ρ this 57 ∨ p = ρ this 18 ∨ p = ρ this 26) σ σr := by
  unfold f_X12_change_127 at hf
  exact hrec44 _ _ _ _ _ hf
theorem k_X12_change_44 {N : Nat} {ρ : Nat → Nat → Nat} {this : Nat} {a1 : Int32} {r : Int32} {σr : St} (rec29 : Int32 → Int32 → Int32 → St → Option (Int32 × St)) (hrec29 : ∀ (x2 : Int32) (x3 : Int32) (x4 : Int32) (σ : St), rec29 x2 x3 x4 σ = some (r, σr) → Ag (fun p => p = ρ this 57 ∨ p = ρ this 18 ∨ p = ρ this 26) σ σr) (rec44 : Int32 → Int32 → Int32 → Int32 → St → Option (Int32 × St)) (hrec44 : ∀ (x2 : Int32) (x3 : Int32) (x4 : Int32) (x5 : Int32) (σ : St), rec44 x2 x3 x4 x5 σ = some (r, σr) → Ag (fun p => p = ρ this 57 ∨ p = ρ this 18 ∨ p = ρ this 26) σ σr) (x2 : Int32) (x3 : Int32) (x4 : Int32) (x5 : Int32) (σ : St) (hf : b_X12_change_44 N ρ this a1 rec29 rec44 x2 x3 x4 x5 σ = some (r, σr)) : Ag (fun p => p = ρ this 57 ∨ p = ρ this 18 ∨ p = ρ this 26) σ σr := by
  unfold b_X12_change_44 at hf
  rcases ite_some hf with ⟨_, hf⟩ | ⟨_, hf⟩
  · skip
    exact hrec29 _ _ _ _ hf
  · skip
    obtain ⟨_, σ3, q1, hf⟩ := bnd_some hf
    refine ag_call (m_X12_fill q1) (fun _ h => (Or.inl h)) ?_
    obtain ⟨_, hf⟩ := gd_some hf
    obtain ⟨_, hf⟩ := gd_some hf
    obtain ⟨σ7, eσ7, hf⟩ := nmd_some hf
    refine ag_I eσ7 (Or.inl rfl) ?_
    obtain ⟨_, hf⟩ := gd_some hf
    obtain ⟨_, hf⟩ := gd_some hf
    obtain ⟨σ10, eσ10, hf⟩ := nmd_some hf
    refine ag_I eσ10 (Or.inl rfl) ?_
    obtain ⟨_, σ12, q2, hf⟩ := bnd_some hf
    refine ag_call (m_X12_whoFares q2) (fun _ h => by
          rcases h with h | h
          · exact (Or.inr (Or.inl h))
          · exact (Or.inr (Or.inr h))) ?_
    obtain ⟨_, σ15, q3, hf⟩ := bnd_some hf
    refine ag_call (m_X12_members q3) (fun _ h => h.elim) ?_
    rcases ite_some hf with ⟨_, hf⟩ | ⟨_, hf⟩
    · skip
      obtain ⟨y18, ey18, hf⟩ := nmd_some hf
      exact m_X12_change_127 rec29 hrec29 rec44 hrec44 _ _ _ _ _ hf
    · skip
      exact m_X12_change_127 rec29 hrec29 rec44 hrec44 _ _ _ _ _ hf
theorem m_X12_change_44 {N : Nat} {ρ : Nat → Nat → Nat} {this : Nat} {a1 : Int32} {r : Int32} {σr : St} (rec29 : Int32 → Int32 → Int32 → St → Option (Int32 × St)) (hrec29 : ∀ (x2 : Int32) (x3 : Int32) (x4 : Int32) (σ : St), rec29 x2 x3 x4 σ = some (r, σr) → Ag (fun p => p = ρ this 57 ∨ p = ρ this 18 ∨ p = ρ this 26) σ σr) : ∀ (n : Nat) (x2 : Int32) (x3 : Int32) (x4 : Int32) (x5 : Int32) (σ : St), f_X12_change_44 N ρ this a1 rec29 n x2 x3 x4 x5 σ = some (r, σr) → Ag (fun p => p = ρ this 57 ∨ p = ρ this 18 ∨ p = ρ this 26) σ σr := by
  intro n
  induction n with
  | zero => intro x2 x3 x4 x5 σ hf; cases hf
  | succ n ih => intro x2 x3 x4 x5 σ hf; exact k_X12_change_44 rec29 hrec29 _ ih x2 x3 x4 x5 σ hf
theorem m_X12_change_169 {N : Nat} {ρ : Nat → Nat → Nat} {this : Nat} {a1 : Int32} {r : Int32} {σr : St} (s0 : Int32) (σ : St) (hf : f_X12_change_169 N ρ this a1 s0 σ = some (r, σr)) : Ag (fun p => p = ρ this 57 ∨ p = ρ this 18 ∨ p = ρ this 26) σ σr := by
  unfold f_X12_change_169 at hf
  cases hf
  exact ag_refl
theorem k_X12_change_29 {N : Nat} {ρ : Nat → Nat → Nat} {this : Nat} {a1 : Int32} {r : Int32} {σr : St} (rec29 : Int32 → Int32 → Int32 → St → Option (Int32 × St)) (hrec29 : ∀ (x2 : Int32) (x3 : Int32) (x4 : Int32) (σ : St), rec29 x2 x3 x4 σ = some (r, σr) → Ag (fun p => p = ρ this 57 ∨ p = ρ this 18 ∨ p = ρ this 26) σ σr) (x2 : Int32) (x3 : Int32) (x4 : Int32) (σ : St) (hf : b_X12_change_29 N ρ this a1 rec29 x2 x3 x4 σ = some (r, σr)) : Ag (fun p => p = ρ this 57 ∨ p = ρ this 18 ∨ p = ρ this 26) σ σr := by
  unfold b_X12_change_29 at hf
  rcases ite_some hf with ⟨_, hf⟩ | ⟨_, hf⟩
  · skip
    rcases ite_some hf with ⟨_, hf⟩ | ⟨_, hf⟩
    · skip
      rcases ite_some hf with ⟨_, hf⟩ | ⟨_, hf⟩
      · skip
        exact m_X12_change_169 _ _ hf
      · skip
        rcases ite_some hf with ⟨_, hf⟩ | ⟨_, hf⟩
        · skip
          exact m_X12_change_169 _ _ hf
        · skip
          exact m_X12_change_169 _ _ hf
    · skip
      exact m_X12_change_169 _ _ hf
  · skip
    obtain ⟨y23, ey23, hf⟩ := nmd_some hf
    exact m_X12_change_44 rec29 hrec29 N _ _ _ _ _ hf
theorem m_X12_change_29 {N : Nat} {ρ : Nat → Nat → Nat} {this : Nat} {a1 : Int32} {r : Int32} {σr : St} : ∀ (n : Nat) (x2 : Int32) (x3 : Int32) (x4 : Int32) (σ : St), f_X12_change_29 N ρ this a1 n x2 x3 x4 σ = some (r, σr) → Ag (fun p => p = ρ this 57 ∨ p = ρ this 18 ∨ p = ρ this 26) σ σr := by
  intro n
  induction n with
  | zero => intro x2 x3 x4 σ hf; cases hf
  | succ n ih => intro x2 x3 x4 σ hf; exact k_X12_change_29 _ ih x2 x3 x4 σ hf
theorem m_X12_change {N : Nat} {ρ : Nat → Nat → Nat} {this : Nat} {a1 : Int32} {r : Int32} {σr : St} {σ : St} (hf : f_X12_change N ρ this a1 σ = some (r, σr)) : Ag (fun p => p = ρ this 57 ∨ p = ρ this 18 ∨ p = ρ this 26) σ σr := by
  unfold f_X12_change at hf
  obtain ⟨_, σ25, q1, hf⟩ := bnd_some hf
  refine ag_call (m_X12_isIn q1) (fun _ h => h.elim) ?_
  rcases ite_some hf with ⟨_, hf⟩ | ⟨_, hf⟩
  · skip
    cases hf
    exact ag_refl
  · skip
    obtain ⟨_, σ29, q2, hf⟩ := bnd_some hf
    refine ag_call (m_X12_fill q2) (fun _ h => (Or.inl h)) ?_
    obtain ⟨_, σ32, q3, hf⟩ := bnd_some hf
    refine ag_call (m_X12_whoFares q3) (fun _ h => by
          rcases h with h | h
          · exact (Or.inr (Or.inl h))
          · exact (Or.inr (Or.inr h))) ?_
    obtain ⟨_, σ35, q4, hf⟩ := bnd_some hf
    refine ag_call (m_X12_members q4) (fun _ h => h.elim) ?_
    exact m_X12_change_29 N _ _ _ _ hf
theorem m_X12_goodOf_11 {N : Nat} {ρ : Nat → Nat → Nat} {this : Nat} {a1 : Int32} {a2 : Int32} {a3 : Int32} {r : Int32} {σr : St} (s0 : Int32) (σ : St) (hf : f_X12_goodOf_11 N ρ this a1 a2 a3 s0 σ = some (r, σr)) : Ag (fun p => False) σ σr := by
  unfold f_X12_goodOf_11 at hf
  obtain ⟨_, σ2, q1, hf⟩ := bnd_some hf
  refine ag_call (m_X12_wayOf q1) (fun _ h => h.elim) ?_
  cases hf
  exact ag_refl
theorem m_X12_goodOf {N : Nat} {ρ : Nat → Nat → Nat} {this : Nat} {a1 : Int32} {a2 : Int32} {a3 : Int32} {r : Int32} {σr : St} {σ : St} (hf : f_X12_goodOf N ρ this a1 a2 a3 σ = some (r, σr)) : Ag (fun p => False) σ σr := by
  unfold f_X12_goodOf at hf
  rcases ite_some hf with ⟨_, hf⟩ | ⟨_, hf⟩
  · skip
    exact m_X12_goodOf_11 _ _ hf
  · skip
    exact m_X12_goodOf_11 _ _ hf
theorem m_X12_isRest_162 {N : Nat} {ρ : Nat → Nat → Nat} {this : Nat} {a1 : Int32} {a2 : Int32} {a3 : Int32} {a4 : Int32} {r : Int32} {σr : St} (rec15 : Int32 → Int32 → Int32 → St → Option (Int32 × St)) (hrec15 : ∀ (x5 : Int32) (x6 : Int32) (x7 : Int32) (σ : St), rec15 x5 x6 x7 σ = some (r, σr) → Ag (fun p => False) σ σr) (x6 : Int32) (x7 : Int32) (s0 : Int32) (σ : St) (hf : f_X12_isRest_162 N ρ this a1 a2 a3 a4 rec15 x6 x7 s0 σ = some (r, σr)) : Ag (fun p => False) σ σr := by
  unfold f_X12_isRest_162 at hf
  exact hrec15 _ _ _ _ hf
theorem m_X12_isRest_161 {N : Nat} {ρ : Nat → Nat → Nat} {this : Nat} {a1 : Int32} {a2 : Int32} {a3 : Int32} {a4 : Int32} {r : Int32} {σr : St} (rec15 : Int32 → Int32 → Int32 → St → Option (Int32 × St)) (hrec15 : ∀ (x5 : Int32) (x6 : Int32) (x7 : Int32) (σ : St), rec15 x5 x6 x7 σ = some (r, σr) → Ag (fun p => False) σ σr) (x6 : Int32) (x7 : Int32) (σ : St) (hf : f_X12_isRest_161 N ρ this a1 a2 a3 a4 rec15 x6 x7 σ = some (r, σr)) : Ag (fun p => False) σ σr := by
  unfold f_X12_isRest_161 at hf
  exact m_X12_isRest_162 rec15 hrec15 _ _ _ _ hf
theorem m_X12_isRest_151 {N : Nat} {ρ : Nat → Nat → Nat} {this : Nat} {a1 : Int32} {a2 : Int32} {a3 : Int32} {a4 : Int32} {r : Int32} {σr : St} (rec15 : Int32 → Int32 → Int32 → St → Option (Int32 × St)) (hrec15 : ∀ (x5 : Int32) (x6 : Int32) (x7 : Int32) (σ : St), rec15 x5 x6 x7 σ = some (r, σr) → Ag (fun p => False) σ σr) (x6 : Int32) (x7 : Int32) (s0 : Int32) (s1 : Int32) (s2 : Int32) (s4 : Int32) (σ : St) (hf : f_X12_isRest_151 N ρ this a1 a2 a3 a4 rec15 x6 x7 s0 s1 s2 s4 σ = some (r, σr)) : Ag (fun p => False) σ σr := by
  unfold f_X12_isRest_151 at hf
  obtain ⟨_, σ2, q1, hf⟩ := bnd_some hf
  refine ag_call (m_X12_goodOf q1) (fun _ h => h.elim) ?_
  rcases ite_some hf with ⟨_, hf⟩ | ⟨_, hf⟩
  · skip
    exact m_X12_isRest_161 rec15 hrec15 _ _ _ hf
  · skip
    exact m_X12_isRest_162 rec15 hrec15 _ _ _ _ hf
theorem m_X12_isRest_126 {N : Nat} {ρ : Nat → Nat → Nat} {this : Nat} {a1 : Int32} {a2 : Int32} {a3 : Int32} {a4 : Int32} {r : Int32} {σr : St} (rec15 : Int32 → Int32 → Int32 → St → Option (Int32 × St)) (hrec15 : ∀ (x5 : Int32) (x6 : Int32) (x7 : Int32) (σ : St), rec15 x5 x6 x7 σ = some (r, σr) → Ag (fun p => False) σ σr) (x6 : Int32) (x7 : Int32) (s0 : Int32) (s1 : Int32) (s2 : Int32) (σ : St) (hf : f_X12_isRest_126 N ρ this a1 a2 a3 a4 rec15 x6 x7 s0 s1 s2 σ = some (r, σr)) : Ag (fun p => False) σ σr := by
  unfold f_X12_isRest_126 at hf
  obtain ⟨_, σ6, q1, hf⟩ := bnd_some hf
  refine ag_call (m_X12_goodOf q1) (fun _ h => h.elim) ?_
  obtain ⟨_, hf⟩ := gd_some hf
  rcases ite_some hf with ⟨_, hf⟩ | ⟨_, hf⟩
  · skip
    exact m_X12_isRest_151 rec15 hrec15 _ _ _ _ _ _ _ hf
  · skip
    exact m_X12_isRest_151 rec15 hrec15 _ _ _ _ _ _ _ hf
theorem m_X12_isRest_92 {N : Nat} {ρ : Nat → Nat → Nat} {this : Nat} {a1 : Int32} {a2 : Int32} {a3 : Int32} {a4 : Int32} {r : Int32} {σr : St} (rec15 : Int32 → Int32 → Int32 → St → Option (Int32 × St)) (hrec15 : ∀ (x5 : Int32) (x6 : Int32) (x7 : Int32) (σ : St), rec15 x5 x6 x7 σ = some (r, σr) → Ag (fun p => False) σ σr) (x6 : Int32) (x7 : Int32) (s0 : Int32) (σ : St) (hf : f_X12_isRest_92 N ρ this a1 a2 a3 a4 rec15 x6 x7 s0 σ = some (r, σr)) : Ag (fun p => False) σ σr := by
  unfold f_X12_isRest_92 at hf
  rcases ite_some hf with ⟨_, hf⟩ | ⟨_, hf⟩
  · skip
    exact m_X12_isRest_161 rec15 hrec15 _ _ _ hf
  · skip
    obtain ⟨_, hf⟩ := gd_some hf
    rcases ite_some hf with ⟨_, hf⟩ | ⟨_, hf⟩
    · skip
      exact m_X12_isRest_126 rec15 hrec15 _ _ _ _ _ _ hf
    · skip
      exact m_X12_isRest_126 rec15 hrec15 _ _ _ _ _ _ hf
theorem m_X12_isRest_91 {N : Nat} {ρ : Nat → Nat → Nat} {this : Nat} {a1 : Int32} {a2 : Int32} {a3 : Int32} {a4 : Int32} {r : Int32} {σr : St} (rec15 : Int32 → Int32 → Int32 → St → Option (Int32 × St)) (hrec15 : ∀ (x5 : Int32) (x6 : Int32) (x7 : Int32) (σ : St), rec15 x5 x6 x7 σ = some (r, σr) → Ag (fun p => False) σ σr) (x6 : Int32) (x7 : Int32) (σ : St) (hf : f_X12_isRest_91 N ρ this a1 a2 a3 a4 rec15 x6 x7 σ = some (r, σr)) : Ag (fun p => False) σ σr := by
  unfold f_X12_isRest_91 at hf
  exact m_X12_isRest_92 rec15 hrec15 _ _ _ _ hf
theorem m_X12_isRest_81 {N : Nat} {ρ : Nat → Nat → Nat} {this : Nat} {a1 : Int32} {a2 : Int32} {a3 : Int32} {a4 : Int32} {r : Int32} {σr : St} (rec15 : Int32 → Int32 → Int32 → St → Option (Int32 × St)) (hrec15 : ∀ (x5 : Int32) (x6 : Int32) (x7 : Int32) (σ : St), rec15 x5 x6 x7 σ = some (r, σr) → Ag (fun p => False) σ σr) (x6 : Int32) (x7 : Int32) (s0 : Int32) (s1 : Int32) (s2 : Int32) (s4 : Int32) (σ : St) (hf : f_X12_isRest_81 N ρ this a1 a2 a3 a4 rec15 x6 x7 s0 s1 s2 s4 σ = some (r, σr)) : Ag (fun p => False) σ σr := by
  unfold f_X12_isRest_81 at hf
  obtain ⟨_, σ14, q1, hf⟩ := bnd_some hf
  refine ag_call (m_X12_goodOf q1) (fun _ h => h.elim) ?_
  rcases ite_some hf with ⟨_, hf⟩ | ⟨_, hf⟩
  · skip
    exact m_X12_isRest_91 rec15 hrec15 _ _ _ hf
  · skip
    exact m_X12_isRest_92 rec15 hrec15 _ _ _ _ hf
theorem m_X12_isRest_57 {N : Nat} {ρ : Nat → Nat → Nat} {this : Nat} {a1 : Int32} {a2 : Int32} {a3 : Int32} {a4 : Int32} {r : Int32} {σr : St} (rec15 : Int32 → Int32 → Int32 → St → Option (Int32 × St)) (hrec15 : ∀ (x5 : Int32) (x6 : Int32) (x7 : Int32) (σ : St), rec15 x5 x6 x7 σ = some (r, σr) → Ag (fun p => False) σ σr) (x6 : Int32) (x7 : Int32) (s0 : Int32) (s1 : Int32) (s2 : Int32) (σ : St) (hf : f_X12_isRest_57 N ρ this a1 a2 a3 a4 rec15 x6 x7 s0 s1 s2 σ = some (r, σr)) : Ag (fun p => False) σ σr := by
  unfold f_X12_isRest_57 at hf
  obtain ⟨_, σ18, q1, hf⟩ := bnd_some hf
  refine ag_call (m_X12_goodOf q1) (fun _ h => h.elim) ?_
  obtain ⟨_, hf⟩ := gd_some hf
  rcases ite_some hf with ⟨_, hf⟩ | ⟨_, hf⟩
  · skip
    exact m_X12_isRest_81 rec15 hrec15 _ _ _ _ _ _ _ hf
  · skip
    exact m_X12_isRest_81 rec15 hrec15 _ _ _ _ _ _ _ hf
theorem k_X12_isRest_15 {N : Nat} {ρ : Nat → Nat → Nat} {this : Nat} {a1 : Int32} {a2 : Int32} {a3 : Int32} {a4 : Int32} {r : Int32} {σr : St} (rec15 : Int32 → Int32 → Int32 → St → Option (Int32 × St)) (hrec15 : ∀ (x5 : Int32) (x6 : Int32) (x7 : Int32) (σ : St), rec15 x5 x6 x7 σ = some (r, σr) → Ag (fun p => False) σ σr) (x5 : Int32) (x6 : Int32) (x7 : Int32) (σ : St) (hf : b_X12_isRest_15 N ρ this a1 a2 a3 a4 rec15 x5 x6 x7 σ = some (r, σr)) : Ag (fun p => False) σ σr := by
  unfold b_X12_isRest_15 at hf
  rcases ite_some hf with ⟨_, hf⟩ | ⟨_, hf⟩
  · skip
    obtain ⟨_, hf⟩ := gd_some hf
    cases hf
    exact ag_refl
  · skip
    rcases ite_some hf with ⟨_, hf⟩ | ⟨_, hf⟩
    · skip
      exact m_X12_isRest_91 rec15 hrec15 _ _ _ hf
    · skip
      obtain ⟨_, hf⟩ := gd_some hf
      rcases ite_some hf with ⟨_, hf⟩ | ⟨_, hf⟩
      · skip
        exact m_X12_isRest_57 rec15 hrec15 _ _ _ _ _ _ hf
      · skip
        exact m_X12_isRest_57 rec15 hrec15 _ _ _ _ _ _ hf
theorem m_X12_isRest_15 {N : Nat} {ρ : Nat → Nat → Nat} {this : Nat} {a1 : Int32} {a2 : Int32} {a3 : Int32} {a4 : Int32} {r : Int32} {σr : St} : ∀ (n : Nat) (x5 : Int32) (x6 : Int32) (x7 : Int32) (σ : St), f_X12_isRest_15 N ρ this a1 a2 a3 a4 n x5 x6 x7 σ = some (r, σr) → Ag (fun p => False) σ σr := by
  intro n
  induction n with
  | zero => intro x5 x6 x7 σ hf; cases hf
  | succ n ih => intro x5 x6 x7 σ hf; exact k_X12_isRest_15 _ ih x5 x6 x7 σ hf
theorem m_X12_isRest {N : Nat} {ρ : Nat → Nat → Nat} {this : Nat} {a1 : Int32} {a2 : Int32} {a3 : Int32} {a4 : Int32} {r : Int32} {σr : St} {σ : St} (hf : f_X12_isRest N ρ this a1 a2 a3 a4 σ = some (r, σr)) : Ag (fun p => False) σ σr := by
  unfold f_X12_isRest at hf
  obtain ⟨y27, ey27, hf⟩ := nmd_some hf
  exact m_X12_isRest_15 N _ _ _ _ hf
theorem m_X12_guests_33 {N : Nat} {ρ : Nat → Nat → Nat} {this : Nat} {a1 : Int32} {a2 : Int32} {r : Int32} {σr : St} (σ : St) (hf : f_X12_guests_33 N ρ this a1 a2 σ = some (r, σr)) : Ag (fun p => p = ρ this 66 ∨ p = ρ this 18 ∨ p = ρ this 26 ∨ p = ρ this 57 ∨ p = ρ this 64 ∨ p = this) σ σr := by
  unfold f_X12_guests_33 at hf
  cases hf
  exact ag_refl
theorem m_X12_guests_166 {N : Nat} {ρ : Nat → Nat → Nat} {this : Nat} {a1 : Int32} {a2 : Int32} {r : Int32} {σr : St} (rec45 : Int32 → St → Option (Int32 × St)) (hrec45 : ∀ (x3 : Int32) (σ : St), rec45 x3 σ = some (r, σr) → Ag (fun p => p = ρ this 66 ∨ p = ρ this 18 ∨ p = ρ this 26 ∨ p = ρ this 57 ∨ p = ρ this 64 ∨ p = this) σ σr) (rec56 : Int32 → Int32 → St → Option (Int32 × St)) (hrec56 : ∀ (x3 : Int32) (x4 : Int32) (σ : St), rec56 x3 x4 σ = some (r, σr) → Ag (fun p => p = ρ this 66 ∨ p = ρ this 18 ∨ p = ρ this 26 ∨ p = ρ this 57 ∨ p = ρ this 64 ∨ p = this) σ σr) (x3 : Int32) (x4 : Int32) (s0 : Int32) (s1 : Int32) (σ : St) (hf : f_X12_guests_166 N ρ this a1 a2 rec45 rec56 x3 x4 s0 s1 σ = some (r, σr)) : Ag (fun p => p = ρ this 66 ∨ p = ρ this 18 ∨ p = ρ this 26 ∨ p = ρ this 57 ∨ p = ρ this 64 ∨ p = this) σ σr := by
  unfold f_X12_guests_166 at hf
  obtain ⟨_, hf⟩ := gd_some hf
  obtain ⟨σ2, eσ2, hf⟩ := nmd_some hf
  refine ag_I eσ2 (Or.inl rfl) ?_
  exact hrec56 _ _ _ hf
theorem m_X12_guests_157 {N : Nat} {ρ : Nat → Nat → Nat} {this : Nat} {a1 : Int32} {a2 : Int32} {r : Int32} {σr : St} (rec45 : Int32 → St → Option (Int32 × St)) (hrec45 : ∀ (x3 : Int32) (σ : St), rec45 x3 σ = some (r, σr) → Ag (fun p => p = ρ this 66 ∨ p = ρ this 18 ∨ p = ρ this 26 ∨ p = ρ this 57 ∨ p = ρ this 64 ∨ p = this) σ σr) (rec56 : Int32 → Int32 → St → Option (Int32 × St)) (hrec56 : ∀ (x3 : Int32) (x4 : Int32) (σ : St), rec56 x3 x4 σ = some (r, σr) → Ag (fun p => p = ρ this 66 ∨ p = ρ this 18 ∨ p = ρ this 26 ∨ p = ρ this 57 ∨ p = ρ this 64 ∨ p = this) σ σr) (x3 : Int32) (x4 : Int32) (s0 : Int32) (s1 : Int32) (s2 : Int32) (s3 : Int32) (σ : St) (hf : f_X12_guests_157 N ρ this a1 a2 rec45 rec56 x3 x4 s0 s1 s2 s3 σ = some (r, σr)) : Ag (fun p => p = ρ this 66 ∨ p = ρ this 18 ∨ p = ρ this 26 ∨ p = ρ this 57 ∨ p = ρ this 64 ∨ p = this) σ σr := by
  unfold f_X12_guests_157 at hf
  obtain ⟨_, σ4, q1, hf⟩ := bnd_some hf
  refine ag_call (m_X12_truth q1) (fun _ h => h.elim) ?_
  exact m_X12_guests_166 rec45 hrec45 rec56 hrec56 _ _ _ _ _ hf
theorem m_X12_guests_139 {N : Nat} {ρ : Nat → Nat → Nat} {this : Nat} {a1 : Int32} {a2 : Int32} {r : Int32} {σr : St} (rec45 : Int32 → St → Option (Int32 × St)) (hrec45 : ∀ (x3 : Int32) (σ : St), rec45 x3 σ = some (r, σr) → Ag (fun p => p = ρ this 66 ∨ p = ρ this 18 ∨ p = ρ this 26 ∨ p = ρ this 57 ∨ p = ρ this 64 ∨ p = this) σ σr) (rec56 : Int32 → Int32 → St → Option (Int32 × St)) (hrec56 : ∀ (x3 : Int32) (x4 : Int32) (σ : St), rec56 x3 x4 σ = some (r, σr) → Ag (fun p => p = ρ this 66 ∨ p = ρ this 18 ∨ p = ρ this 26 ∨ p = ρ this 57 ∨ p = ρ this 64 ∨ p = this) σ σr) (x3 : Int32) (x4 : Int32) (s0 : Int32) (s1 : Int32) (σ : St) (hf : f_X12_guests_139 N ρ this a1 a2 rec45 rec56 x3 x4 s0 s1 σ = some (r, σr)) : Ag (fun p => p = ρ this 66 ∨ p = ρ this 18 ∨ p = ρ this 26 ∨ p = ρ this 57 ∨ p = ρ this 64 ∨ p = this) σ σr := by
  unfold f_X12_guests_139 at hf
  obtain ⟨_, σ7, q1, hf⟩ := bnd_some hf
  refine ag_call (m_X12_truth q1) (fun _ h => h.elim) ?_
  obtain ⟨_, σ10, q2, hf⟩ := bnd_some hf
  refine ag_call (m_X12_fareOf q2) (fun _ h => by
        rcases h with h | h
        · exact (Or.inr (Or.inl h))
        · exact (Or.inr (Or.inr (Or.inl h)))) ?_
  rcases ite_some hf with ⟨_, hf⟩ | ⟨_, hf⟩
  · skip
    exact m_X12_guests_157 rec45 hrec45 rec56 hrec56 _ _ _ _ _ _ _ hf
  · skip
    exact m_X12_guests_157 rec45 hrec45 rec56 hrec56 _ _ _ _ _ _ _ hf
theorem m_X12_guests_107 {N : Nat} {ρ : Nat → Nat → Nat} {this : Nat} {a1 : Int32} {a2 : Int32} {r : Int32} {σr : St} (rec45 : Int32 → St → Option (Int32 × St)) (hrec45 : ∀ (x3 : Int32) (σ : St), rec45 x3 σ = some (r, σr) → Ag (fun p => p = ρ this 66 ∨ p = ρ this 18 ∨ p = ρ this 26 ∨ p = ρ this 57 ∨ p = ρ this 64 ∨ p = this) σ σr) (rec56 : Int32 → Int32 → St → Option (Int32 × St)) (hrec56 : ∀ (x3 : Int32) (x4 : Int32) (σ : St), rec56 x3 x4 σ = some (r, σr) → Ag (fun p => p = ρ this 66 ∨ p = ρ this 18 ∨ p = ρ this 26 ∨ p = ρ this 57 ∨ p = ρ this 64 ∨ p = this) σ σr) (x3 : Int32) (x4 : Int32) (s0 : Int32) (σ : St) (hf : f_X12_guests_107 N ρ this a1 a2 rec45 rec56 x3 x4 s0 σ = some (r, σr)) : Ag (fun p => p = ρ this 66 ∨ p = ρ this 18 ∨ p = ρ this 26 ∨ p = ρ this 57 ∨ p = ρ this 64 ∨ p = this) σ σr := by
  unfold f_X12_guests_107 at hf
  rcases ite_some hf with ⟨_, hf⟩ | ⟨_, hf⟩
  · skip
    exact m_X12_guests_166 rec45 hrec45 rec56 hrec56 _ _ _ _ _ hf
  · skip
    obtain ⟨_, σ15, q1, hf⟩ := bnd_some hf
    refine ag_call (m_X12_fareOf q1) (fun _ h => by
          rcases h with h | h
          · exact (Or.inr (Or.inl h))
          · exact (Or.inr (Or.inr (Or.inl h)))) ?_
    rcases ite_some hf with ⟨_, hf⟩ | ⟨_, hf⟩
    · skip
      exact m_X12_guests_139 rec45 hrec45 rec56 hrec56 _ _ _ _ _ hf
    · skip
      exact m_X12_guests_139 rec45 hrec45 rec56 hrec56 _ _ _ _ _ hf
theorem m_X12_guests_102 {N : Nat} {ρ : Nat → Nat → Nat} {this : Nat} {a1 : Int32} {a2 : Int32} {r : Int32} {σr : St} (rec45 : Int32 → St → Option (Int32 × St)) (hrec45 : ∀ (x3 : Int32) (σ : St), rec45 x3 σ = some (r, σr) → Ag (fun p => p = ρ this 66 ∨ p = ρ this 18 ∨ p = ρ this 26 ∨ p = ρ this 57 ∨ p = ρ this 64 ∨ p = this) σ σr) (rec56 : Int32 → Int32 → St → Option (Int32 × St)) (hrec56 : ∀ (x3 : Int32) (x4 : Int32) (σ : St), rec56 x3 x4 σ = some (r, σr) → Ag (fun p => p = ρ this 66 ∨ p = ρ this 18 ∨ p = ρ this 26 ∨ p = ρ this 57 ∨ p = ρ this 64 ∨ p = this) σ σr) (x3 : Int32) (x4 : Int32) (σ : St) (hf : f_X12_guests_102 N ρ this a1 a2 rec45 rec56 x3 x4 σ = some (r, σr)) : Ag (fun p => p = ρ this 66 ∨ p = ρ this 18 ∨ p = ρ this 26 ∨ p = ρ this 57 ∨ p = ρ this 64 ∨ p = this) σ σr := by
  unfold f_X12_guests_102 at hf
  exact m_X12_guests_107 rec45 hrec45 rec56 hrec56 _ _ _ _ hf
theorem k_X12_guests_56 {N : Nat} {ρ : Nat → Nat → Nat} {this : Nat} {a1 : Int32} {a2 : Int32} {r : Int32} {σr : St} (rec45 : Int32 → St → Option (Int32 × St)) (hrec45 : ∀ (x3 : Int32) (σ : St), rec45 x3 σ = some (r, σr) → Ag (fun p => p = ρ this 66 ∨ p = ρ this 18 ∨ p = ρ this 26 ∨ p = ρ this 57 ∨ p = ρ this 64 ∨ p = this) σ σr) (rec56 : Int32 → Int32 → St → Option (Int32 × St)) (hrec56 : ∀ (x3 : Int32) (x4 : Int32) (σ : St), rec56 x3 x4 σ = some (r, σr) → Ag (fun p => p = ρ this 66 ∨ p = ρ this 18 ∨ p = ρ this 26 ∨ p = ρ this 57 ∨ p = ρ this 64 ∨ p = this) σ σr) (x3 : Int32) (x4 : Int32) (σ : St) (hf : b_X12_guests_56 N ρ this a1 a2 rec45 rec56 x3 x4 σ = some (r, σr)) : Ag (fun p => p = ρ this 66 ∨ p = ρ this 18 ∨ p = ρ this 26 ∨ p = ρ this 57 ∨ p = ρ this 64 ∨ p = this) σ σr := by
  unfold b_X12_guests_56 at hf
  rcases ite_some hf with ⟨_, hf⟩ | ⟨_, hf⟩
  · skip
    exact hrec45 _ _ hf
  · skip
    obtain ⟨_, hf⟩ := gd_some hf
    obtain ⟨σ20, eσ20, hf⟩ := nmd_some hf
    refine ag_I eσ20 (Or.inr (Or.inr (Or.inr (Or.inl rfl)))) ?_
    obtain ⟨_, hf⟩ := gd_some hf
    obtain ⟨σ22, eσ22, hf⟩ := nmd_some hf
    refine ag_I eσ22 (Or.inr (Or.inr (Or.inr (Or.inl rfl)))) ?_
    rcases ite_some hf with ⟨_, hf⟩ | ⟨_, hf⟩
    · skip
      obtain ⟨_, hf⟩ := gd_some hf
      rcases ite_some hf with ⟨_, hf⟩ | ⟨_, hf⟩
      · skip
        exact m_X12_guests_107 rec45 hrec45 rec56 hrec56 _ _ _ _ hf
      · skip
        exact m_X12_guests_102 rec45 hrec45 rec56 hrec56 _ _ _ hf
    · skip
      exact m_X12_guests_102 rec45 hrec45 rec56 hrec56 _ _ _ hf
theorem m_X12_guests_56 {N : Nat} {ρ : Nat → Nat → Nat} {this : Nat} {a1 : Int32} {a2 : Int32} {r : Int32} {σr : St} (rec45 : Int32 → St → Option (Int32 × St)) (hrec45 : ∀ (x3 : Int32) (σ : St), rec45 x3 σ = some (r, σr) → Ag (fun p => p = ρ this 66 ∨ p = ρ this 18 ∨ p = ρ this 26 ∨ p = ρ this 57 ∨ p = ρ this 64 ∨ p = this) σ σr) : ∀ (n : Nat) (x3 : Int32) (x4 : Int32) (σ : St), f_X12_guests_56 N ρ this a1 a2 rec45 n x3 x4 σ = some (r, σr) → Ag (fun p => p = ρ this 66 ∨ p = ρ this 18 ∨ p = ρ this 26 ∨ p = ρ this 57 ∨ p = ρ this 64 ∨ p = this) σ σr := by
  intro n
  induction n with
  | zero => intro x3 x4 σ hf; cases hf
  | succ n ih => intro x3 x4 σ hf; exact k_X12_guests_56 rec45 hrec45 _ ih x3 x4 σ hf
theorem m_X12_guests_249 {N : Nat} {ρ : Nat → Nat → Nat} {this : Nat} {a1 : Int32} {a2 : Int32} {r : Int32} {σr : St} (rec184 : Int32 → Int32 → St → Option (Int32 × St)) (hrec184 : ∀ (x3 : Int32) (x4 : Int32) (σ : St), rec184 x3 x4 σ = some (r, σr) → Ag (fun p => p = ρ this 66 ∨ p = ρ this 18 ∨ p = ρ this 26 ∨ p = ρ this 57 ∨ p = ρ this 64 ∨ p = this) σ σr) (rec196 : Int32 → Int32 → Int32 → St → Option (Int32 × St)) (hrec196 : ∀ (x3 : Int32) (x4 : Int32) (x5 : Int32) (σ : St), rec196 x3 x4 x5 σ = some (r, σr) → Ag (fun p => p = ρ this 66 ∨ p = ρ this 18 ∨ p = ρ this 26 ∨ p = ρ this 57 ∨ p = ρ this 64 ∨ p = this) σ σr) (x3 : Int32) (x4 : Int32) (x5 : Int32) (σ : St) (hf : f_X12_guests_249 N ρ this a1 a2 rec184 rec196 x3 x4 x5 σ = some (r, σr)) : Ag (fun p => p = ρ this 66 ∨ p = ρ this 18 ∨ p = ρ this 26 ∨ p = ρ this 57 ∨ p = ρ this 64 ∨ p = this) σ σr := by
  unfold f_X12_guests_249 at hf
  exact hrec196 _ _ _ _ hf
theorem m_X12_guests_246 {N : Nat} {ρ : Nat → Nat → Nat} {this : Nat} {a1 : Int32} {a2 : Int32} {r : Int32} {σr : St} (rec184 : Int32 → Int32 → St → Option (Int32 × St)) (hrec184 : ∀ (x3 : Int32) (x4 : Int32) (σ : St), rec184 x3 x4 σ = some (r, σr) → Ag (fun p => p = ρ this 66 ∨ p = ρ this 18 ∨ p = ρ this 26 ∨ p = ρ this 57 ∨ p = ρ this 64 ∨ p = this) σ σr) (rec196 : Int32 → Int32 → Int32 → St → Option (Int32 × St)) (hrec196 : ∀ (x3 : Int32) (x4 : Int32) (x5 : Int32) (σ : St), rec196 x3 x4 x5 σ = some (r, σr) → Ag (fun p => p = ρ this 66 ∨ p = ρ this 18 ∨ p = ρ this 26 ∨ p = ρ this 57 ∨ p = ρ this 64 ∨ p = this) σ σr) (x3 : Int32) (x4 : Int32) (x5 : Int32) (σ : St) (hf : f_X12_guests_246 N ρ this a1 a2 rec184 rec196 x3 x4 x5 σ = some (r, σr)) : Ag (fun p => p = ρ this 66 ∨ p = ρ this 18 ∨ p = ρ this 26 ∨ p = ρ this 57 ∨ p = ρ this 64 ∨ p = this) σ σr := by
  unfold f_X12_guests_246 at hf
  exact m_X12_guests_249 rec184 hrec184 rec196 hrec196 _ _ _ _ hf
theorem k_X12_guests_196 {N : Nat} {ρ : Nat → Nat → Nat} {this : Nat} {a1 : Int32} {a2 : Int32} {r : Int32} {σr : St} (rec184 : Int32 → Int32 → St → Option (Int32 × St)) (hrec184 : ∀ (x3 : Int32) (x4 : Int32) (σ : St), rec184 x3 x4 σ = some (r, σr) → Ag (fun p => p = ρ this 66 ∨ p = ρ this 18 ∨ p = ρ this 26 ∨ p = ρ this 57 ∨ p = ρ this 64 ∨ p = this) σ σr) (rec196 : Int32 → Int32 → Int32 → St → Option (Int32 × St)) (hrec196 : ∀ (x3 : Int32) (x4 : Int32) (x5 : Int32) (σ : St), rec196 x3 x4 x5 σ = some (r, σr) → Ag (fun p => p = ρ this 66 ∨ p = ρ this 18 ∨ p = ρ this 26 ∨ p = ρ this 57 ∨ p = ρ this 64 ∨ p = this) σ σr) (x3 : Int32) (x4 : Int32) (x5 : Int32) (σ : St) (hf : b_X12_guests_196 N ρ this a1 a2 rec184 rec196 x3 x4 x5 σ = some (r, σr)) : Ag (fun p => p = ρ this 66 ∨ p = ρ this 18 ∨ p = ρ this 26 ∨ p = ρ this 57 ∨ p = ρ this 64 ∨ p = this) σ σr := by
  unfold b_X12_guests_196 at hf
  rcases ite_some hf with ⟨_, hf⟩ | ⟨_, hf⟩
  · skip
    exact hrec184 _ _ _ hf
  · skip
    obtain ⟨_, σ28, q1, hf⟩ := bnd_some hf
    refine ag_call (m_X12_isRest q1) (fun _ h => h.elim) ?_
    rcases ite_some hf with ⟨_, hf⟩ | ⟨_, hf⟩
    · skip
      exact m_X12_guests_249 rec184 hrec184 rec196 hrec196 _ _ _ _ hf
    · skip
      rcases ite_some hf with ⟨_, hf⟩ | ⟨_, hf⟩
      · skip
        obtain ⟨_, hf⟩ := gd_some hf
        obtain ⟨σ33, eσ33, hf⟩ := nmd_some hf
        refine ag_I eσ33 (Or.inr (Or.inr (Or.inr (Or.inr (Or.inl rfl))))) ?_
        obtain ⟨_, hf⟩ := gd_some hf
        obtain ⟨σ35, eσ35, hf⟩ := nmd_some hf
        refine ag_I eσ35 (Or.inr (Or.inr (Or.inr (Or.inr (Or.inl rfl))))) ?_
        obtain ⟨σ36, eσ36, hf⟩ := nmd_some hf
        refine ag_I eσ36 (Or.inr (Or.inr (Or.inr (Or.inr (Or.inr rfl))))) ?_
        exact m_X12_guests_246 rec184 hrec184 rec196 hrec196 _ _ _ _ hf
      · skip
        exact m_X12_guests_246 rec184 hrec184 rec196 hrec196 _ _ _ _ hf
theorem m_X12_guests_196 {N : Nat} {ρ : Nat → Nat → Nat} {this : Nat} {a1 : Int32} {a2 : Int32} {r : Int32} {σr : St} (rec184 : Int32 → Int32 → St → Option (Int32 × St)) (hrec184 : ∀ (x3 : Int32) (x4 : Int32) (σ : St), rec184 x3 x4 σ = some (r, σr) → Ag (fun p => p = ρ this 66 ∨ p = ρ this 18 ∨ p = ρ this 26 ∨ p = ρ this 57 ∨ p = ρ this 64 ∨ p = this) σ σr) : ∀ (n : Nat) (x3 : Int32) (x4 : Int32) (x5 : Int32) (σ : St), f_X12_guests_196 N ρ this a1 a2 rec184 n x3 x4 x5 σ = some (r, σr) → Ag (fun p => p = ρ this 66 ∨ p = ρ this 18 ∨ p = ρ this 26 ∨ p = ρ this 57 ∨ p = ρ this 64 ∨ p = this) σ σr := by
  intro n
  induction n with
  | zero => intro x3 x4 x5 σ hf; cases hf
  | succ n ih => intro x3 x4 x5 σ hf; exact k_X12_guests_196 rec184 hrec184 _ ih x3 x4 x5 σ hf
theorem k_X12_guests_184 {N : Nat} {ρ : Nat → Nat → Nat} {this : Nat} {a1 : Int32} {a2 : Int32} {r : Int32} {σr : St} (rec184 : Int32 → Int32 → St → Option (Int32 × St)) (hrec184 : ∀ (x3 : Int32) (x4 : Int32) (σ : St), rec184 x3 x4 σ = some (r, σr) → Ag (fun p => p = ρ this 66 ∨ p = ρ this 18 ∨ p = ρ this 26 ∨ p = ρ this 57 ∨ p = ρ this 64 ∨ p = this) σ σr) (x3 : Int32) (x4 : Int32) (σ : St) (hf : b_X12_guests_184 N ρ this a1 a2 rec184 x3 x4 σ = some (r, σr)) : Ag (fun p => p = ρ this 66 ∨ p = ρ this 18 ∨ p = ρ this 26 ∨ p = ρ this 57 ∨ p = ρ this 64 ∨ p = this) σ σr := by
  unfold b_X12_guests_184 at hf
  rcases ite_some hf with ⟨_, hf⟩ | ⟨_, hf⟩
  · skip
    cases hf
    exact ag_refl
  · skip
    exact m_X12_guests_196 rec184 hrec184 N _ _ _ _ hf
theorem m_X12_guests_184 {N : Nat} {ρ : Nat → Nat → Nat} {this : Nat} {a1 : Int32} {a2 : Int32} {r : Int32} {σr : St} : ∀ (n : Nat) (x3 : Int32) (x4 : Int32) (σ : St), f_X12_guests_184 N ρ this a1 a2 n x3 x4 σ = some (r, σr) → Ag (fun p => p = ρ this 66 ∨ p = ρ this 18 ∨ p = ρ this 26 ∨ p = ρ this 57 ∨ p = ρ this 64 ∨ p = this) σ σr := by
  intro n
  induction n with
  | zero => intro x3 x4 σ hf; cases hf
  | succ n ih => intro x3 x4 σ hf; exact k_X12_guests_184 _ ih x3 x4 σ hf
theorem k_X12_guests_45 {N : Nat} {ρ : Nat → Nat → Nat} {this : Nat} {a1 : Int32} {a2 : Int32} {r : Int32} {σr : St} (rec45 : Int32 → St → Option (Int32 × St)) (hrec45 : ∀ (x3 : Int32) (σ : St), rec45 x3 σ = some (r, σr) → Ag (fun p => p = ρ this 66 ∨ p = ρ this 18 ∨ p = ρ this 26 ∨ p = ρ this 57 ∨ p = ρ this 64 ∨ p = this) σ σr) (x3 : Int32) (σ : St) (hf : b_X12_guests_45 N ρ this a1 a2 rec45 x3 σ = some (r, σr)) : Ag (fun p => p = ρ this 66 ∨ p = ρ this 18 ∨ p = ρ this 26 ∨ p = ρ this 57 ∨ p = ρ this 64 ∨ p = this) σ σr := by
  unfold b_X12_guests_45 at hf
  rcases ite_some hf with ⟨_, hf⟩ | ⟨_, hf⟩
  · skip
    exact m_X12_guests_184 N _ _ _ hf
  · skip
    exact m_X12_guests_56 rec45 hrec45 N _ _ _ hf
theorem m_X12_guests_45 {N : Nat} {ρ : Nat → Nat → Nat} {this : Nat} {a1 : Int32} {a2 : Int32} {r : Int32} {σr : St} : ∀ (n : Nat) (x3 : Int32) (σ : St), f_X12_guests_45 N ρ this a1 a2 n x3 σ = some (r, σr) → Ag (fun p => p = ρ this 66 ∨ p = ρ this 18 ∨ p = ρ this 26 ∨ p = ρ this 57 ∨ p = ρ this 64 ∨ p = this) σ σr := by
  intro n
  induction n with
  | zero => intro x3 σ hf; cases hf
  | succ n ih => intro x3 σ hf; exact k_X12_guests_45 _ ih x3 σ hf
theorem m_X12_guests {N : Nat} {ρ : Nat → Nat → Nat} {this : Nat} {a1 : Int32} {a2 : Int32} {r : Int32} {σr : St} {σ : St} (hf : f_X12_guests N ρ this a1 a2 σ = some (r, σr)) : Ag (fun p => p = ρ this 66 ∨ p = ρ this 18 ∨ p = ρ this 26 ∨ p = ρ this 57 ∨ p = ρ this 64 ∨ p = this) σ σr := by
  unfold f_X12_guests at hf
  obtain ⟨σ39, eσ39, hf⟩ := nmd_some hf
  refine ag_I eσ39 (Or.inr (Or.inr (Or.inr (Or.inr (Or.inr rfl))))) ?_
  obtain ⟨_, σ41, q1, hf⟩ := bnd_some hf
  refine ag_call (m_X12_isStool q1) (fun _ h => h.elim) ?_
  rcases ite_some hf with ⟨_, hf⟩ | ⟨_, hf⟩
  · skip
    exact m_X12_guests_33 _ hf
  · skip
    obtain ⟨_, σ45, q2, hf⟩ := bnd_some hf
    refine ag_call (m_X12_isStool q2) (fun _ h => h.elim) ?_
    rcases ite_some hf with ⟨_, hf⟩ | ⟨_, hf⟩
    · skip
      exact m_X12_guests_33 _ hf
    · skip
      rcases ite_some hf with ⟨_, hf⟩ | ⟨_, hf⟩
      · skip
        exact m_X12_guests_33 _ hf
      · skip
        rcases ite_some hf with ⟨_, hf⟩ | ⟨_, hf⟩
        · skip
          exact m_X12_guests_33 _ hf
        · skip
          obtain ⟨_, σ51, q3, hf⟩ := bnd_some hf
          refine ag_call (m_X12_fill q3) (fun _ h => (Or.inr (Or.inr (Or.inr (Or.inl h))))) ?_
          obtain ⟨_, σ54, q4, hf⟩ := bnd_some hf
          refine ag_call (m_X12_callAll q4) (fun _ h => (Or.inr (Or.inr (Or.inr (Or.inl h))))) ?_
          exact m_X12_guests_45 N _ _ hf
theorem k_X12_layCould_23 {N : Nat} {ρ : Nat → Nat → Nat} {this : Nat} {r : Int32} {σr : St} (rec6 : Int32 → St → Option (Int32 × St)) (hrec6 : ∀ (x1 : Int32) (σ : St), rec6 x1 σ = some (r, σr) → Ag (fun p => p = ρ this 57 ∨ p = ρ this 18 ∨ p = ρ this 26 ∨ p = ρ this 67) σ σr) (rec23 : Int32 → Int32 → St → Option (Int32 × St)) (hrec23 : ∀ (x1 : Int32) (x2 : Int32) (σ : St), rec23 x1 x2 σ = some (r, σr) → Ag (fun p => p = ρ this 57 ∨ p = ρ this 18 ∨ p = ρ this 26 ∨ p = ρ this 67) σ σr) (x1 : Int32) (x2 : Int32) (σ : St) (hf : b_X12_layCould_23 N ρ this rec6 rec23 x1 x2 σ = some (r, σr)) : Ag (fun p => p = ρ this 57 ∨ p = ρ this 18 ∨ p = ρ this 26 ∨ p = ρ this 67) σ σr := by
  unfold b_X12_layCould_23 at hf
  rcases ite_some hf with ⟨_, hf⟩ | ⟨_, hf⟩
  · skip
    exact hrec6 _ _ hf
  · skip
    obtain ⟨_, hf⟩ := gd_some hf
    obtain ⟨_, σ4, q1, hf⟩ := bnd_some hf
    refine ag_call (m_X12_countsAlone q1) (fun _ h => by
          rcases h with h | h | h
          · exact (Or.inl h)
          · exact (Or.inr (Or.inl h))
          · exact (Or.inr (Or.inr (Or.inl h)))) ?_
    obtain ⟨_, σ7, q2, hf⟩ := bnd_some hf
    refine ag_call (m_X12_truth q2) (fun _ h => h.elim) ?_
    obtain ⟨_, hf⟩ := gd_some hf
    obtain ⟨σ10, eσ10, hf⟩ := nmd_some hf
    refine ag_I eσ10 (Or.inr (Or.inr (Or.inr rfl))) ?_
    exact hrec23 _ _ _ hf
theorem m_X12_layCould_23 {N : Nat} {ρ : Nat → Nat → Nat} {this : Nat} {r : Int32} {σr : St} (rec6 : Int32 → St → Option (Int32 × St)) (hrec6 : ∀ (x1 : Int32) (σ : St), rec6 x1 σ = some (r, σr) → Ag (fun p => p = ρ this 57 ∨ p = ρ this 18 ∨ p = ρ this 26 ∨ p = ρ this 67) σ σr) : ∀ (n : Nat) (x1 : Int32) (x2 : Int32) (σ : St), f_X12_layCould_23 N ρ this rec6 n x1 x2 σ = some (r, σr) → Ag (fun p => p = ρ this 57 ∨ p = ρ this 18 ∨ p = ρ this 26 ∨ p = ρ this 67) σ σr := by
  intro n
  induction n with
  | zero => intro x1 x2 σ hf; cases hf
  | succ n ih => intro x1 x2 σ hf; exact k_X12_layCould_23 rec6 hrec6 _ ih x1 x2 σ hf
theorem k_X12_layCould_6 {N : Nat} {ρ : Nat → Nat → Nat} {this : Nat} {r : Int32} {σr : St} (rec6 : Int32 → St → Option (Int32 × St)) (hrec6 : ∀ (x1 : Int32) (σ : St), rec6 x1 σ = some (r, σr) → Ag (fun p => p = ρ this 57 ∨ p = ρ this 18 ∨ p = ρ this 26 ∨ p = ρ this 67) σ σr) (x1 : Int32) (σ : St) (hf : b_X12_layCould_6 N ρ this rec6 x1 σ = some (r, σr)) : Ag (fun p => p = ρ this 57 ∨ p = ρ this 18 ∨ p = ρ this 26 ∨ p = ρ this 67) σ σr := by
  unfold b_X12_layCould_6 at hf
  rcases ite_some hf with ⟨_, hf⟩ | ⟨_, hf⟩
  · skip
    cases hf
    exact ag_refl
  · skip
    obtain ⟨_, hf⟩ := gd_some hf
    obtain ⟨σ13, eσ13, hf⟩ := nmd_some hf
    refine ag_I eσ13 (Or.inr (Or.inr (Or.inr rfl))) ?_
    exact m_X12_layCould_23 rec6 hrec6 N _ _ _ hf
theorem m_X12_layCould_6 {N : Nat} {ρ : Nat → Nat → Nat} {this : Nat} {r : Int32} {σr : St} : ∀ (n : Nat) (x1 : Int32) (σ : St), f_X12_layCould_6 N ρ this n x1 σ = some (r, σr) → Ag (fun p => p = ρ this 57 ∨ p = ρ this 18 ∨ p = ρ this 26 ∨ p = ρ this 67) σ σr := by
  intro n
  induction n with
  | zero => intro x1 σ hf; cases hf
  | succ n ih => intro x1 σ hf; exact k_X12_layCould_6 _ ih x1 σ hf
theorem m_X12_layCould {N : Nat} {ρ : Nat → Nat → Nat} {this : Nat} {r : Int32} {σr : St} {σ : St} (hf : f_X12_layCould N ρ this σ = some (r, σr)) : Ag (fun p => p = ρ this 57 ∨ p = ρ this 18 ∨ p = ρ this 26 ∨ p = ρ this 67) σ σr := by
  unfold f_X12_layCould at hf
  obtain ⟨_, σ15, q1, hf⟩ := bnd_some hf
  refine ag_call (m_X12_fill q1) (fun _ h => (Or.inl h)) ?_
  exact m_X12_layCould_6 N _ _ hf
theorem m_X12_cover_92 {N : Nat} {ρ : Nat → Nat → Nat} {this : Nat} {a1 : Int32} {r : Int32} {σr : St} (rec26 : Int32 → Int32 → St → Option (Int32 × St)) (hrec26 : ∀ (x2 : Int32) (x3 : Int32) (σ : St), rec26 x2 x3 σ = some (r, σr) → Ag (fun p => p = ρ this 57 ∨ p = ρ this 18 ∨ p = ρ this 26 ∨ p = ρ this 67) σ σr) (rec51 : Int32 → Int32 → Int32 → Int32 → St → Option (Int32 × St)) (hrec51 : ∀ (x2 : Int32) (x3 : Int32) (x4 : Int32) (x5 : Int32) (σ : St), rec51 x2 x3 x4 x5 σ = some (r, σr) → Ag (fun p => p = ρ this 57 ∨ p = ρ this 18 ∨ p = ρ this 26 ∨ p = ρ this 67) σ σr) (x2 : Int32) (x3 : Int32) (x5 : Int32) (s0 : Int32) (σ : St) (hf : f_X12_cover_92 N ρ this a1 rec26 rec51 x2 x3 x5 s0 σ = some (r, σr)) : Ag (fun p => p = ρ this 57 ∨ p = ρ this 18 ∨ p = ρ this 26 ∨ p = ρ this 67) σ σr := by
  unfold f_X12_cover_92 at hf
  exact hrec51 _ _ _ _ _ hf
theorem m_X12_cover_87 {N : Nat} {ρ : Nat → Nat → Nat} {this : Nat} {a1 : Int32} {r : Int32} {σr : St} (rec26 : Int32 → Int32 → St → Option (Int32 × St)) (hrec26 : ∀ (x2 : Int32) (x3 : Int32) (σ : St), rec26 x2 x3 σ = some (r, σr) → Ag (fun p => p = ρ this 57 ∨ p = ρ this 18 ∨ p = ρ this 26 ∨ p = ρ this 67) σ σr) (rec51 : Int32 → Int32 → Int32 → Int32 → St → Option (Int32 × St)) (hrec51 : ∀ (x2 : Int32) (x3 : Int32) (x4 : Int32) (x5 : Int32) (σ : St), rec51 x2 x3 x4 x5 σ = some (r, σr) → Ag (fun p => p = ρ this 57 ∨ p = ρ this 18 ∨ p = ρ this 26 ∨ p = ρ this 67) σ σr) (x2 : Int32) (x3 : Int32) (x5 : Int32) (σ : St) (hf : f_X12_cover_87 N ρ this a1 rec26 rec51 x2 x3 x5 σ = some (r, σr)) : Ag (fun p => p = ρ this 57 ∨ p = ρ this 18 ∨ p = ρ this 26 ∨ p = ρ this 67) σ σr := by
  unfold f_X12_cover_87 at hf
  exact m_X12_cover_92 rec26 hrec26 rec51 hrec51 _ _ _ _ _ hf
theorem m_X12_cover_91 {N : Nat} {ρ : Nat → Nat → Nat} {this : Nat} {a1 : Int32} {r : Int32} {σr : St} (rec26 : Int32 → Int32 → St → Option (Int32 × St)) (hrec26 : ∀ (x2 : Int32) (x3 : Int32) (σ : St), rec26 x2 x3 σ = some (r, σr) → Ag (fun p => p = ρ this 57 ∨ p = ρ this 18 ∨ p = ρ this 26 ∨ p = ρ this 67) σ σr) (rec51 : Int32 → Int32 → Int32 → Int32 → St → Option (Int32 × St)) (hrec51 : ∀ (x2 : Int32) (x3 : Int32) (x4 : Int32) (x5 : Int32) (σ : St), rec51 x2 x3 x4 x5 σ = some (r, σr) → Ag (fun p => p = ρ this 57 ∨ p = ρ this 18 ∨ p = ρ this 26 ∨ p = ρ this 67) σ σr) (x2 : Int32) (x3 : Int32) (x5 : Int32) (σ : St) (hf : f_X12_cover_91 N ρ this a1 rec26 rec51 x2 x3 x5 σ = some (r, σr)) : Ag (fun p => p = ρ this 57 ∨ p = ρ this 18 ∨ p = ρ this 26 ∨ p = ρ this 67) σ σr := by
  unfold f_X12_cover_91 at hf
  exact m_X12_cover_92 rec26 hrec26 rec51 hrec51 _ _ _ _ _ hf
theorem m_X12_cover_107 {N : Nat} {ρ : Nat → Nat → Nat} {this : Nat} {a1 : Int32} {r : Int32} {σr : St} (rec26 : Int32 → Int32 → St → Option (Int32 × St)) (hrec26 : ∀ (x2 : Int32) (x3 : Int32) (σ : St), rec26 x2 x3 σ = some (r, σr) → Ag (fun p => p = ρ this 57 ∨ p = ρ this 18 ∨ p = ρ this 26 ∨ p = ρ this 67) σ σr) (x2 : Int32) (x3 : Int32) (σ : St) (hf : f_X12_cover_107 N ρ this a1 rec26 x2 x3 σ = some (r, σr)) : Ag (fun p => p = ρ this 57 ∨ p = ρ this 18 ∨ p = ρ this 26 ∨ p = ρ this 67) σ σr := by
  unfold f_X12_cover_107 at hf
  exact hrec26 _ _ _ hf
theorem k_X12_cover_51 {N : Nat} {ρ : Nat → Nat → Nat} {this : Nat} {a1 : Int32} {r : Int32} {σr : St} (rec26 : Int32 → Int32 → St → Option (Int32 × St)) (hrec26 : ∀ (x2 : Int32) (x3 : Int32) (σ : St), rec26 x2 x3 σ = some (r, σr) → Ag (fun p => p = ρ this 57 ∨ p = ρ this 18 ∨ p = ρ this 26 ∨ p = ρ this 67) σ σr) (rec51 : Int32 → Int32 → Int32 → Int32 → St → Option (Int32 × St)) (hrec51 : ∀ (x2 : Int32) (x3 : Int32) (x4 : Int32) (x5 : Int32) (σ : St), rec51 x2 x3 x4 x5 σ = some (r, σr) → Ag (fun p => p = ρ this 57 ∨ p = ρ this 18 ∨ p = ρ this 26 ∨ p = ρ this 67) σ σr) (x2 : Int32) (x3 : Int32) (x4 : Int32) (x5 : Int32) (σ : St) (hf : b_X12_cover_51 N ρ this a1 rec26 rec51 x2 x3 x4 x5 σ = some (r, σr)) : Ag (fun p => p = ρ this 57 ∨ p = ρ this 18 ∨ p = ρ this 26 ∨ p = ρ this 67) σ σr := by
  unfold b_X12_cover_51 at hf
  rcases ite_some hf with ⟨_, hf⟩ | ⟨_, hf⟩
  · skip
    rcases ite_some hf with ⟨_, hf⟩ | ⟨_, hf⟩
    · skip
      exact m_X12_cover_107 rec26 hrec26 _ _ _ hf
    · skip
      exact m_X12_cover_107 rec26 hrec26 _ _ _ hf
  · skip
    rcases ite_some hf with ⟨_, hf⟩ | ⟨_, hf⟩
    · skip
      exact m_X12_cover_91 rec26 hrec26 rec51 hrec51 _ _ _ _ hf
    · skip
      obtain ⟨_, hf⟩ := gd_some hf
      rcases ite_some hf with ⟨_, hf⟩ | ⟨_, hf⟩
      · skip
        exact m_X12_cover_87 rec26 hrec26 rec51 hrec51 _ _ _ _ hf
      · skip
        obtain ⟨_, hf⟩ := gd_some hf
        rcases ite_some hf with ⟨_, hf⟩ | ⟨_, hf⟩
        · skip
          exact m_X12_cover_91 rec26 hrec26 rec51 hrec51 _ _ _ _ hf
        · skip
          exact m_X12_cover_87 rec26 hrec26 rec51 hrec51 _ _ _ _ hf
theorem m_X12_cover_51 {N : Nat} {ρ : Nat → Nat → Nat} {this : Nat} {a1 : Int32} {r : Int32} {σr : St} (rec26 : Int32 → Int32 → St → Option (Int32 × St)) (hrec26 : ∀ (x2 : Int32) (x3 : Int32) (σ : St), rec26 x2 x3 σ = some (r, σr) → Ag (fun p => p = ρ this 57 ∨ p = ρ this 18 ∨ p = ρ this 26 ∨ p = ρ this 67) σ σr) : ∀ (n : Nat) (x2 : Int32) (x3 : Int32) (x4 : Int32) (x5 : Int32) (σ : St), f_X12_cover_51 N ρ this a1 rec26 n x2 x3 x4 x5 σ = some (r, σr) → Ag (fun p => p = ρ this 57 ∨ p = ρ this 18 ∨ p = ρ this 26 ∨ p = ρ this 67) σ σr := by
  intro n
  induction n with
  | zero => intro x2 x3 x4 x5 σ hf; cases hf
  | succ n ih => intro x2 x3 x4 x5 σ hf; exact k_X12_cover_51 rec26 hrec26 _ ih x2 x3 x4 x5 σ hf
theorem m_X12_cover_46 {N : Nat} {ρ : Nat → Nat → Nat} {this : Nat} {a1 : Int32} {r : Int32} {σr : St} (rec26 : Int32 → Int32 → St → Option (Int32 × St)) (hrec26 : ∀ (x2 : Int32) (x3 : Int32) (σ : St), rec26 x2 x3 σ = some (r, σr) → Ag (fun p => p = ρ this 57 ∨ p = ρ this 18 ∨ p = ρ this 26 ∨ p = ρ this 67) σ σr) (x2 : Int32) (x3 : Int32) (s0 : Int32) (σ : St) (hf : f_X12_cover_46 N ρ this a1 rec26 x2 x3 s0 σ = some (r, σr)) : Ag (fun p => p = ρ this 57 ∨ p = ρ this 18 ∨ p = ρ this 26 ∨ p = ρ this 67) σ σr := by
  unfold f_X12_cover_46 at hf
  exact m_X12_cover_51 rec26 hrec26 N _ _ _ _ _ hf
theorem m_X12_cover_125 {N : Nat} {ρ : Nat → Nat → Nat} {this : Nat} {a1 : Int32} {r : Int32} {σr : St} (s0 : Int32) (σ : St) (hf : f_X12_cover_125 N ρ this a1 s0 σ = some (r, σr)) : Ag (fun p => p = ρ this 57 ∨ p = ρ this 18 ∨ p = ρ this 26 ∨ p = ρ this 67) σ σr := by
  unfold f_X12_cover_125 at hf
  cases hf
  exact ag_refl
theorem k_X12_cover_26 {N : Nat} {ρ : Nat → Nat → Nat} {this : Nat} {a1 : Int32} {r : Int32} {σr : St} (rec26 : Int32 → Int32 → St → Option (Int32 × St)) (hrec26 : ∀ (x2 : Int32) (x3 : Int32) (σ : St), rec26 x2 x3 σ = some (r, σr) → Ag (fun p => p = ρ this 57 ∨ p = ρ this 18 ∨ p = ρ this 26 ∨ p = ρ this 67) σ σr) (x2 : Int32) (x3 : Int32) (σ : St) (hf : b_X12_cover_26 N ρ this a1 rec26 x2 x3 σ = some (r, σr)) : Ag (fun p => p = ρ this 57 ∨ p = ρ this 18 ∨ p = ρ this 26 ∨ p = ρ this 67) σ σr := by
  unfold b_X12_cover_26 at hf
  rcases ite_some hf with ⟨_, hf⟩ | ⟨_, hf⟩
  · skip
    rcases ite_some hf with ⟨_, hf⟩ | ⟨_, hf⟩
    · skip
      obtain ⟨_, σ11, q1, hf⟩ := bnd_some hf
      refine ag_call (m_X12_members q1) (fun _ h => h.elim) ?_
      exact m_X12_cover_125 _ _ hf
    · skip
      exact m_X12_cover_125 _ _ hf
  · skip
    obtain ⟨_, σ14, q2, hf⟩ := bnd_some hf
    refine ag_call (m_X12_members q2) (fun _ h => h.elim) ?_
    obtain ⟨_, σ17, q3, hf⟩ := bnd_some hf
    refine ag_call (m_X12_members q3) (fun _ h => h.elim) ?_
    rcases ite_some hf with ⟨_, hf⟩ | ⟨_, hf⟩
    · skip
      exact m_X12_cover_46 rec26 hrec26 _ _ _ _ hf
    · skip
      exact m_X12_cover_46 rec26 hrec26 _ _ _ _ hf
theorem m_X12_cover_26 {N : Nat} {ρ : Nat → Nat → Nat} {this : Nat} {a1 : Int32} {r : Int32} {σr : St} : ∀ (n : Nat) (x2 : Int32) (x3 : Int32) (σ : St), f_X12_cover_26 N ρ this a1 n x2 x3 σ = some (r, σr) → Ag (fun p => p = ρ this 57 ∨ p = ρ this 18 ∨ p = ρ this 26 ∨ p = ρ this 67) σ σr := by
  intro n
  induction n with
  | zero => intro x2 x3 σ hf; cases hf
  | succ n ih => intro x2 x3 σ hf; exact k_X12_cover_26 _ ih x2 x3 σ hf
theorem m_X12_cover {N : Nat} {ρ : Nat → Nat → Nat} {this : Nat} {a1 : Int32} {r : Int32} {σr : St} {σ : St} (hf : f_X12_cover N ρ this a1 σ = some (r, σr)) : Ag (fun p => p = ρ this 57 ∨ p = ρ this 18 ∨ p = ρ this 26 ∨ p = ρ this 67) σ σr := by
  unfold f_X12_cover at hf
  obtain ⟨_, σ21, q1, hf⟩ := bnd_some hf
  refine ag_call (m_X12_isIn q1) (fun _ h => h.elim) ?_
  rcases ite_some hf with ⟨_, hf⟩ | ⟨_, hf⟩
  · skip
    cases hf
    exact ag_refl
  · skip
    obtain ⟨_, σ25, q2, hf⟩ := bnd_some hf
    refine ag_call (m_X12_layCould q2) (fun _ h => by
          rcases h with h | h | h | h
          · exact (Or.inl h)
          · exact (Or.inr (Or.inl h))
          · exact (Or.inr (Or.inr (Or.inl h)))
          · exact (Or.inr (Or.inr (Or.inr h)))) ?_
    obtain ⟨y27, ey27, hf⟩ := nmd_some hf
    exact m_X12_cover_26 N _ _ _ hf
theorem m_X12_pilgrim_81 {N : Nat} {ρ : Nat → Nat → Nat} {this : Nat} {a1 : Int32} {r : Int32} {σr : St} (rec27 : Int32 → Int32 → Int32 → St → Option (Int32 × St)) (hrec27 : ∀ (x2 : Int32) (x3 : Int32) (x4 : Int32) (σ : St), rec27 x2 x3 x4 σ = some (r, σr) → Ag (fun p => False) σ σr) (x2 : Int32) (x4 : Int32) (s0 : Int32) (σ : St) (hf : f_X12_pilgrim_81 N ρ this a1 rec27 x2 x4 s0 σ = some (r, σr)) : Ag (fun p => False) σ σr := by
  unfold f_X12_pilgrim_81 at hf
  exact hrec27 _ _ _ _ hf
theorem m_X12_pilgrim_58 {N : Nat} {ρ : Nat → Nat → Nat} {this : Nat} {a1 : Int32} {r : Int32} {σr : St} (rec27 : Int32 → Int32 → Int32 → St → Option (Int32 × St)) (hrec27 : ∀ (x2 : Int32) (x3 : Int32) (x4 : Int32) (σ : St), rec27 x2 x3 x4 σ = some (r, σr) → Ag (fun p => False) σ σr) (x3 : Int32) (x4 : Int32) (s0 : Int32) (σ : St) (hf : f_X12_pilgrim_58 N ρ this a1 rec27 x3 x4 s0 σ = some (r, σr)) : Ag (fun p => False) σ σr := by
  unfold f_X12_pilgrim_58 at hf
  obtain ⟨_, hf⟩ := gd_some hf
  rcases ite_some hf with ⟨_, hf⟩ | ⟨_, hf⟩
  · skip
    exact m_X12_pilgrim_81 rec27 hrec27 _ _ _ _ hf
  · skip
    obtain ⟨_, hf⟩ := gd_some hf
    exact m_X12_pilgrim_81 rec27 hrec27 _ _ _ _ hf
theorem m_X12_pilgrim_131 {N : Nat} {ρ : Nat → Nat → Nat} {this : Nat} {a1 : Int32} {r : Int32} {σr : St} (s0 : Int32) (s1 : Int32) (σ : St) (hf : f_X12_pilgrim_131 N ρ this a1 s0 s1 σ = some (r, σr)) : Ag (fun p => False) σ σr := by
  unfold f_X12_pilgrim_131 at hf
  cases hf
  exact ag_refl
theorem k_X12_pilgrim_27 {N : Nat} {ρ : Nat → Nat → Nat} {this : Nat} {a1 : Int32} {r : Int32} {σr : St} (rec27 : Int32 → Int32 → Int32 → St → Option (Int32 × St)) (hrec27 : ∀ (x2 : Int32) (x3 : Int32) (x4 : Int32) (σ : St), rec27 x2 x3 x4 σ = some (r, σr) → Ag (fun p => False) σ σr) (x2 : Int32) (x3 : Int32) (x4 : Int32) (σ : St) (hf : b_X12_pilgrim_27 N ρ this a1 rec27 x2 x3 x4 σ = some (r, σr)) : Ag (fun p => False) σ σr := by
  unfold b_X12_pilgrim_27 at hf
  rcases ite_some hf with ⟨_, hf⟩ | ⟨_, hf⟩
  · skip
    obtain ⟨_, hf⟩ := gd_some hf
    obtain ⟨_, σ7, q1, hf⟩ := bnd_some hf
    refine ag_call (m_X12_plain q1) (fun _ h => h.elim) ?_
    obtain ⟨_, hf⟩ := gd_some hf
    obtain ⟨_, σ11, q2, hf⟩ := bnd_some hf
    refine ag_call (m_X12_plain q2) (fun _ h => h.elim) ?_
    rcases ite_some hf with ⟨_, hf⟩ | ⟨_, hf⟩
    · skip
      exact m_X12_pilgrim_131 _ _ _ hf
    · skip
      exact m_X12_pilgrim_131 _ _ _ hf
  · skip
    obtain ⟨_, hf⟩ := gd_some hf
    rcases ite_some hf with ⟨_, hf⟩ | ⟨_, hf⟩
    · skip
      exact m_X12_pilgrim_58 rec27 hrec27 _ _ _ _ hf
    · skip
      obtain ⟨_, hf⟩ := gd_some hf
      exact m_X12_pilgrim_58 rec27 hrec27 _ _ _ _ hf
theorem m_X12_pilgrim_27 {N : Nat} {ρ : Nat → Nat → Nat} {this : Nat} {a1 : Int32} {r : Int32} {σr : St} : ∀ (n : Nat) (x2 : Int32) (x3 : Int32) (x4 : Int32) (σ : St), f_X12_pilgrim_27 N ρ this a1 n x2 x3 x4 σ = some (r, σr) → Ag (fun p => False) σ σr := by
  intro n
  induction n with
  | zero => intro x2 x3 x4 σ hf; cases hf
  | succ n ih => intro x2 x3 x4 σ hf; exact k_X12_pilgrim_27 _ ih x2 x3 x4 σ hf
theorem m_X12_pilgrim {N : Nat} {ρ : Nat → Nat → Nat} {this : Nat} {a1 : Int32} {r : Int32} {σr : St} {σ : St} (hf : f_X12_pilgrim N ρ this a1 σ = some (r, σr)) : Ag (fun p => False) σ σr := by
  unfold f_X12_pilgrim at hf
  obtain ⟨_, σ18, q1, hf⟩ := bnd_some hf
  refine ag_call (m_X12_isStool q1) (fun _ h => h.elim) ?_
  rcases ite_some hf with ⟨_, hf⟩ | ⟨_, hf⟩
  · skip
    cases hf
    exact ag_refl
  · skip
    rcases ite_some hf with ⟨_, hf⟩ | ⟨_, hf⟩
    · skip
      cases hf
      exact ag_refl
    · skip
      exact m_X12_pilgrim_27 N _ _ _ _ hf
theorem m_X12_will_18 {N : Nat} {ρ : Nat → Nat → Nat} {this : Nat} {a1 : Int32} {a2 : Int32} {r : Int32} {σr : St} (σ : St) (hf : f_X12_will_18 N ρ this a1 a2 σ = some (r, σr)) : Ag (fun p => p = ρ this 57 ∨ p = ρ this 58 ∨ p = ρ this 18 ∨ p = ρ this 26 ∨ p = ρ this 59 ∨ p = ρ this 60) σ σr := by
  unfold f_X12_will_18 at hf
  cases hf
  exact ag_refl
theorem k_X12_will_26 {N : Nat} {ρ : Nat → Nat → Nat} {this : Nat} {a1 : Int32} {a2 : Int32} {r : Int32} {σr : St} (rec26 : Int32 → St → Option (Int32 × St)) (hrec26 : ∀ (x3 : Int32) (σ : St), rec26 x3 σ = some (r, σr) → Ag (fun p => p = ρ this 57 ∨ p = ρ this 58 ∨ p = ρ this 18 ∨ p = ρ this 26 ∨ p = ρ this 59 ∨ p = ρ this 60) σ σr) (x3 : Int32) (σ : St) (hf : b_X12_will_26 N ρ this a1 a2 rec26 x3 σ = some (r, σr)) : Ag (fun p => p = ρ this 57 ∨ p = ρ this 58 ∨ p = ρ this 18 ∨ p = ρ this 26 ∨ p = ρ this 59 ∨ p = ρ this 60) σ σr := by
  unfold b_X12_will_26 at hf
  rcases ite_some hf with ⟨_, hf⟩ | ⟨_, hf⟩
  · skip
    obtain ⟨_, hf⟩ := gd_some hf
    cases hf
    exact ag_refl
  · skip
    obtain ⟨_, σ4, q1, hf⟩ := bnd_some hf
    refine ag_call (m_X12_drawCold q1) (fun _ h => (Or.inl h)) ?_
    obtain ⟨_, σ7, q2, hf⟩ := bnd_some hf
    refine ag_call (m_X12_goEvening q2) (fun _ h => by
          rcases h with h | h | h | h | h | h
          · exact (Or.inr (Or.inl h))
          · exact (Or.inr (Or.inr (Or.inl h)))
          · exact (Or.inr (Or.inr (Or.inr (Or.inl h))))
          · exact (Or.inr (Or.inr (Or.inr (Or.inr (Or.inl h)))))
          · exact (Or.inr (Or.inr (Or.inr (Or.inr (Or.inr h)))))
          · exact (Or.inl h)) ?_
    exact hrec26 _ _ hf
theorem m_X12_will_26 {N : Nat} {ρ : Nat → Nat → Nat} {this : Nat} {a1 : Int32} {a2 : Int32} {r : Int32} {σr : St} : ∀ (n : Nat) (x3 : Int32) (σ : St), f_X12_will_26 N ρ this a1 a2 n x3 σ = some (r, σr) → Ag (fun p => p = ρ this 57 ∨ p = ρ this 58 ∨ p = ρ this 18 ∨ p = ρ this 26 ∨ p = ρ this 59 ∨ p = ρ this 60) σ σr := by
  intro n
  induction n with
  | zero => intro x3 σ hf; cases hf
  | succ n ih => intro x3 σ hf; exact k_X12_will_26 _ ih x3 σ hf
theorem m_X12_will {N : Nat} {ρ : Nat → Nat → Nat} {this : Nat} {a1 : Int32} {a2 : Int32} {r : Int32} {σr : St} {σ : St} (hf : f_X12_will N ρ this a1 a2 σ = some (r, σr)) : Ag (fun p => p = ρ this 57 ∨ p = ρ this 58 ∨ p = ρ this 18 ∨ p = ρ this 26 ∨ p = ρ this 59 ∨ p = ρ this 60) σ σr := by
  unfold f_X12_will at hf
  obtain ⟨_, σ10, q1, hf⟩ := bnd_some hf
  refine ag_call (m_X12_isStool q1) (fun _ h => h.elim) ?_
  rcases ite_some hf with ⟨_, hf⟩ | ⟨_, hf⟩
  · skip
    exact m_X12_will_18 _ hf
  · skip
    obtain ⟨_, σ14, q2, hf⟩ := bnd_some hf
    refine ag_call (m_X12_isIn q2) (fun _ h => h.elim) ?_
    rcases ite_some hf with ⟨_, hf⟩ | ⟨_, hf⟩
    · skip
      exact m_X12_will_18 _ hf
    · skip
      obtain ⟨_, σ18, q3, hf⟩ := bnd_some hf
      refine ag_call (m_X12_fill q3) (fun _ h => (Or.inl h)) ?_
      exact m_X12_will_26 N _ _ hf
theorem m_X12_strength_18 {N : Nat} {ρ : Nat → Nat → Nat} {this : Nat} {a1 : Int32} {a2 : Int32} {r : Int32} {σr : St} (σ : St) (hf : f_X12_strength_18 N ρ this a1 a2 σ = some (r, σr)) : Ag (fun p => p = ρ this 58 ∨ p = ρ this 18 ∨ p = ρ this 26 ∨ p = ρ this 59 ∨ p = ρ this 60 ∨ p = ρ this 57) σ σr := by
  unfold f_X12_strength_18 at hf
  cases hf
  exact ag_refl
theorem k_X12_strength_26 {N : Nat} {ρ : Nat → Nat → Nat} {this : Nat} {a1 : Int32} {a2 : Int32} {r : Int32} {σr : St} (rec26 : Int32 → St → Option (Int32 × St)) (hrec26 : ∀ (x3 : Int32) (σ : St), rec26 x3 σ = some (r, σr) → Ag (fun p => p = ρ this 58 ∨ p = ρ this 18 ∨ p = ρ this 26 ∨ p = ρ this 59 ∨ p = ρ this 60 ∨ p = ρ this 57) σ σr) (x3 : Int32) (σ : St) (hf : b_X12_strength_26 N ρ this a1 a2 rec26 x3 σ = some (r, σr)) : Ag (fun p => p = ρ this 58 ∨ p = ρ this 18 ∨ p = ρ this 26 ∨ p = ρ this 59 ∨ p = ρ this 60 ∨ p = ρ this 57) σ σr := by
  unfold b_X12_strength_26 at hf
  rcases ite_some hf with ⟨_, hf⟩ | ⟨_, hf⟩
  · skip
    obtain ⟨_, hf⟩ := gd_some hf
    cases hf
    exact ag_refl
  · skip
    obtain ⟨_, σ4, q1, hf⟩ := bnd_some hf
    refine ag_call (m_X12_goEvening q1) (fun _ h => by
          rcases h with h | h | h | h | h | h
          · exact (Or.inl h)
          · exact (Or.inr (Or.inl h))
          · exact (Or.inr (Or.inr (Or.inl h)))
          · exact (Or.inr (Or.inr (Or.inr (Or.inl h))))
          · exact (Or.inr (Or.inr (Or.inr (Or.inr (Or.inl h)))))
          · exact (Or.inr (Or.inr (Or.inr (Or.inr (Or.inr h)))))) ?_
    exact hrec26 _ _ hf
theorem m_X12_strength_26 {N : Nat} {ρ : Nat → Nat → Nat} {this : Nat} {a1 : Int32} {a2 : Int32} {r : Int32} {σr : St} : ∀ (n : Nat) (x3 : Int32) (σ : St), f_X12_strength_26 N ρ this a1 a2 n x3 σ = some (r, σr) → Ag (fun p => p = ρ this 58 ∨ p = ρ this 18 ∨ p = ρ this 26 ∨ p = ρ this 59 ∨ p = ρ this 60 ∨ p = ρ this 57) σ σr := by
  intro n
  induction n with
  | zero => intro x3 σ hf; cases hf
  | succ n ih => intro x3 σ hf; exact k_X12_strength_26 _ ih x3 σ hf
theorem m_X12_strength {N : Nat} {ρ : Nat → Nat → Nat} {this : Nat} {a1 : Int32} {a2 : Int32} {r : Int32} {σr : St} {σ : St} (hf : f_X12_strength N ρ this a1 a2 σ = some (r, σr)) : Ag (fun p => p = ρ this 58 ∨ p = ρ this 18 ∨ p = ρ this 26 ∨ p = ρ this 59 ∨ p = ρ this 60 ∨ p = ρ this 57) σ σr := by
  unfold f_X12_strength at hf
  obtain ⟨_, σ7, q1, hf⟩ := bnd_some hf
  refine ag_call (m_X12_isStool q1) (fun _ h => h.elim) ?_
  rcases ite_some hf with ⟨_, hf⟩ | ⟨_, hf⟩
  · skip
    exact m_X12_strength_18 _ hf
  · skip
    obtain ⟨_, σ11, q2, hf⟩ := bnd_some hf
    refine ag_call (m_X12_isIn q2) (fun _ h => h.elim) ?_
    rcases ite_some hf with ⟨_, hf⟩ | ⟨_, hf⟩
    · skip
      exact m_X12_strength_18 _ hf
    · skip
      obtain ⟨_, σ15, q3, hf⟩ := bnd_some hf
      refine ag_call (m_X12_fill q3) (fun _ h => (Or.inr (Or.inr (Or.inr (Or.inr (Or.inr h)))))) ?_
      exact m_X12_strength_26 N _ _ hf
theorem k_X12_savedOnes_4 {N : Nat} {ρ : Nat → Nat → Nat} {this : Nat} {r : Int32} {σr : St} (rec4 : Int32 → Int32 → St → Option (Int32 × St)) (hrec4 : ∀ (x1 : Int32) (x2 : Int32) (σ : St), rec4 x1 x2 σ = some (r, σr) → Ag (fun p => False) σ σr) (x1 : Int32) (x2 : Int32) (σ : St) (hf : b_X12_savedOnes_4 N ρ this rec4 x1 x2 σ = some (r, σr)) : Ag (fun p => False) σ σr := by
  unfold b_X12_savedOnes_4 at hf
  rcases ite_some hf with ⟨_, hf⟩ | ⟨_, hf⟩
  · skip
    cases hf
    exact ag_refl
  · skip
    obtain ⟨_, σ3, q1, hf⟩ := bnd_some hf
    refine ag_call (m_X12_isSaved q1) (fun _ h => h.elim) ?_
    obtain ⟨_, σ6, q2, hf⟩ := bnd_some hf
    refine ag_call (m_X12_truth q2) (fun _ h => h.elim) ?_
    obtain ⟨y8, ey8, hf⟩ := nmd_some hf
    exact hrec4 _ _ _ hf
theorem m_X12_savedOnes_4 {N : Nat} {ρ : Nat → Nat → Nat} {this : Nat} {r : Int32} {σr : St} : ∀ (n : Nat) (x1 : Int32) (x2 : Int32) (σ : St), f_X12_savedOnes_4 N ρ this n x1 x2 σ = some (r, σr) → Ag (fun p => False) σ σr := by
  intro n
  induction n with
  | zero => intro x1 x2 σ hf; cases hf
  | succ n ih => intro x1 x2 σ hf; exact k_X12_savedOnes_4 _ ih x1 x2 σ hf
theorem m_X12_savedOnes {N : Nat} {ρ : Nat → Nat → Nat} {this : Nat} {r : Int32} {σr : St} {σ : St} (hf : f_X12_savedOnes N ρ this σ = some (r, σr)) : Ag (fun p => False) σ σr := by
  unfold f_X12_savedOnes at hf
  exact m_X12_savedOnes_4 N _ _ _ hf
theorem m_X12_saved {N : Nat} {ρ : Nat → Nat → Nat} {this : Nat} {r : Int32} {σr : St} {σ : St} (hf : f_X12_saved N ρ this σ = some (r, σr)) : Ag (fun p => p = ρ this 57) σ σr := by
  unfold f_X12_saved at hf
  obtain ⟨_, σ2, q1, hf⟩ := bnd_some hf
  refine ag_call (m_X12_fill q1) (fun _ h => h) ?_
  obtain ⟨_, σ5, q2, hf⟩ := bnd_some hf
  refine ag_call (m_X12_savedOnes q2) (fun _ h => h.elim) ?_
  cases hf
  exact ag_refl
theorem k_X12_grace_6 {N : Nat} {ρ : Nat → Nat → Nat} {this : Nat} {r : Int32} {σr : St} (rec6 : Int32 → St → Option (Int32 × St)) (hrec6 : ∀ (x1 : Int32) (σ : St), rec6 x1 σ = some (r, σr) → Ag (fun p => p = ρ this 58 ∨ p = ρ this 18 ∨ p = ρ this 26 ∨ p = ρ this 59 ∨ p = ρ this 60 ∨ p = ρ this 57) σ σr) (x1 : Int32) (σ : St) (hf : b_X12_grace_6 N ρ this rec6 x1 σ = some (r, σr)) : Ag (fun p => p = ρ this 58 ∨ p = ρ this 18 ∨ p = ρ this 26 ∨ p = ρ this 59 ∨ p = ρ this 60 ∨ p = ρ this 57) σ σr := by
  unfold b_X12_grace_6 at hf
  rcases ite_some hf with ⟨_, hf⟩ | ⟨_, hf⟩
  · skip
    cases hf
    exact ag_refl
  · skip
    obtain ⟨_, σ3, q1, hf⟩ := bnd_some hf
    refine ag_call (m_X12_savedOnes q1) (fun _ h => h.elim) ?_
    obtain ⟨_, σ6, q2, hf⟩ := bnd_some hf
    refine ag_call (m_X12_members q2) (fun _ h => h.elim) ?_
    rcases ite_some hf with ⟨_, hf⟩ | ⟨_, hf⟩
    · skip
      cases hf
      exact ag_refl
    · skip
      obtain ⟨_, σ10, q3, hf⟩ := bnd_some hf
      refine ag_call (m_X12_goEvening q3) (fun _ h => by
            rcases h with h | h | h | h | h | h
            · exact (Or.inl h)
            · exact (Or.inr (Or.inl h))
            · exact (Or.inr (Or.inr (Or.inl h)))
            · exact (Or.inr (Or.inr (Or.inr (Or.inl h))))
            · exact (Or.inr (Or.inr (Or.inr (Or.inr (Or.inl h)))))
            · exact (Or.inr (Or.inr (Or.inr (Or.inr (Or.inr h)))))) ?_
      exact hrec6 _ _ hf
theorem m_X12_grace_6 {N : Nat} {ρ : Nat → Nat → Nat} {this : Nat} {r : Int32} {σr : St} : ∀ (n : Nat) (x1 : Int32) (σ : St), f_X12_grace_6 N ρ this n x1 σ = some (r, σr) → Ag (fun p => p = ρ this 58 ∨ p = ρ this 18 ∨ p = ρ this 26 ∨ p = ρ this 59 ∨ p = ρ this 60 ∨ p = ρ this 57) σ σr := by
  intro n
  induction n with
  | zero => intro x1 σ hf; cases hf
  | succ n ih => intro x1 σ hf; exact k_X12_grace_6 _ ih x1 σ hf
theorem m_X12_grace {N : Nat} {ρ : Nat → Nat → Nat} {this : Nat} {r : Int32} {σr : St} {σ : St} (hf : f_X12_grace N ρ this σ = some (r, σr)) : Ag (fun p => p = ρ this 58 ∨ p = ρ this 18 ∨ p = ρ this 26 ∨ p = ρ this 59 ∨ p = ρ this 60 ∨ p = ρ this 57) σ σr := by
  unfold f_X12_grace at hf
  obtain ⟨_, σ13, q1, hf⟩ := bnd_some hf
  refine ag_call (m_X12_fill q1) (fun _ h => (Or.inr (Or.inr (Or.inr (Or.inr (Or.inr h)))))) ?_
  exact m_X12_grace_6 N _ _ hf
theorem m_X12_easiest_58 {N : Nat} {ρ : Nat → Nat → Nat} {this : Nat} {a1 : Int32} {r : Int32} {σr : St} (rec18 : Int32 → Int32 → St → Option (Int32 × St)) (hrec18 : ∀ (x2 : Int32) (x3 : Int32) (σ : St), rec18 x2 x3 σ = some (r, σr) → Ag (fun p => p = ρ this 57 ∨ p = ρ this 18 ∨ p = ρ this 26) σ σr) (x2 : Int32) (x3 : Int32) (σ : St) (hf : f_X12_easiest_58 N ρ this a1 rec18 x2 x3 σ = some (r, σr)) : Ag (fun p => p = ρ this 57 ∨ p = ρ this 18 ∨ p = ρ this 26) σ σr := by
  unfold f_X12_easiest_58 at hf
  exact hrec18 _ _ _ hf
theorem m_X12_easiest_56 {N : Nat} {ρ : Nat → Nat → Nat} {this : Nat} {a1 : Int32} {r : Int32} {σr : St} (rec18 : Int32 → Int32 → St → Option (Int32 × St)) (hrec18 : ∀ (x2 : Int32) (x3 : Int32) (σ : St), rec18 x2 x3 σ = some (r, σr) → Ag (fun p => p = ρ this 57 ∨ p = ρ this 18 ∨ p = ρ this 26) σ σr) (x3 : Int32) (σ : St) (hf : f_X12_easiest_56 N ρ this a1 rec18 x3 σ = some (r, σr)) : Ag (fun p => p = ρ this 57 ∨ p = ρ this 18 ∨ p = ρ this 26) σ σr := by
  unfold f_X12_easiest_56 at hf
  exact m_X12_easiest_58 rec18 hrec18 _ _ _ hf
theorem k_X12_easiest_18 {N : Nat} {ρ : Nat → Nat → Nat} {this : Nat} {a1 : Int32} {r : Int32} {σr : St} (rec18 : Int32 → Int32 → St → Option (Int32 × St)) (hrec18 : ∀ (x2 : Int32) (x3 : Int32) (σ : St), rec18 x2 x3 σ = some (r, σr) → Ag (fun p => p = ρ this 57 ∨ p = ρ this 18 ∨ p = ρ this 26) σ σr) (x2 : Int32) (x3 : Int32) (σ : St) (hf : b_X12_easiest_18 N ρ this a1 rec18 x2 x3 σ = some (r, σr)) : Ag (fun p => p = ρ this 57 ∨ p = ρ this 18 ∨ p = ρ this 26) σ σr := by
  unfold b_X12_easiest_18 at hf
  rcases ite_some hf with ⟨_, hf⟩ | ⟨_, hf⟩
  · skip
    cases hf
    exact ag_refl
  · skip
    obtain ⟨_, σ3, q1, hf⟩ := bnd_some hf
    refine ag_call (m_X12_countsAlone q1) (fun _ h => by
          rcases h with h | h | h
          · exact (Or.inl h)
          · exact (Or.inr (Or.inl h))
          · exact (Or.inr (Or.inr h))) ?_
    rcases ite_some hf with ⟨_, hf⟩ | ⟨_, hf⟩
    · skip
      exact m_X12_easiest_58 rec18 hrec18 _ _ _ hf
    · skip
      rcases ite_some hf with ⟨_, hf⟩ | ⟨_, hf⟩
      · skip
        exact m_X12_easiest_56 rec18 hrec18 _ _ hf
      · skip
        obtain ⟨_, σ8, q2, hf⟩ := bnd_some hf
        refine ag_call (m_X12_loadAt q2) (fun _ h => by
              rcases h with h | h
              · exact (Or.inr (Or.inl h))
              · exact (Or.inr (Or.inr h))) ?_
        obtain ⟨_, σ11, q3, hf⟩ := bnd_some hf
        refine ag_call (m_X12_loadAt q3) (fun _ h => by
              rcases h with h | h
              · exact (Or.inr (Or.inl h))
              · exact (Or.inr (Or.inr h))) ?_
        rcases ite_some hf with ⟨_, hf⟩ | ⟨_, hf⟩
        · skip
          exact m_X12_easiest_58 rec18 hrec18 _ _ _ hf
        · skip
          exact m_X12_easiest_56 rec18 hrec18 _ _ hf
theorem m_X12_easiest_18 {N : Nat} {ρ : Nat → Nat → Nat} {this : Nat} {a1 : Int32} {r : Int32} {σr : St} : ∀ (n : Nat) (x2 : Int32) (x3 : Int32) (σ : St), f_X12_easiest_18 N ρ this a1 n x2 x3 σ = some (r, σr) → Ag (fun p => p = ρ this 57 ∨ p = ρ this 18 ∨ p = ρ this 26) σ σr := by
  intro n
  induction n with
  | zero => intro x2 x3 σ hf; cases hf
  | succ n ih => intro x2 x3 σ hf; exact k_X12_easiest_18 _ ih x2 x3 σ hf
theorem m_X12_easiest {N : Nat} {ρ : Nat → Nat → Nat} {this : Nat} {a1 : Int32} {r : Int32} {σr : St} {σ : St} (hf : f_X12_easiest N ρ this a1 σ = some (r, σr)) : Ag (fun p => p = ρ this 57 ∨ p = ρ this 18 ∨ p = ρ this 26) σ σr := by
  unfold f_X12_easiest at hf
  obtain ⟨_, σ15, q1, hf⟩ := bnd_some hf
  refine ag_call (m_X12_isStool q1) (fun _ h => h.elim) ?_
  rcases ite_some hf with ⟨_, hf⟩ | ⟨_, hf⟩
  · skip
    cases hf
    exact ag_refl
  · skip
    obtain ⟨_, σ19, q2, hf⟩ := bnd_some hf
    refine ag_call (m_X12_fill q2) (fun _ h => (Or.inl h)) ?_
    exact m_X12_easiest_18 N _ _ _ hf
theorem k_X12_forlorn_15 {N : Nat} {ρ : Nat → Nat → Nat} {this : Nat} {r : Int32} {σr : St} (rec15 : Int32 → Int32 → St → Option (Int32 × St)) (hrec15 : ∀ (x1 : Int32) (x2 : Int32) (σ : St), rec15 x1 x2 σ = some (r, σr) → Ag (fun p => p = ρ this 57 ∨ p = ρ this 18 ∨ p = ρ this 26 ∨ p = ρ this 67) σ σr) (x1 : Int32) (x2 : Int32) (σ : St) (hf : b_X12_forlorn_15 N ρ this rec15 x1 x2 σ = some (r, σr)) : Ag (fun p => p = ρ this 57 ∨ p = ρ this 18 ∨ p = ρ this 26 ∨ p = ρ this 67) σ σr := by
  unfold b_X12_forlorn_15 at hf
  rcases ite_some hf with ⟨_, hf⟩ | ⟨_, hf⟩
  · skip
    cases hf
    exact ag_refl
  · skip
    obtain ⟨_, hf⟩ := gd_some hf
    obtain ⟨y3, ey3, hf⟩ := nmd_some hf
    exact hrec15 _ _ _ hf
theorem m_X12_forlorn_15 {N : Nat} {ρ : Nat → Nat → Nat} {this : Nat} {r : Int32} {σr : St} : ∀ (n : Nat) (x1 : Int32) (x2 : Int32) (σ : St), f_X12_forlorn_15 N ρ this n x1 x2 σ = some (r, σr) → Ag (fun p => p = ρ this 57 ∨ p = ρ this 18 ∨ p = ρ this 26 ∨ p = ρ this 67) σ σr := by
  intro n
  induction n with
  | zero => intro x1 x2 σ hf; cases hf
  | succ n ih => intro x1 x2 σ hf; exact k_X12_forlorn_15 _ ih x1 x2 σ hf
theorem m_X12_forlorn {N : Nat} {ρ : Nat → Nat → Nat} {this : Nat} {r : Int32} {σr : St} {σ : St} (hf : f_X12_forlorn N ρ this σ = some (r, σr)) : Ag (fun p => p = ρ this 57 ∨ p = ρ this 18 ∨ p = ρ this 26 ∨ p = ρ this 67) σ σr := by
  unfold f_X12_forlorn at hf
  obtain ⟨_, σ5, q1, hf⟩ := bnd_some hf
  refine ag_call (m_X12_layCould q1) (fun _ h => by
        rcases h with h | h | h | h
        · exact (Or.inl h)
        · exact (Or.inr (Or.inl h))
        · exact (Or.inr (Or.inr (Or.inl h)))
        · exact (Or.inr (Or.inr (Or.inr h)))) ?_
  obtain ⟨y7, ey7, hf⟩ := nmd_some hf
  exact m_X12_forlorn_15 N _ _ _ hf
theorem m_X12_nearest_55 {N : Nat} {ρ : Nat → Nat → Nat} {this : Nat} {a1 : Int32} {r : Int32} {σr : St} (rec18 : Int32 → Int32 → St → Option (Int32 × St)) (hrec18 : ∀ (x2 : Int32) (x3 : Int32) (σ : St), rec18 x2 x3 σ = some (r, σr) → Ag (fun p => p = ρ this 57) σ σr) (x2 : Int32) (x3 : Int32) (σ : St) (hf : f_X12_nearest_55 N ρ this a1 rec18 x2 x3 σ = some (r, σr)) : Ag (fun p => p = ρ this 57) σ σr := by
  unfold f_X12_nearest_55 at hf
  exact hrec18 _ _ _ hf
theorem m_X12_nearest_53 {N : Nat} {ρ : Nat → Nat → Nat} {this : Nat} {a1 : Int32} {r : Int32} {σr : St} (rec18 : Int32 → Int32 → St → Option (Int32 × St)) (hrec18 : ∀ (x2 : Int32) (x3 : Int32) (σ : St), rec18 x2 x3 σ = some (r, σr) → Ag (fun p => p = ρ this 57) σ σr) (x3 : Int32) (σ : St) (hf : f_X12_nearest_53 N ρ this a1 rec18 x3 σ = some (r, σr)) : Ag (fun p => p = ρ this 57) σ σr := by
  unfold f_X12_nearest_53 at hf
  exact m_X12_nearest_55 rec18 hrec18 _ _ _ hf
theorem k_X12_nearest_18 {N : Nat} {ρ : Nat → Nat → Nat} {this : Nat} {a1 : Int32} {r : Int32} {σr : St} (rec18 : Int32 → Int32 → St → Option (Int32 × St)) (hrec18 : ∀ (x2 : Int32) (x3 : Int32) (σ : St), rec18 x2 x3 σ = some (r, σr) → Ag (fun p => p = ρ this 57) σ σr) (x2 : Int32) (x3 : Int32) (σ : St) (hf : b_X12_nearest_18 N ρ this a1 rec18 x2 x3 σ = some (r, σr)) : Ag (fun p => p = ρ this 57) σ σr := by
  unfold b_X12_nearest_18 at hf
  rcases ite_some hf with ⟨_, hf⟩ | ⟨_, hf⟩
  · skip
    cases hf
    exact ag_refl
  · skip
    obtain ⟨_, σ3, q1, hf⟩ := bnd_some hf
    refine ag_call (m_X12_hasRoom q1) (fun _ h => h.elim) ?_
    rcases ite_some hf with ⟨_, hf⟩ | ⟨_, hf⟩
    · skip
      exact m_X12_nearest_55 rec18 hrec18 _ _ _ hf
    · skip
      rcases ite_some hf with ⟨_, hf⟩ | ⟨_, hf⟩
      · skip
        exact m_X12_nearest_53 rec18 hrec18 _ _ hf
      · skip
        obtain ⟨_, σ8, q2, hf⟩ := bnd_some hf
        refine ag_call (m_X12_wayOf q2) (fun _ h => h.elim) ?_
        obtain ⟨_, σ11, q3, hf⟩ := bnd_some hf
        refine ag_call (m_X12_wayOf q3) (fun _ h => h.elim) ?_
        rcases ite_some hf with ⟨_, hf⟩ | ⟨_, hf⟩
        · skip
          exact m_X12_nearest_55 rec18 hrec18 _ _ _ hf
        · skip
          exact m_X12_nearest_53 rec18 hrec18 _ _ hf
theorem m_X12_nearest_18 {N : Nat} {ρ : Nat → Nat → Nat} {this : Nat} {a1 : Int32} {r : Int32} {σr : St} : ∀ (n : Nat) (x2 : Int32) (x3 : Int32) (σ : St), f_X12_nearest_18 N ρ this a1 n x2 x3 σ = some (r, σr) → Ag (fun p => p = ρ this 57) σ σr := by
  intro n
  induction n with
  | zero => intro x2 x3 σ hf; cases hf
  | succ n ih => intro x2 x3 σ hf; exact k_X12_nearest_18 _ ih x2 x3 σ hf
theorem m_X12_nearest {N : Nat} {ρ : Nat → Nat → Nat} {this : Nat} {a1 : Int32} {r : Int32} {σr : St} {σ : St} (hf : f_X12_nearest N ρ this a1 σ = some (r, σr)) : Ag (fun p => p = ρ this 57) σ σr := by
  unfold f_X12_nearest at hf
  obtain ⟨_, σ15, q1, hf⟩ := bnd_some hf
  refine ag_call (m_X12_isStool q1) (fun _ h => h.elim) ?_
  rcases ite_some hf with ⟨_, hf⟩ | ⟨_, hf⟩
  · skip
    cases hf
    exact ag_refl
  · skip
    obtain ⟨_, σ19, q2, hf⟩ := bnd_some hf
    refine ag_call (m_X12_fill q2) (fun _ h => h) ?_
    exact m_X12_nearest_18 N _ _ _ hf
theorem m_X12_law {N : Nat} {ρ : Nat → Nat → Nat} {this : Nat} {a1 : Int32} {r : Int32} {σr : St} {σ : St} (hf : f_X12_law N ρ this a1 σ = some (r, σr)) : Ag (fun p => p = ρ this 57 ∨ p = this ∨ p = ρ this 18 ∨ p = ρ this 26) σ σr := by
  unfold f_X12_law at hf
  obtain ⟨_, σ2, q1, hf⟩ := bnd_some hf
  refine ag_call (m_X12_isIn q1) (fun _ h => h.elim) ?_
  rcases ite_some hf with ⟨_, hf⟩ | ⟨_, hf⟩
  · skip
    cases hf
    exact ag_refl
  · skip
    obtain ⟨_, σ6, q2, hf⟩ := bnd_some hf
    refine ag_call (m_X12_fill q2) (fun _ h => (Or.inl h)) ?_
    obtain ⟨σ8, eσ8, hf⟩ := nmd_some hf
    refine ag_I eσ8 (Or.inr (Or.inl rfl)) ?_
    obtain ⟨_, σ10, q3, hf⟩ := bnd_some hf
    refine ag_call (m_X12_whoFares q3) (fun _ h => by
          rcases h with h | h
          · exact (Or.inr (Or.inr (Or.inl h)))
          · exact (Or.inr (Or.inr (Or.inr h)))) ?_
    obtain ⟨_, σ13, q4, hf⟩ := bnd_some hf
    refine ag_call (m_X12_members q4) (fun _ h => h.elim) ?_
    obtain ⟨σ15, eσ15, hf⟩ := nmd_some hf
    refine ag_I eσ15 (Or.inr (Or.inl rfl)) ?_
    cases hf
    exact ag_refl
theorem m_X12_schisms_40 {N : Nat} {ρ : Nat → Nat → Nat} {this : Nat} {r : Int32} {σr : St} (rec4 : Int32 → Int32 → St → Option (Int32 × St)) (hrec4 : ∀ (x1 : Int32) (x2 : Int32) (σ : St), rec4 x1 x2 σ = some (r, σr) → Ag (fun p => False) σ σr) (rec14 : Int32 → Int32 → Int32 → St → Option (Int32 × St)) (hrec14 : ∀ (x1 : Int32) (x2 : Int32) (x3 : Int32) (σ : St), rec14 x1 x2 x3 σ = some (r, σr) → Ag (fun p => False) σ σr) (x2 : Int32) (x3 : Int32) (s0 : Int32) (s1 : Int32) (σ : St) (hf : f_X12_schisms_40 N ρ this rec4 rec14 x2 x3 s0 s1 σ = some (r, σr)) : Ag (fun p => False) σ σr := by
  unfold f_X12_schisms_40 at hf
  obtain ⟨_, σ2, q1, hf⟩ := bnd_some hf
  refine ag_call (m_X12_truth q1) (fun _ h => h.elim) ?_
  obtain ⟨y4, ey4, hf⟩ := nmd_some hf
  exact hrec14 _ _ _ _ hf
theorem k_X12_schisms_14 {N : Nat} {ρ : Nat → Nat → Nat} {this : Nat} {r : Int32} {σr : St} (rec4 : Int32 → Int32 → St → Option (Int32 × St)) (hrec4 : ∀ (x1 : Int32) (x2 : Int32) (σ : St), rec4 x1 x2 σ = some (r, σr) → Ag (fun p => False) σ σr) (rec14 : Int32 → Int32 → Int32 → St → Option (Int32 × St)) (hrec14 : ∀ (x1 : Int32) (x2 : Int32) (x3 : Int32) (σ : St), rec14 x1 x2 x3 σ = some (r, σr) → Ag (fun p => False) σ σr) (x1 : Int32) (x2 : Int32) (x3 : Int32) (σ : St) (hf : b_X12_schisms_14 N ρ this rec4 rec14 x1 x2 x3 σ = some (r, σr)) : Ag (fun p => False) σ σr := by
  unfold b_X12_schisms_14 at hf
  rcases ite_some hf with ⟨_, hf⟩ | ⟨_, hf⟩
  · skip
    exact hrec4 _ _ _ hf
  · skip
    obtain ⟨_, hf⟩ := gd_some hf
    obtain ⟨_, hf⟩ := gd_some hf
    rcases ite_some hf with ⟨_, hf⟩ | ⟨_, hf⟩
    · skip
      exact m_X12_schisms_40 rec4 hrec4 rec14 hrec14 _ _ _ _ _ hf
    · skip
      exact m_X12_schisms_40 rec4 hrec4 rec14 hrec14 _ _ _ _ _ hf
theorem m_X12_schisms_14 {N : Nat} {ρ : Nat → Nat → Nat} {this : Nat} {r : Int32} {σr : St} (rec4 : Int32 → Int32 → St → Option (Int32 × St)) (hrec4 : ∀ (x1 : Int32) (x2 : Int32) (σ : St), rec4 x1 x2 σ = some (r, σr) → Ag (fun p => False) σ σr) : ∀ (n : Nat) (x1 : Int32) (x2 : Int32) (x3 : Int32) (σ : St), f_X12_schisms_14 N ρ this rec4 n x1 x2 x3 σ = some (r, σr) → Ag (fun p => False) σ σr := by
  intro n
  induction n with
  | zero => intro x1 x2 x3 σ hf; cases hf
  | succ n ih => intro x1 x2 x3 σ hf; exact k_X12_schisms_14 rec4 hrec4 _ ih x1 x2 x3 σ hf
theorem k_X12_schisms_4 {N : Nat} {ρ : Nat → Nat → Nat} {this : Nat} {r : Int32} {σr : St} (rec4 : Int32 → Int32 → St → Option (Int32 × St)) (hrec4 : ∀ (x1 : Int32) (x2 : Int32) (σ : St), rec4 x1 x2 σ = some (r, σr) → Ag (fun p => False) σ σr) (x1 : Int32) (x2 : Int32) (σ : St) (hf : b_X12_schisms_4 N ρ this rec4 x1 x2 σ = some (r, σr)) : Ag (fun p => False) σ σr := by
  unfold b_X12_schisms_4 at hf
  rcases ite_some hf with ⟨_, hf⟩ | ⟨_, hf⟩
  · skip
    cases hf
    exact ag_refl
  · skip
    exact m_X12_schisms_14 rec4 hrec4 N _ _ _ _ hf
theorem m_X12_schisms_4 {N : Nat} {ρ : Nat → Nat → Nat} {this : Nat} {r : Int32} {σr : St} : ∀ (n : Nat) (x1 : Int32) (x2 : Int32) (σ : St), f_X12_schisms_4 N ρ this n x1 x2 σ = some (r, σr) → Ag (fun p => False) σ σr := by
  intro n
  induction n with
  | zero => intro x1 x2 σ hf; cases hf
  | succ n ih => intro x1 x2 σ hf; exact k_X12_schisms_4 _ ih x1 x2 σ hf
theorem m_X12_schisms {N : Nat} {ρ : Nat → Nat → Nat} {this : Nat} {r : Int32} {σr : St} {σ : St} (hf : f_X12_schisms N ρ this σ = some (r, σr)) : Ag (fun p => False) σ σr := by
  unfold f_X12_schisms at hf
  exact m_X12_schisms_4 N _ _ _ hf
theorem k_X12_divisor_4 {N : Nat} {ρ : Nat → Nat → Nat} {a1 : Int32} {a2 : Int32} {r : Int32} {σr : St} (rec4 : Int32 → Int32 → St → Option (Int32 × St)) (hrec4 : ∀ (x2 : Int32) (x3 : Int32) (σ : St), rec4 x2 x3 σ = some (r, σr) → Ag (fun p => False) σ σr) (x2 : Int32) (x3 : Int32) (σ : St) (hf : b_X12_divisor_4 N ρ a1 a2 rec4 x2 x3 σ = some (r, σr)) : Ag (fun p => False) σ σr := by
  unfold b_X12_divisor_4 at hf
  rcases ite_some hf with ⟨_, hf⟩ | ⟨_, hf⟩
  · skip
    cases hf
    exact ag_refl
  · skip
    obtain ⟨_, hf⟩ := gd_some hf
    obtain ⟨y3, ey3, hf⟩ := nmd_some hf
    exact hrec4 _ _ _ hf
theorem m_X12_divisor_4 {N : Nat} {ρ : Nat → Nat → Nat} {a1 : Int32} {a2 : Int32} {r : Int32} {σr : St} : ∀ (n : Nat) (x2 : Int32) (x3 : Int32) (σ : St), f_X12_divisor_4 N ρ a1 a2 n x2 x3 σ = some (r, σr) → Ag (fun p => False) σ σr := by
  intro n
  induction n with
  | zero => intro x2 x3 σ hf; cases hf
  | succ n ih => intro x2 x3 σ hf; exact k_X12_divisor_4 _ ih x2 x3 σ hf
theorem m_X12_divisor {N : Nat} {ρ : Nat → Nat → Nat} {a1 : Int32} {a2 : Int32} {r : Int32} {σr : St} {σ : St} (hf : f_X12_divisor N ρ a1 a2 σ = some (r, σr)) : Ag (fun p => False) σ σr := by
  unfold f_X12_divisor at hf
  exact m_X12_divisor_4 N _ _ _ hf
theorem m_X12_odds_18 {N : Nat} {ρ : Nat → Nat → Nat} {this : Nat} {a1 : Int32} {a2 : Int32} {r : Int32} {σr : St} (σ : St) (hf : f_X12_odds_18 N ρ this a1 a2 σ = some (r, σr)) : Ag (fun p => False) σ σr := by
  unfold f_X12_odds_18 at hf
  cases hf
  exact ag_refl
theorem m_X12_odds_64 {N : Nat} {ρ : Nat → Nat → Nat} {this : Nat} {a1 : Int32} {a2 : Int32} {r : Int32} {σr : St} (s0 : Int32) (σ : St) (hf : f_X12_odds_64 N ρ this a1 a2 s0 σ = some (r, σr)) : Ag (fun p => False) σ σr := by
  unfold f_X12_odds_64 at hf
  cases hf
  exact ag_refl
theorem m_X12_odds {N : Nat} {ρ : Nat → Nat → Nat} {this : Nat} {a1 : Int32} {a2 : Int32} {r : Int32} {σr : St} {σ : St} (hf : f_X12_odds N ρ this a1 a2 σ = some (r, σr)) : Ag (fun p => False) σ σr := by
  unfold f_X12_odds at hf
  obtain ⟨_, σ2, q1, hf⟩ := bnd_some hf
  refine ag_call (m_X12_isIn q1) (fun _ h => h.elim) ?_
  rcases ite_some hf with ⟨_, hf⟩ | ⟨_, hf⟩
  · skip
    exact m_X12_odds_18 _ hf
  · skip
    obtain ⟨_, σ6, q2, hf⟩ := bnd_some hf
    refine ag_call (m_X12_isIn q2) (fun _ h => h.elim) ?_
    rcases ite_some hf with ⟨_, hf⟩ | ⟨_, hf⟩
    · skip
      exact m_X12_odds_18 _ hf
    · skip
      obtain ⟨_, σ10, q3, hf⟩ := bnd_some hf
      refine ag_call (m_X12_power q3) (fun _ h => h.elim) ?_
      obtain ⟨_, σ13, q4, hf⟩ := bnd_some hf
      refine ag_call (m_X12_power q4) (fun _ h => h.elim) ?_
      obtain ⟨_, σ16, q5, hf⟩ := bnd_some hf
      refine ag_call (m_X12_divisor q5) (fun _ h => h.elim) ?_
      rcases ite_some hf with ⟨_, hf⟩ | ⟨_, hf⟩
      · skip
        obtain ⟨_, hf⟩ := gd_some hf
        exact m_X12_odds_64 _ _ hf
      · skip
        obtain ⟨_, hf⟩ := gd_some hf
        exact m_X12_odds_64 _ _ hf
theorem m_X12_lies_25 {N : Nat} {ρ : Nat → Nat → Nat} {this : Nat} {a1 : Int32} {r : Int32} {σr : St} (s0 : Int32) (σ : St) (hf : f_X12_lies_25 N ρ this a1 s0 σ = some (r, σr)) : Ag (fun p => False) σ σr := by
  unfold f_X12_lies_25 at hf
  cases hf
  exact ag_refl
theorem m_X12_lies {N : Nat} {ρ : Nat → Nat → Nat} {this : Nat} {a1 : Int32} {r : Int32} {σr : St} {σ : St} (hf : f_X12_lies N ρ this a1 σ = some (r, σr)) : Ag (fun p => False) σ σr := by
  unfold f_X12_lies at hf
  obtain ⟨_, σ2, q1, hf⟩ := bnd_some hf
  refine ag_call (m_X12_isIn q1) (fun _ h => h.elim) ?_
  rcases ite_some hf with ⟨_, hf⟩ | ⟨_, hf⟩
  · skip
    exact m_X12_lies_25 _ _ hf
  · skip
    obtain ⟨_, hf⟩ := gd_some hf
    exact m_X12_lies_25 _ _ hf
theorem m_X12_mark_35 {N : Nat} {ρ : Nat → Nat → Nat} {this : Nat} {a1 : Int32} {a2 : Int32} {a3 : Int32} {a4 : Int32} {r : Int32} {σr : St} (σ : St) (hf : f_X12_mark_35 N ρ this a1 a2 a3 a4 σ = some (r, σr)) : Ag (fun p => p = ρ this 68 ∨ p = ρ this 69 ∨ p = ρ this 70 ∨ p = ρ this 73 ∨ p = ρ this 71 ∨ p = ρ this 72 ∨ p = this) σ σr := by
  unfold f_X12_mark_35 at hf
  cases hf
  exact ag_refl
theorem m_X12_mark {N : Nat} {ρ : Nat → Nat → Nat} {this : Nat} {a1 : Int32} {a2 : Int32} {a3 : Int32} {a4 : Int32} {r : Int32} {σr : St} {σ : St} (hf : f_X12_mark N ρ this a1 a2 a3 a4 σ = some (r, σr)) : Ag (fun p => p = ρ this 68 ∨ p = ρ this 69 ∨ p = ρ this 70 ∨ p = ρ this 73 ∨ p = ρ this 71 ∨ p = ρ this 72 ∨ p = this) σ σr := by
  unfold f_X12_mark at hf
  rcases ite_some hf with ⟨_, hf⟩ | ⟨_, hf⟩
  · skip
    exact m_X12_mark_35 _ hf
  · skip
    obtain ⟨_, σ3, q1, hf⟩ := bnd_some hf
    refine ag_call (m_X12_isIn q1) (fun _ h => h.elim) ?_
    rcases ite_some hf with ⟨_, hf⟩ | ⟨_, hf⟩
    · skip
      exact m_X12_mark_35 _ hf
    · skip
      obtain ⟨_, σ7, q2, hf⟩ := bnd_some hf
      refine ag_call (m_X12_isIn q2) (fun _ h => h.elim) ?_
      rcases ite_some hf with ⟨_, hf⟩ | ⟨_, hf⟩
      · skip
        exact m_X12_mark_35 _ hf
      · skip
        rcases ite_some hf with ⟨_, hf⟩ | ⟨_, hf⟩
        · skip
          exact m_X12_mark_35 _ hf
        · skip
          obtain ⟨_, hf⟩ := gd_some hf
          obtain ⟨σ12, eσ12, hf⟩ := nmd_some hf
          refine ag_I eσ12 (Or.inl rfl) ?_
          obtain ⟨_, hf⟩ := gd_some hf
          obtain ⟨σ14, eσ14, hf⟩ := nmd_some hf
          refine ag_I eσ14 (Or.inr (Or.inl rfl)) ?_
          obtain ⟨_, hf⟩ := gd_some hf
          obtain ⟨σ16, eσ16, hf⟩ := nmd_some hf
          refine ag_I eσ16 (Or.inr (Or.inr (Or.inl rfl))) ?_
          obtain ⟨_, hf⟩ := gd_some hf
          obtain ⟨σ18, eσ18, hf⟩ := nmd_some hf
          refine ag_I eσ18 (Or.inr (Or.inr (Or.inr (Or.inl rfl)))) ?_
          obtain ⟨_, hf⟩ := gd_some hf
          obtain ⟨σ20, eσ20, hf⟩ := nmd_some hf
          refine ag_I eσ20 (Or.inr (Or.inr (Or.inr (Or.inr (Or.inl rfl))))) ?_
          obtain ⟨_, hf⟩ := gd_some hf
          obtain ⟨σ22, eσ22, hf⟩ := nmd_some hf
          refine ag_I eσ22 (Or.inr (Or.inr (Or.inr (Or.inr (Or.inr (Or.inl rfl)))))) ?_
          obtain ⟨σ23, eσ23, hf⟩ := nmd_some hf
          refine ag_I eσ23 (Or.inr (Or.inr (Or.inr (Or.inr (Or.inr (Or.inr rfl)))))) ?_
          cases hf
          exact ag_refl
theorem m_X12_dented {N : Nat} {ρ : Nat → Nat → Nat} {this : Nat} {a1 : Int32} {a2 : Int32} {a3 : Int32} {r : Int32} {σr : St} {σ : St} (hf : f_X12_dented N ρ this a1 a2 a3 σ = some (r, σr)) : Ag (fun p => p = ρ this 68 ∨ p = ρ this 69 ∨ p = ρ this 70 ∨ p = ρ this 73 ∨ p = ρ this 71 ∨ p = ρ this 72 ∨ p = this) σ σr := by
  unfold f_X12_dented at hf
  obtain ⟨_, σ2, q1, hf⟩ := bnd_some hf
  refine ag_call (m_X12_mark q1) (fun _ h => by
        rcases h with h | h | h | h | h | h | h
        · exact (Or.inl h)
        · exact (Or.inr (Or.inl h))
        · exact (Or.inr (Or.inr (Or.inl h)))
        · exact (Or.inr (Or.inr (Or.inr (Or.inl h))))
        · exact (Or.inr (Or.inr (Or.inr (Or.inr (Or.inl h)))))
        · exact (Or.inr (Or.inr (Or.inr (Or.inr (Or.inr (Or.inl h))))))
        · exact (Or.inr (Or.inr (Or.inr (Or.inr (Or.inr (Or.inr h))))))) ?_
  cases hf
  exact ag_refl
theorem m_X12_held {N : Nat} {ρ : Nat → Nat → Nat} {this : Nat} {a1 : Int32} {a2 : Int32} {a3 : Int32} {r : Int32} {σr : St} {σ : St} (hf : f_X12_held N ρ this a1 a2 a3 σ = some (r, σr)) : Ag (fun p => p = ρ this 68 ∨ p = ρ this 69 ∨ p = ρ this 70 ∨ p = ρ this 73 ∨ p = ρ this 71 ∨ p = ρ this 72 ∨ p = this) σ σr := by
  unfold f_X12_held at hf
  obtain ⟨_, σ2, q1, hf⟩ := bnd_some hf
  refine ag_call (m_X12_mark q1) (fun _ h => by
        rcases h with h | h | h | h | h | h | h
        · exact (Or.inl h)
        · exact (Or.inr (Or.inl h))
        · exact (Or.inr (Or.inr (Or.inl h)))
        · exact (Or.inr (Or.inr (Or.inr (Or.inl h))))
        · exact (Or.inr (Or.inr (Or.inr (Or.inr (Or.inl h)))))
        · exact (Or.inr (Or.inr (Or.inr (Or.inr (Or.inr (Or.inl h))))))
        · exact (Or.inr (Or.inr (Or.inr (Or.inr (Or.inr (Or.inr h))))))) ?_
  cases hf
  exact ag_refl
theorem m_X12_untell_23 {N : Nat} {ρ : Nat → Nat → Nat} {this : Nat} {a1 : Int32} {r : Int32} {σr : St} (σ : St) (hf : f_X12_untell_23 N ρ this a1 σ = some (r, σr)) : Ag (fun p => p = ρ this 72) σ σr := by
  unfold f_X12_untell_23 at hf
  cases hf
  exact ag_refl
theorem m_X12_untell {N : Nat} {ρ : Nat → Nat → Nat} {this : Nat} {a1 : Int32} {r : Int32} {σr : St} {σ : St} (hf : f_X12_untell N ρ this a1 σ = some (r, σr)) : Ag (fun p => p = ρ this 72) σ σr := by
  unfold f_X12_untell at hf
  obtain ⟨_, σ2, q1, hf⟩ := bnd_some hf
  refine ag_call (m_X12_isIn q1) (fun _ h => h.elim) ?_
  rcases ite_some hf with ⟨_, hf⟩ | ⟨_, hf⟩
  · skip
    exact m_X12_untell_23 _ hf
  · skip
    obtain ⟨_, hf⟩ := gd_some hf
    rcases ite_some hf with ⟨_, hf⟩ | ⟨_, hf⟩
    · skip
      obtain ⟨_, hf⟩ := gd_some hf
      obtain ⟨σ8, eσ8, hf⟩ := nmd_some hf
      refine ag_I eσ8 rfl ?_
      cases hf
      exact ag_refl
    · skip
      exact m_X12_untell_23 _ hf
theorem m_X12_later_23 {N : Nat} {ρ : Nat → Nat → Nat} {this : Nat} {a1 : Int32} {r : Int32} {σr : St} (σ : St) (hf : f_X12_later_23 N ρ this a1 σ = some (r, σr)) : Ag (fun p => p = this) σ σr := by
  unfold f_X12_later_23 at hf
  cases hf
  exact ag_refl
theorem m_X12_later {N : Nat} {ρ : Nat → Nat → Nat} {this : Nat} {a1 : Int32} {r : Int32} {σr : St} {σ : St} (hf : f_X12_later N ρ this a1 σ = some (r, σr)) : Ag (fun p => p = this) σ σr := by
  unfold f_X12_later at hf
  rcases ite_some hf with ⟨_, hf⟩ | ⟨_, hf⟩
  · skip
    exact m_X12_later_23 _ hf
  · skip
    rcases ite_some hf with ⟨_, hf⟩ | ⟨_, hf⟩
    · skip
      exact m_X12_later_23 _ hf
    · skip
      rcases ite_some hf with ⟨_, hf⟩ | ⟨_, hf⟩
      · skip
        obtain ⟨σ4, eσ4, hf⟩ := nmd_some hf
        refine ag_I eσ4 rfl ?_
        cases hf
        exact ag_refl
      · skip
        exact m_X12_later_23 _ hf
theorem m_X12_isSo_47 {N : Nat} {ρ : Nat → Nat → Nat} {this : Nat} {a1 : Int32} {r : Int32} {σr : St} (s0 : Int32) (σ : St) (hf : f_X12_isSo_47 N ρ this a1 s0 σ = some (r, σr)) : Ag (fun p => False) σ σr := by
  unfold f_X12_isSo_47 at hf
  obtain ⟨_, hf⟩ := gd_some hf
  cases hf
  exact ag_refl
theorem m_X12_isSo_33 {N : Nat} {ρ : Nat → Nat → Nat} {this : Nat} {a1 : Int32} {r : Int32} {σr : St} (s0 : Int32) (σ : St) (hf : f_X12_isSo_33 N ρ this a1 s0 σ = some (r, σr)) : Ag (fun p => False) σ σr := by
  unfold f_X12_isSo_33 at hf
  obtain ⟨_, hf⟩ := gd_some hf
  rcases ite_some hf with ⟨_, hf⟩ | ⟨_, hf⟩
  · skip
    exact m_X12_isSo_47 _ _ hf
  · skip
    exact m_X12_isSo_47 _ _ hf
theorem m_X12_isSo {N : Nat} {ρ : Nat → Nat → Nat} {this : Nat} {a1 : Int32} {r : Int32} {σr : St} {σ : St} (hf : f_X12_isSo N ρ this a1 σ = some (r, σr)) : Ag (fun p => False) σ σr := by
  unfold f_X12_isSo at hf
  obtain ⟨_, hf⟩ := gd_some hf
  obtain ⟨y5, ey5, hf⟩ := nmd_some hf
  obtain ⟨_, hf⟩ := gd_some hf
  rcases ite_some hf with ⟨_, hf⟩ | ⟨_, hf⟩
  · skip
    obtain ⟨_, hf⟩ := gd_some hf
    exact m_X12_isSo_33 _ _ hf
  · skip
    obtain ⟨_, hf⟩ := gd_some hf
    exact m_X12_isSo_33 _ _ hf
theorem m_X12_layRows_116 {N : Nat} {ρ : Nat → Nat → Nat} {this : Nat} {a1 : Int32} {r : Int32} {σr : St} (rec25 : Int32 → Int32 → St → Option (Int32 × St)) (hrec25 : ∀ (x2 : Int32) (x3 : Int32) (σ : St), rec25 x2 x3 σ = some (r, σr) → Ag (fun p => p = ρ this 57 ∨ p = ρ this 58 ∨ p = ρ this 18 ∨ p = ρ this 26 ∨ p = ρ this 59 ∨ p = ρ this 60 ∨ p = ρ this 77 ∨ p = ρ this 78 ∨ p = ρ this 79 ∨ p = ρ this 76) σ σr) (rec56 : Int32 → Int32 → Int32 → Int32 → St → Option (Int32 × St)) (hrec56 : ∀ (x2 : Int32) (x3 : Int32) (x4 : Int32) (x5 : Int32) (σ : St), rec56 x2 x3 x4 x5 σ = some (r, σr) → Ag (fun p => p = ρ this 57 ∨ p = ρ this 58 ∨ p = ρ this 18 ∨ p = ρ this 26 ∨ p = ρ this 59 ∨ p = ρ this 60 ∨ p = ρ this 77 ∨ p = ρ this 78 ∨ p = ρ this 79 ∨ p = ρ this 76) σ σr) (x2 : Int32) (x3 : Int32) (x4 : Int32) (x5 : Int32) (s0 : Int32) (s1 : Int32) (σ : St) (hf : f_X12_layRows_116 N ρ this a1 rec25 rec56 x2 x3 x4 x5 s0 s1 σ = some (r, σr)) : Ag (fun p => p = ρ this 57 ∨ p = ρ this 58 ∨ p = ρ this 18 ∨ p = ρ this 26 ∨ p = ρ this 59 ∨ p = ρ this 60 ∨ p = ρ this 77 ∨ p = ρ this 78 ∨ p = ρ this 79 ∨ p = ρ this 76) σ σr := by
  unfold f_X12_layRows_116 at hf
  obtain ⟨_, σ2, q1, hf⟩ := bnd_some hf
  refine ag_call (m_X12_sendJust q1) (fun _ h => (Or.inl h)) ?_
  obtain ⟨_, σ5, q2, hf⟩ := bnd_some hf
  refine ag_call (m_X12_goEvening q2) (fun _ h => by
        rcases h with h | h | h | h | h | h
        · exact (Or.inr (Or.inl h))
        · exact (Or.inr (Or.inr (Or.inl h)))
        · exact (Or.inr (Or.inr (Or.inr (Or.inl h))))
        · exact (Or.inr (Or.inr (Or.inr (Or.inr (Or.inl h)))))
        · exact (Or.inr (Or.inr (Or.inr (Or.inr (Or.inr (Or.inl h))))))
        · exact (Or.inl h)) ?_
  obtain ⟨_, hf⟩ := gd_some hf
  obtain ⟨_, hf⟩ := gd_some hf
  obtain ⟨σ9, eσ9, hf⟩ := nmd_some hf
  refine ag_I eσ9 (Or.inr (Or.inr (Or.inr (Or.inr (Or.inr (Or.inr (Or.inl rfl))))))) ?_
  obtain ⟨_, hf⟩ := gd_some hf
  obtain ⟨_, hf⟩ := gd_some hf
  obtain ⟨σ12, eσ12, hf⟩ := nmd_some hf
  refine ag_I eσ12 (Or.inr (Or.inr (Or.inr (Or.inr (Or.inr (Or.inr (Or.inr (Or.inl rfl)))))))) ?_
  exact hrec56 _ _ _ _ _ hf
theorem m_X12_layRows_229 {N : Nat} {ρ : Nat → Nat → Nat} {this : Nat} {a1 : Int32} {r : Int32} {σr : St} (rec25 : Int32 → Int32 → St → Option (Int32 × St)) (hrec25 : ∀ (x2 : Int32) (x3 : Int32) (σ : St), rec25 x2 x3 σ = some (r, σr) → Ag (fun p => p = ρ this 57 ∨ p = ρ this 58 ∨ p = ρ this 18 ∨ p = ρ this 26 ∨ p = ρ this 59 ∨ p = ρ this 60 ∨ p = ρ this 77 ∨ p = ρ this 78 ∨ p = ρ this 79 ∨ p = ρ this 76) σ σr) (rec162 : Int32 → Int32 → Int32 → Int32 → St → Option (Int32 × St)) (hrec162 : ∀ (x2 : Int32) (x3 : Int32) (x5 : Int32) (x6 : Int32) (σ : St), rec162 x2 x3 x5 x6 σ = some (r, σr) → Ag (fun p => p = ρ this 57 ∨ p = ρ this 58 ∨ p = ρ this 18 ∨ p = ρ this 26 ∨ p = ρ this 59 ∨ p = ρ this 60 ∨ p = ρ this 77 ∨ p = ρ this 78 ∨ p = ρ this 79 ∨ p = ρ this 76) σ σr) (x2 : Int32) (x3 : Int32) (x6 : Int32) (s0 : Int32) (σ : St) (hf : f_X12_layRows_229 N ρ this a1 rec25 rec162 x2 x3 x6 s0 σ = some (r, σr)) : Ag (fun p => p = ρ this 57 ∨ p = ρ this 58 ∨ p = ρ this 18 ∨ p = ρ this 26 ∨ p = ρ this 59 ∨ p = ρ this 60 ∨ p = ρ this 77 ∨ p = ρ this 78 ∨ p = ρ this 79 ∨ p = ρ this 76) σ σr := by
  unfold f_X12_layRows_229 at hf
  exact hrec162 _ _ _ _ _ hf
theorem m_X12_layRows_224 {N : Nat} {ρ : Nat → Nat → Nat} {this : Nat} {a1 : Int32} {r : Int32} {σr : St} (rec25 : Int32 → Int32 → St → Option (Int32 × St)) (hrec25 : ∀ (x2 : Int32) (x3 : Int32) (σ : St), rec25 x2 x3 σ = some (r, σr) → Ag (fun p => p = ρ this 57 ∨ p = ρ this 58 ∨ p = ρ this 18 ∨ p = ρ this 26 ∨ p = ρ this 59 ∨ p = ρ this 60 ∨ p = ρ this 77 ∨ p = ρ this 78 ∨ p = ρ this 79 ∨ p = ρ this 76) σ σr) (rec162 : Int32 → Int32 → Int32 → Int32 → St → Option (Int32 × St)) (hrec162 : ∀ (x2 : Int32) (x3 : Int32) (x5 : Int32) (x6 : Int32) (σ : St), rec162 x2 x3 x5 x6 σ = some (r, σr) → Ag (fun p => p = ρ this 57 ∨ p = ρ this 58 ∨ p = ρ this 18 ∨ p = ρ this 26 ∨ p = ρ this 59 ∨ p = ρ this 60 ∨ p = ρ this 77 ∨ p = ρ this 78 ∨ p = ρ this 79 ∨ p = ρ this 76) σ σr) (x2 : Int32) (x3 : Int32) (x6 : Int32) (σ : St) (hf : f_X12_layRows_224 N ρ this a1 rec25 rec162 x2 x3 x6 σ = some (r, σr)) : Ag (fun p => p = ρ this 57 ∨ p = ρ this 58 ∨ p = ρ this 18 ∨ p = ρ this 26 ∨ p = ρ this 59 ∨ p = ρ this 60 ∨ p = ρ this 77 ∨ p = ρ this 78 ∨ p = ρ this 79 ∨ p = ρ this 76) σ σr := by
  unfold f_X12_layRows_224 at hf
  exact m_X12_layRows_229 rec25 hrec25 rec162 hrec162 _ _ _ _ _ hf
theorem m_X12_layRows_208 {N : Nat} {ρ : Nat → Nat → Nat} {this : Nat} {a1 : Int32} {r : Int32} {σr : St} (rec25 : Int32 → Int32 → St → Option (Int32 × St)) (hrec25 : ∀ (x2 : Int32) (x3 : Int32) (σ : St), rec25 x2 x3 σ = some (r, σr) → Ag (fun p => p = ρ this 57 ∨ p = ρ this 58 ∨ p = ρ this 18 ∨ p = ρ this 26 ∨ p = ρ this 59 ∨ p = ρ this 60 ∨ p = ρ this 77 ∨ p = ρ this 78 ∨ p = ρ this 79 ∨ p = ρ this 76) σ σr) (rec162 : Int32 → Int32 → Int32 → Int32 → St → Option (Int32 × St)) (hrec162 : ∀ (x2 : Int32) (x3 : Int32) (x5 : Int32) (x6 : Int32) (σ : St), rec162 x2 x3 x5 x6 σ = some (r, σr) → Ag (fun p => p = ρ this 57 ∨ p = ρ this 58 ∨ p = ρ this 18 ∨ p = ρ this 26 ∨ p = ρ this 59 ∨ p = ρ this 60 ∨ p = ρ this 77 ∨ p = ρ this 78 ∨ p = ρ this 79 ∨ p = ρ this 76) σ σr) (x2 : Int32) (x3 : Int32) (x6 : Int32) (σ : St) (hf : f_X12_layRows_208 N ρ this a1 rec25 rec162 x2 x3 x6 σ = some (r, σr)) : Ag (fun p => p = ρ this 57 ∨ p = ρ this 58 ∨ p = ρ this 18 ∨ p = ρ this 26 ∨ p = ρ this 59 ∨ p = ρ this 60 ∨ p = ρ this 77 ∨ p = ρ this 78 ∨ p = ρ this 79 ∨ p = ρ this 76) σ σr := by
  unfold f_X12_layRows_208 at hf
  obtain ⟨_, σ14, q1, hf⟩ := bnd_some hf
  refine ag_call (m_X12_isSo q1) (fun _ h => h.elim) ?_
  obtain ⟨_, hf⟩ := gd_some hf
  rcases ite_some hf with ⟨_, hf⟩ | ⟨_, hf⟩
  · skip
    exact m_X12_layRows_224 rec25 hrec25 rec162 hrec162 _ _ _ _ hf
  · skip
    exact m_X12_layRows_229 rec25 hrec25 rec162 hrec162 _ _ _ _ _ hf
theorem m_X12_layRows_285 {N : Nat} {ρ : Nat → Nat → Nat} {this : Nat} {a1 : Int32} {r : Int32} {σr : St} (rec25 : Int32 → Int32 → St → Option (Int32 × St)) (hrec25 : ∀ (x2 : Int32) (x3 : Int32) (σ : St), rec25 x2 x3 σ = some (r, σr) → Ag (fun p => p = ρ this 57 ∨ p = ρ this 58 ∨ p = ρ this 18 ∨ p = ρ this 26 ∨ p = ρ this 59 ∨ p = ρ this 60 ∨ p = ρ this 77 ∨ p = ρ this 78 ∨ p = ρ this 79 ∨ p = ρ this 76) σ σr) (x2 : Int32) (x3 : Int32) (σ : St) (hf : f_X12_layRows_285 N ρ this a1 rec25 x2 x3 σ = some (r, σr)) : Ag (fun p => p = ρ this 57 ∨ p = ρ this 58 ∨ p = ρ this 18 ∨ p = ρ this 26 ∨ p = ρ this 59 ∨ p = ρ this 60 ∨ p = ρ this 77 ∨ p = ρ this 78 ∨ p = ρ this 79 ∨ p = ρ this 76) σ σr := by
  unfold f_X12_layRows_285 at hf
  exact hrec25 _ _ _ hf
theorem k_X12_layRows_251 {N : Nat} {ρ : Nat → Nat → Nat} {this : Nat} {a1 : Int32} {r : Int32} {σr : St} (rec25 : Int32 → Int32 → St → Option (Int32 × St)) (hrec25 : ∀ (x2 : Int32) (x3 : Int32) (σ : St), rec25 x2 x3 σ = some (r, σr) → Ag (fun p => p = ρ this 57 ∨ p = ρ this 58 ∨ p = ρ this 18 ∨ p = ρ this 26 ∨ p = ρ this 59 ∨ p = ρ this 60 ∨ p = ρ this 77 ∨ p = ρ this 78 ∨ p = ρ this 79 ∨ p = ρ this 76) σ σr) (rec251 : Int32 → Int32 → Int32 → St → Option (Int32 × St)) (hrec251 : ∀ (x2 : Int32) (x3 : Int32) (x6 : Int32) (σ : St), rec251 x2 x3 x6 σ = some (r, σr) → Ag (fun p => p = ρ this 57 ∨ p = ρ this 58 ∨ p = ρ this 18 ∨ p = ρ this 26 ∨ p = ρ this 59 ∨ p = ρ this 60 ∨ p = ρ this 77 ∨ p = ρ this 78 ∨ p = ρ this 79 ∨ p = ρ this 76) σ σr) (x2 : Int32) (x3 : Int32) (x6 : Int32) (σ : St) (hf : b_X12_layRows_251 N ρ this a1 rec25 rec251 x2 x3 x6 σ = some (r, σr)) : Ag (fun p => p = ρ this 57 ∨ p = ρ this 58 ∨ p = ρ this 18 ∨ p = ρ this 26 ∨ p = ρ this 59 ∨ p = ρ this 60 ∨ p = ρ this 77 ∨ p = ρ this 78 ∨ p = ρ this 79 ∨ p = ρ this 76) σ σr := by
  unfold b_X12_layRows_251 at hf
  rcases ite_some hf with ⟨_, hf⟩ | ⟨_, hf⟩
  · skip
    exact m_X12_layRows_285 rec25 hrec25 _ _ _ hf
  · skip
    obtain ⟨_, hf⟩ := gd_some hf
    obtain ⟨_, hf⟩ := gd_some hf
    obtain ⟨_, hf⟩ := gd_some hf
    obtain ⟨σ22, eσ22, hf⟩ := nmd_some hf
    refine ag_I eσ22 (Or.inr (Or.inr (Or.inr (Or.inr (Or.inr (Or.inr (Or.inr (Or.inr (Or.inl rfl))))))))) ?_
    exact hrec251 _ _ _ _ hf
theorem m_X12_layRows_251 {N : Nat} {ρ : Nat → Nat → Nat} {this : Nat} {a1 : Int32} {r : Int32} {σr : St} (rec25 : Int32 → Int32 → St → Option (Int32 × St)) (hrec25 : ∀ (x2 : Int32) (x3 : Int32) (σ : St), rec25 x2 x3 σ = some (r, σr) → Ag (fun p => p = ρ this 57 ∨ p = ρ this 58 ∨ p = ρ this 18 ∨ p = ρ this 26 ∨ p = ρ this 59 ∨ p = ρ this 60 ∨ p = ρ this 77 ∨ p = ρ this 78 ∨ p = ρ this 79 ∨ p = ρ this 76) σ σr) : ∀ (n : Nat) (x2 : Int32) (x3 : Int32) (x6 : Int32) (σ : St), f_X12_layRows_251 N ρ this a1 rec25 n x2 x3 x6 σ = some (r, σr) → Ag (fun p => p = ρ this 57 ∨ p = ρ this 58 ∨ p = ρ this 18 ∨ p = ρ this 26 ∨ p = ρ this 59 ∨ p = ρ this 60 ∨ p = ρ this 77 ∨ p = ρ this 78 ∨ p = ρ this 79 ∨ p = ρ this 76) σ σr := by
  intro n
  induction n with
  | zero => intro x2 x3 x6 σ hf; cases hf
  | succ n ih => intro x2 x3 x6 σ hf; exact k_X12_layRows_251 rec25 hrec25 _ ih x2 x3 x6 σ hf
theorem m_X12_layRows_237 {N : Nat} {ρ : Nat → Nat → Nat} {this : Nat} {a1 : Int32} {r : Int32} {σr : St} (rec25 : Int32 → Int32 → St → Option (Int32 × St)) (hrec25 : ∀ (x2 : Int32) (x3 : Int32) (σ : St), rec25 x2 x3 σ = some (r, σr) → Ag (fun p => p = ρ this 57 ∨ p = ρ this 58 ∨ p = ρ this 18 ∨ p = ρ this 26 ∨ p = ρ this 59 ∨ p = ρ this 60 ∨ p = ρ this 77 ∨ p = ρ this 78 ∨ p = ρ this 79 ∨ p = ρ this 76) σ σr) (x2 : Int32) (x3 : Int32) (x5 : Int32) (σ : St) (hf : f_X12_layRows_237 N ρ this a1 rec25 x2 x3 x5 σ = some (r, σr)) : Ag (fun p => p = ρ this 57 ∨ p = ρ this 58 ∨ p = ρ this 18 ∨ p = ρ this 26 ∨ p = ρ this 59 ∨ p = ρ this 60 ∨ p = ρ this 77 ∨ p = ρ this 78 ∨ p = ρ this 79 ∨ p = ρ this 76) σ σr := by
  unfold f_X12_layRows_237 at hf
  rcases ite_some hf with ⟨_, hf⟩ | ⟨_, hf⟩
  · skip
    exact m_X12_layRows_285 rec25 hrec25 _ _ _ hf
  · skip
    exact m_X12_layRows_251 rec25 hrec25 N _ _ _ _ hf
theorem k_X12_layRows_162 {N : Nat} {ρ : Nat → Nat → Nat} {this : Nat} {a1 : Int32} {r : Int32} {σr : St} (rec25 : Int32 → Int32 → St → Option (Int32 × St)) (hrec25 : ∀ (x2 : Int32) (x3 : Int32) (σ : St), rec25 x2 x3 σ = some (r, σr) → Ag (fun p => p = ρ this 57 ∨ p = ρ this 58 ∨ p = ρ this 18 ∨ p = ρ this 26 ∨ p = ρ this 59 ∨ p = ρ this 60 ∨ p = ρ this 77 ∨ p = ρ this 78 ∨ p = ρ this 79 ∨ p = ρ this 76) σ σr) (rec162 : Int32 → Int32 → Int32 → Int32 → St → Option (Int32 × St)) (hrec162 : ∀ (x2 : Int32) (x3 : Int32) (x5 : Int32) (x6 : Int32) (σ : St), rec162 x2 x3 x5 x6 σ = some (r, σr) → Ag (fun p => p = ρ this 57 ∨ p = ρ this 58 ∨ p = ρ this 18 ∨ p = ρ this 26 ∨ p = ρ this 59 ∨ p = ρ this 60 ∨ p = ρ this 77 ∨ p = ρ this 78 ∨ p = ρ this 79 ∨ p = ρ this 76) σ σr) (x2 : Int32) (x3 : Int32) (x5 : Int32) (x6 : Int32) (σ : St) (hf : b_X12_layRows_162 N ρ this a1 rec25 rec162 x2 x3 x5 x6 σ = some (r, σr)) : Ag (fun p => p = ρ this 57 ∨ p = ρ this 58 ∨ p = ρ this 18 ∨ p = ρ this 26 ∨ p = ρ this 59 ∨ p = ρ this 60 ∨ p = ρ this 77 ∨ p = ρ this 78 ∨ p = ρ this 79 ∨ p = ρ this 76) σ σr := by
  unfold b_X12_layRows_162 at hf
  rcases ite_some hf with ⟨_, hf⟩ | ⟨_, hf⟩
  · skip
    exact m_X12_layRows_237 rec25 hrec25 _ _ _ _ hf
  · skip
    rcases ite_some hf with ⟨_, hf⟩ | ⟨_, hf⟩
    · skip
      exact m_X12_layRows_237 rec25 hrec25 _ _ _ _ hf
    · skip
      obtain ⟨_, hf⟩ := gd_some hf
      rcases ite_some hf with ⟨_, hf⟩ | ⟨_, hf⟩
      · skip
        exact m_X12_layRows_224 rec25 hrec25 rec162 hrec162 _ _ _ _ hf
      · skip
        obtain ⟨_, hf⟩ := gd_some hf
        rcases ite_some hf with ⟨_, hf⟩ | ⟨_, hf⟩
        · skip
          exact m_X12_layRows_208 rec25 hrec25 rec162 hrec162 _ _ _ _ hf
        · skip
          obtain ⟨_, hf⟩ := gd_some hf
          rcases ite_some hf with ⟨_, hf⟩ | ⟨_, hf⟩
          · skip
            exact m_X12_layRows_224 rec25 hrec25 rec162 hrec162 _ _ _ _ hf
          · skip
            exact m_X12_layRows_208 rec25 hrec25 rec162 hrec162 _ _ _ _ hf
theorem m_X12_layRows_162 {N : Nat} {ρ : Nat → Nat → Nat} {this : Nat} {a1 : Int32} {r : Int32} {σr : St} (rec25 : Int32 → Int32 → St → Option (Int32 × St)) (hrec25 : ∀ (x2 : Int32) (x3 : Int32) (σ : St), rec25 x2 x3 σ = some (r, σr) → Ag (fun p => p = ρ this 57 ∨ p = ρ this 58 ∨ p = ρ this 18 ∨ p = ρ this 26 ∨ p = ρ this 59 ∨ p = ρ this 60 ∨ p = ρ this 77 ∨ p = ρ this 78 ∨ p = ρ this 79 ∨ p = ρ this 76) σ σr) : ∀ (n : Nat) (x2 : Int32) (x3 : Int32) (x5 : Int32) (x6 : Int32) (σ : St), f_X12_layRows_162 N ρ this a1 rec25 n x2 x3 x5 x6 σ = some (r, σr) → Ag (fun p => p = ρ this 57 ∨ p = ρ this 58 ∨ p = ρ this 18 ∨ p = ρ this 26 ∨ p = ρ this 59 ∨ p = ρ this 60 ∨ p = ρ this 77 ∨ p = ρ this 78 ∨ p = ρ this 79 ∨ p = ρ this 76) σ σr := by
  intro n
  induction n with
  | zero => intro x2 x3 x5 x6 σ hf; cases hf
  | succ n ih => intro x2 x3 x5 x6 σ hf; exact k_X12_layRows_162 rec25 hrec25 _ ih x2 x3 x5 x6 σ hf
theorem k_X12_layRows_56 {N : Nat} {ρ : Nat → Nat → Nat} {this : Nat} {a1 : Int32} {r : Int32} {σr : St} (rec25 : Int32 → Int32 → St → Option (Int32 × St)) (hrec25 : ∀ (x2 : Int32) (x3 : Int32) (σ : St), rec25 x2 x3 σ = some (r, σr) → Ag (fun p => p = ρ this 57 ∨ p = ρ this 58 ∨ p = ρ this 18 ∨ p = ρ this 26 ∨ p = ρ this 59 ∨ p = ρ this 60 ∨ p = ρ this 77 ∨ p = ρ this 78 ∨ p = ρ this 79 ∨ p = ρ this 76) σ σr) (rec56 : Int32 → Int32 → Int32 → Int32 → St → Option (Int32 × St)) (hrec56 : ∀ (x2 : Int32) (x3 : Int32) (x4 : Int32) (x5 : Int32) (σ : St), rec56 x2 x3 x4 x5 σ = some (r, σr) → Ag (fun p => p = ρ this 57 ∨ p = ρ this 58 ∨ p = ρ this 18 ∨ p = ρ this 26 ∨ p = ρ this 59 ∨ p = ρ this 60 ∨ p = ρ this 77 ∨ p = ρ this 78 ∨ p = ρ this 79 ∨ p = ρ this 76) σ σr) (x2 : Int32) (x3 : Int32) (x4 : Int32) (x5 : Int32) (σ : St) (hf : b_X12_layRows_56 N ρ this a1 rec25 rec56 x2 x3 x4 x5 σ = some (r, σr)) : Ag (fun p => p = ρ this 57 ∨ p = ρ this 58 ∨ p = ρ this 18 ∨ p = ρ this 26 ∨ p = ρ this 59 ∨ p = ρ this 60 ∨ p = ρ this 77 ∨ p = ρ this 78 ∨ p = ρ this 79 ∨ p = ρ this 76) σ σr := by
  unfold b_X12_layRows_56 at hf
  rcases ite_some hf with ⟨_, hf⟩ | ⟨_, hf⟩
  · skip
    exact m_X12_layRows_162 rec25 hrec25 N _ _ _ _ _ hf
  · skip
    obtain ⟨_, hf⟩ := gd_some hf
    obtain ⟨_, hf⟩ := gd_some hf
    obtain ⟨σ35, eσ35, hf⟩ := nmd_some hf
    refine ag_I eσ35 (Or.inr (Or.inr (Or.inr (Or.inr (Or.inr (Or.inr (Or.inr (Or.inr (Or.inr rfl))))))))) ?_
    obtain ⟨_, hf⟩ := gd_some hf
    obtain ⟨y37, ey37, hf⟩ := nmd_some hf
    obtain ⟨_, hf⟩ := gd_some hf
    rcases ite_some hf with ⟨_, hf⟩ | ⟨_, hf⟩
    · skip
      exact m_X12_layRows_116 rec25 hrec25 rec56 hrec56 _ _ _ _ _ _ _ hf
    · skip
      obtain ⟨_, hf⟩ := gd_some hf
      exact m_X12_layRows_116 rec25 hrec25 rec56 hrec56 _ _ _ _ _ _ _ hf
theorem m_X12_layRows_56 {N : Nat} {ρ : Nat → Nat → Nat} {this : Nat} {a1 : Int32} {r : Int32} {σr : St} (rec25 : Int32 → Int32 → St → Option (Int32 × St)) (hrec25 : ∀ (x2 : Int32) (x3 : Int32) (σ : St), rec25 x2 x3 σ = some (r, σr) → Ag (fun p => p = ρ this 57 ∨ p = ρ this 58 ∨ p = ρ this 18 ∨ p = ρ this 26 ∨ p = ρ this 59 ∨ p = ρ this 60 ∨ p = ρ this 77 ∨ p = ρ this 78 ∨ p = ρ this 79 ∨ p = ρ this 76) σ σr) : ∀ (n : Nat) (x2 : Int32) (x3 : Int32) (x4 : Int32) (x5 : Int32) (σ : St), f_X12_layRows_56 N ρ this a1 rec25 n x2 x3 x4 x5 σ = some (r, σr) → Ag (fun p => p = ρ this 57 ∨ p = ρ this 58 ∨ p = ρ this 18 ∨ p = ρ this 26 ∨ p = ρ this 59 ∨ p = ρ this 60 ∨ p = ρ this 77 ∨ p = ρ this 78 ∨ p = ρ this 79 ∨ p = ρ this 76) σ σr := by
  intro n
  induction n with
  | zero => intro x2 x3 x4 x5 σ hf; cases hf
  | succ n ih => intro x2 x3 x4 x5 σ hf; exact k_X12_layRows_56 rec25 hrec25 _ ih x2 x3 x4 x5 σ hf
theorem m_X12_layRows_291 {N : Nat} {ρ : Nat → Nat → Nat} {this : Nat} {a1 : Int32} {r : Int32} {σr : St} (x2 : Int32) (σ : St) (hf : f_X12_layRows_291 N ρ this a1 x2 σ = some (r, σr)) : Ag (fun p => p = ρ this 57 ∨ p = ρ this 58 ∨ p = ρ this 18 ∨ p = ρ this 26 ∨ p = ρ this 59 ∨ p = ρ this 60 ∨ p = ρ this 77 ∨ p = ρ this 78 ∨ p = ρ this 79 ∨ p = ρ this 76) σ σr := by
  unfold f_X12_layRows_291 at hf
  cases hf
  exact ag_refl
theorem k_X12_layRows_25 {N : Nat} {ρ : Nat → Nat → Nat} {this : Nat} {a1 : Int32} {r : Int32} {σr : St} (rec25 : Int32 → Int32 → St → Option (Int32 × St)) (hrec25 : ∀ (x2 : Int32) (x3 : Int32) (σ : St), rec25 x2 x3 σ = some (r, σr) → Ag (fun p => p = ρ this 57 ∨ p = ρ this 58 ∨ p = ρ this 18 ∨ p = ρ this 26 ∨ p = ρ this 59 ∨ p = ρ this 60 ∨ p = ρ this 77 ∨ p = ρ this 78 ∨ p = ρ this 79 ∨ p = ρ this 76) σ σr) (x2 : Int32) (x3 : Int32) (σ : St) (hf : b_X12_layRows_25 N ρ this a1 rec25 x2 x3 σ = some (r, σr)) : Ag (fun p => p = ρ this 57 ∨ p = ρ this 58 ∨ p = ρ this 18 ∨ p = ρ this 26 ∨ p = ρ this 59 ∨ p = ρ this 60 ∨ p = ρ this 77 ∨ p = ρ this 78 ∨ p = ρ this 79 ∨ p = ρ this 76) σ σr := by
  unfold b_X12_layRows_25 at hf
  obtain ⟨_, σ42, q1, hf⟩ := bnd_some hf
  refine ag_call (m_X12_power q1) (fun _ h => h.elim) ?_
  rcases ite_some hf with ⟨_, hf⟩ | ⟨_, hf⟩
  · skip
    exact m_X12_layRows_291 _ _ hf
  · skip
    rcases ite_some hf with ⟨_, hf⟩ | ⟨_, hf⟩
    · skip
      exact m_X12_layRows_291 _ _ hf
    · skip
      obtain ⟨_, σ47, q2, hf⟩ := bnd_some hf
      refine ag_call (m_X12_begin q2) (fun _ h => (Or.inl h)) ?_
      exact m_X12_layRows_56 rec25 hrec25 N _ _ _ _ _ hf
theorem m_X12_layRows_25 {N : Nat} {ρ : Nat → Nat → Nat} {this : Nat} {a1 : Int32} {r : Int32} {σr : St} : ∀ (n : Nat) (x2 : Int32) (x3 : Int32) (σ : St), f_X12_layRows_25 N ρ this a1 n x2 x3 σ = some (r, σr) → Ag (fun p => p = ρ this 57 ∨ p = ρ this 58 ∨ p = ρ this 18 ∨ p = ρ this 26 ∨ p = ρ this 59 ∨ p = ρ this 60 ∨ p = ρ this 77 ∨ p = ρ this 78 ∨ p = ρ this 79 ∨ p = ρ this 76) σ σr := by
  intro n
  induction n with
  | zero => intro x2 x3 σ hf; cases hf
  | succ n ih => intro x2 x3 σ hf; exact k_X12_layRows_25 _ ih x2 x3 σ hf
theorem k_X12_layRows_4 {N : Nat} {ρ : Nat → Nat → Nat} {this : Nat} {a1 : Int32} {r : Int32} {σr : St} (rec4 : Int32 → Int32 → St → Option (Int32 × St)) (hrec4 : ∀ (x2 : Int32) (x3 : Int32) (σ : St), rec4 x2 x3 σ = some (r, σr) → Ag (fun p => p = ρ this 57 ∨ p = ρ this 58 ∨ p = ρ this 18 ∨ p = ρ this 26 ∨ p = ρ this 59 ∨ p = ρ this 60 ∨ p = ρ this 77 ∨ p = ρ this 78 ∨ p = ρ this 79 ∨ p = ρ this 76) σ σr) (x2 : Int32) (x3 : Int32) (σ : St) (hf : b_X12_layRows_4 N ρ this a1 rec4 x2 x3 σ = some (r, σr)) : Ag (fun p => p = ρ this 57 ∨ p = ρ this 58 ∨ p = ρ this 18 ∨ p = ρ this 26 ∨ p = ρ this 59 ∨ p = ρ this 60 ∨ p = ρ this 77 ∨ p = ρ this 78 ∨ p = ρ this 79 ∨ p = ρ this 76) σ σr := by
  unfold b_X12_layRows_4 at hf
  rcases ite_some hf with ⟨_, hf⟩ | ⟨_, hf⟩
  · skip
    exact m_X12_layRows_25 N _ _ _ hf
  · skip
    obtain ⟨_, hf⟩ := gd_some hf
    obtain ⟨σ51, eσ51, hf⟩ := nmd_some hf
    refine ag_I eσ51 (Or.inr (Or.inr (Or.inr (Or.inr (Or.inr (Or.inr (Or.inr (Or.inr (Or.inl rfl))))))))) ?_
    exact hrec4 _ _ _ hf
theorem m_X12_layRows_4 {N : Nat} {ρ : Nat → Nat → Nat} {this : Nat} {a1 : Int32} {r : Int32} {σr : St} : ∀ (n : Nat) (x2 : Int32) (x3 : Int32) (σ : St), f_X12_layRows_4 N ρ this a1 n x2 x3 σ = some (r, σr) → Ag (fun p => p = ρ this 57 ∨ p = ρ this 58 ∨ p = ρ this 18 ∨ p = ρ this 26 ∨ p = ρ this 59 ∨ p = ρ this 60 ∨ p = ρ this 77 ∨ p = ρ this 78 ∨ p = ρ this 79 ∨ p = ρ this 76) σ σr := by
  intro n
  induction n with
  | zero => intro x2 x3 σ hf; cases hf
  | succ n ih => intro x2 x3 σ hf; exact k_X12_layRows_4 _ ih x2 x3 σ hf
theorem m_X12_layRows {N : Nat} {ρ : Nat → Nat → Nat} {this : Nat} {a1 : Int32} {r : Int32} {σr : St} {σ : St} (hf : f_X12_layRows N ρ this a1 σ = some (r, σr)) : Ag (fun p => p = ρ this 57 ∨ p = ρ this 58 ∨ p = ρ this 18 ∨ p = ρ this 26 ∨ p = ρ this 59 ∨ p = ρ this 60 ∨ p = ρ this 77 ∨ p = ρ this 78 ∨ p = ρ this 79 ∨ p = ρ this 76) σ σr := by
  unfold f_X12_layRows at hf
  exact m_X12_layRows_4 N _ _ _ hf
theorem m_X12_rows {N : Nat} {ρ : Nat → Nat → Nat} {this : Nat} {a1 : Int32} {r : Int32} {σr : St} {σ : St} (hf : f_X12_rows N ρ this a1 σ = some (r, σr)) : Ag (fun p => p = ρ this 57 ∨ p = ρ this 58 ∨ p = ρ this 18 ∨ p = ρ this 26 ∨ p = ρ this 59 ∨ p = ρ this 60 ∨ p = ρ this 77 ∨ p = ρ this 78 ∨ p = ρ this 79 ∨ p = ρ this 76) σ σr := by
  unfold f_X12_rows at hf
  obtain ⟨_, σ2, q1, hf⟩ := bnd_some hf
  refine ag_call (m_X12_layRows q1) (fun _ h => by
        rcases h with h | h | h | h | h | h | h | h | h | h
        · exact (Or.inl h)
        · exact (Or.inr (Or.inl h))
        · exact (Or.inr (Or.inr (Or.inl h)))
        · exact (Or.inr (Or.inr (Or.inr (Or.inl h))))
        · exact (Or.inr (Or.inr (Or.inr (Or.inr (Or.inl h)))))
        · exact (Or.inr (Or.inr (Or.inr (Or.inr (Or.inr (Or.inl h))))))
        · exact (Or.inr (Or.inr (Or.inr (Or.inr (Or.inr (Or.inr (Or.inl h)))))))
        · exact (Or.inr (Or.inr (Or.inr (Or.inr (Or.inr (Or.inr (Or.inr (Or.inl h))))))))
        · exact (Or.inr (Or.inr (Or.inr (Or.inr (Or.inr (Or.inr (Or.inr (Or.inr (Or.inl h)))))))))
        · exact (Or.inr (Or.inr (Or.inr (Or.inr (Or.inr (Or.inr (Or.inr (Or.inr (Or.inr h)))))))))) ?_
  cases hf
  exact ag_refl
theorem m_X12_sure_76 {N : Nat} {ρ : Nat → Nat → Nat} {this : Nat} {a1 : Int32} {a2 : Int32} {r : Int32} {σr : St} (rec32 : Int32 → Int32 → Int32 → St → Option (Int32 × St)) (hrec32 : ∀ (x3 : Int32) (x4 : Int32) (x5 : Int32) (σ : St), rec32 x3 x4 x5 σ = some (r, σr) → Ag (fun p => p = ρ this 57 ∨ p = ρ this 58 ∨ p = ρ this 18 ∨ p = ρ this 26 ∨ p = ρ this 59 ∨ p = ρ this 60 ∨ p = ρ this 77 ∨ p = ρ this 78 ∨ p = ρ this 79 ∨ p = ρ this 76) σ σr) (x3 : Int32) (x4 : Int32) (x5 : Int32) (σ : St) (hf : f_X12_sure_76 N ρ this a1 a2 rec32 x3 x4 x5 σ = some (r, σr)) : Ag (fun p => p = ρ this 57 ∨ p = ρ this 58 ∨ p = ρ this 18 ∨ p = ρ this 26 ∨ p = ρ this 59 ∨ p = ρ this 60 ∨ p = ρ this 77 ∨ p = ρ this 78 ∨ p = ρ this 79 ∨ p = ρ this 76) σ σr := by
  unfold f_X12_sure_76 at hf
  exact hrec32 _ _ _ _ hf
theorem m_X12_sure_74 {N : Nat} {ρ : Nat → Nat → Nat} {this : Nat} {a1 : Int32} {a2 : Int32} {r : Int32} {σr : St} (rec32 : Int32 → Int32 → Int32 → St → Option (Int32 × St)) (hrec32 : ∀ (x3 : Int32) (x4 : Int32) (x5 : Int32) (σ : St), rec32 x3 x4 x5 σ = some (r, σr) → Ag (fun p => p = ρ this 57 ∨ p = ρ this 58 ∨ p = ρ this 18 ∨ p = ρ this 26 ∨ p = ρ this 59 ∨ p = ρ this 60 ∨ p = ρ this 77 ∨ p = ρ this 78 ∨ p = ρ this 79 ∨ p = ρ this 76) σ σr) (x3 : Int32) (x5 : Int32) (s0 : Int32) (σ : St) (hf : f_X12_sure_74 N ρ this a1 a2 rec32 x3 x5 s0 σ = some (r, σr)) : Ag (fun p => p = ρ this 57 ∨ p = ρ this 58 ∨ p = ρ this 18 ∨ p = ρ this 26 ∨ p = ρ this 59 ∨ p = ρ this 60 ∨ p = ρ this 77 ∨ p = ρ this 78 ∨ p = ρ this 79 ∨ p = ρ this 76) σ σr := by
  unfold f_X12_sure_74 at hf
  exact m_X12_sure_76 rec32 hrec32 _ _ _ _ hf
theorem k_X12_sure_32 {N : Nat} {ρ : Nat → Nat → Nat} {this : Nat} {a1 : Int32} {a2 : Int32} {r : Int32} {σr : St} (rec32 : Int32 → Int32 → Int32 → St → Option (Int32 × St)) (hrec32 : ∀ (x3 : Int32) (x4 : Int32) (x5 : Int32) (σ : St), rec32 x3 x4 x5 σ = some (r, σr) → Ag (fun p => p = ρ this 57 ∨ p = ρ this 58 ∨ p = ρ this 18 ∨ p = ρ this 26 ∨ p = ρ this 59 ∨ p = ρ this 60 ∨ p = ρ this 77 ∨ p = ρ this 78 ∨ p = ρ this 79 ∨ p = ρ this 76) σ σr) (x3 : Int32) (x4 : Int32) (x5 : Int32) (σ : St) (hf : b_X12_sure_32 N ρ this a1 a2 rec32 x3 x4 x5 σ = some (r, σr)) : Ag (fun p => p = ρ this 57 ∨ p = ρ this 58 ∨ p = ρ this 18 ∨ p = ρ this 26 ∨ p = ρ this 59 ∨ p = ρ this 60 ∨ p = ρ this 77 ∨ p = ρ this 78 ∨ p = ρ this 79 ∨ p = ρ this 76) σ σr := by
  unfold b_X12_sure_32 at hf
  rcases ite_some hf with ⟨_, hf⟩ | ⟨_, hf⟩
  · skip
    cases hf
    exact ag_refl
  · skip
    obtain ⟨_, hf⟩ := gd_some hf
    rcases ite_some hf with ⟨_, hf⟩ | ⟨_, hf⟩
    · skip
      rcases ite_some hf with ⟨_, hf⟩ | ⟨_, hf⟩
      · skip
        exact m_X12_sure_74 rec32 hrec32 _ _ _ _ hf
      · skip
        exact m_X12_sure_74 rec32 hrec32 _ _ _ _ hf
    · skip
      exact m_X12_sure_76 rec32 hrec32 _ _ _ _ hf
theorem m_X12_sure_32 {N : Nat} {ρ : Nat → Nat → Nat} {this : Nat} {a1 : Int32} {a2 : Int32} {r : Int32} {σr : St} : ∀ (n : Nat) (x3 : Int32) (x4 : Int32) (x5 : Int32) (σ : St), f_X12_sure_32 N ρ this a1 a2 n x3 x4 x5 σ = some (r, σr) → Ag (fun p => p = ρ this 57 ∨ p = ρ this 58 ∨ p = ρ this 18 ∨ p = ρ this 26 ∨ p = ρ this 59 ∨ p = ρ this 60 ∨ p = ρ this 77 ∨ p = ρ this 78 ∨ p = ρ this 79 ∨ p = ρ this 76) σ σr := by
  intro n
  induction n with
  | zero => intro x3 x4 x5 σ hf; cases hf
  | succ n ih => intro x3 x4 x5 σ hf; exact k_X12_sure_32 _ ih x3 x4 x5 σ hf
theorem m_X12_sure {N : Nat} {ρ : Nat → Nat → Nat} {this : Nat} {a1 : Int32} {a2 : Int32} {r : Int32} {σr : St} {σ : St} (hf : f_X12_sure N ρ this a1 a2 σ = some (r, σr)) : Ag (fun p => p = ρ this 57 ∨ p = ρ this 58 ∨ p = ρ this 18 ∨ p = ρ this 26 ∨ p = ρ this 59 ∨ p = ρ this 60 ∨ p = ρ this 77 ∨ p = ρ this 78 ∨ p = ρ this 79 ∨ p = ρ this 76) σ σr := by
  unfold f_X12_sure at hf
  obtain ⟨_, σ6, q1, hf⟩ := bnd_some hf
  refine ag_call (m_X12_isIn q1) (fun _ h => h.elim) ?_
  rcases ite_some hf with ⟨_, hf⟩ | ⟨_, hf⟩
  · skip
    cases hf
    exact ag_refl
  · skip
    obtain ⟨_, σ10, q2, hf⟩ := bnd_some hf
    refine ag_call (m_X12_layRows q2) (fun _ h => by
          rcases h with h | h | h | h | h | h | h | h | h | h
          · exact (Or.inl h)
          · exact (Or.inr (Or.inl h))
          · exact (Or.inr (Or.inr (Or.inl h)))
          · exact (Or.inr (Or.inr (Or.inr (Or.inl h))))
          · exact (Or.inr (Or.inr (Or.inr (Or.inr (Or.inl h)))))
          · exact (Or.inr (Or.inr (Or.inr (Or.inr (Or.inr (Or.inl h))))))
          · exact (Or.inr (Or.inr (Or.inr (Or.inr (Or.inr (Or.inr (Or.inl h)))))))
          · exact (Or.inr (Or.inr (Or.inr (Or.inr (Or.inr (Or.inr (Or.inr (Or.inl h))))))))
          · exact (Or.inr (Or.inr (Or.inr (Or.inr (Or.inr (Or.inr (Or.inr (Or.inr (Or.inl h)))))))))
          · exact (Or.inr (Or.inr (Or.inr (Or.inr (Or.inr (Or.inr (Or.inr (Or.inr (Or.inr h)))))))))) ?_
    rcases ite_some hf with ⟨_, hf⟩ | ⟨_, hf⟩
    · skip
      cases hf
      exact ag_refl
    · skip
      exact m_X12_sure_32 N _ _ _ _ hf
theorem m_X12_leftBy_42 {N : Nat} {ρ : Nat → Nat → Nat} {this : Nat} {a1 : Int32} {r : Int32} {σr : St} (rec4 : Int32 → Int32 → St → Option (Int32 × St)) (hrec4 : ∀ (x2 : Int32) (x3 : Int32) (σ : St), rec4 x2 x3 σ = some (r, σr) → Ag (fun p => False) σ σr) (x3 : Int32) (s0 : Int32) (σ : St) (hf : f_X12_leftBy_42 N ρ this a1 rec4 x3 s0 σ = some (r, σr)) : Ag (fun p => False) σ σr := by
  unfold f_X12_leftBy_42 at hf
  exact hrec4 _ _ _ hf
theorem k_X12_leftBy_4 {N : Nat} {ρ : Nat → Nat → Nat} {this : Nat} {a1 : Int32} {r : Int32} {σr : St} (rec4 : Int32 → Int32 → St → Option (Int32 × St)) (hrec4 : ∀ (x2 : Int32) (x3 : Int32) (σ : St), rec4 x2 x3 σ = some (r, σr) → Ag (fun p => False) σ σr) (x2 : Int32) (x3 : Int32) (σ : St) (hf : b_X12_leftBy_4 N ρ this a1 rec4 x2 x3 σ = some (r, σr)) : Ag (fun p => False) σ σr := by
  unfold b_X12_leftBy_4 at hf
  rcases ite_some hf with ⟨_, hf⟩ | ⟨_, hf⟩
  · skip
    cases hf
    exact ag_refl
  · skip
    obtain ⟨_, hf⟩ := gd_some hf
    rcases ite_some hf with ⟨_, hf⟩ | ⟨_, hf⟩
    · skip
      exact m_X12_leftBy_42 rec4 hrec4 _ _ _ hf
    · skip
      obtain ⟨_, hf⟩ := gd_some hf
      exact m_X12_leftBy_42 rec4 hrec4 _ _ _ hf
theorem m_X12_leftBy_4 {N : Nat} {ρ : Nat → Nat → Nat} {this : Nat} {a1 : Int32} {r : Int32} {σr : St} : ∀ (n : Nat) (x2 : Int32) (x3 : Int32) (σ : St), f_X12_leftBy_4 N ρ this a1 n x2 x3 σ = some (r, σr) → Ag (fun p => False) σ σr := by
  intro n
  induction n with
  | zero => intro x2 x3 σ hf; cases hf
  | succ n ih => intro x2 x3 σ hf; exact k_X12_leftBy_4 _ ih x2 x3 σ hf
theorem m_X12_leftBy {N : Nat} {ρ : Nat → Nat → Nat} {this : Nat} {a1 : Int32} {r : Int32} {σr : St} {σ : St} (hf : f_X12_leftBy N ρ this a1 σ = some (r, σr)) : Ag (fun p => False) σ σr := by
  unfold f_X12_leftBy at hf
  exact m_X12_leftBy_4 N _ _ _ hf
theorem m_X12_ask_17 {N : Nat} {ρ : Nat → Nat → Nat} {this : Nat} {a1 : Int32} {a2 : Int32} {r : Int32} {σr : St} (σ : St) (hf : f_X12_ask_17 N ρ this a1 a2 σ = some (r, σr)) : Ag (fun p => p = ρ this 57 ∨ p = ρ this 58 ∨ p = ρ this 18 ∨ p = ρ this 26 ∨ p = ρ this 59 ∨ p = ρ this 60 ∨ p = ρ this 77 ∨ p = ρ this 78 ∨ p = ρ this 79 ∨ p = ρ this 76) σ σr := by
  unfold f_X12_ask_17 at hf
  cases hf
  exact ag_refl
theorem m_X12_ask_50 {N : Nat} {ρ : Nat → Nat → Nat} {this : Nat} {a1 : Int32} {a2 : Int32} {r : Int32} {σr : St} (rec24 : Int32 → Int32 → St → Option (Int32 × St)) (hrec24 : ∀ (x3 : Int32) (x4 : Int32) (σ : St), rec24 x3 x4 σ = some (r, σr) → Ag (fun p => p = ρ this 57 ∨ p = ρ this 58 ∨ p = ρ this 18 ∨ p = ρ this 26 ∨ p = ρ this 59 ∨ p = ρ this 60 ∨ p = ρ this 77 ∨ p = ρ this 78 ∨ p = ρ this 79 ∨ p = ρ this 76) σ σr) (x4 : Int32) (s0 : Int32) (σ : St) (hf : f_X12_ask_50 N ρ this a1 a2 rec24 x4 s0 σ = some (r, σr)) : Ag (fun p => p = ρ this 57 ∨ p = ρ this 58 ∨ p = ρ this 18 ∨ p = ρ this 26 ∨ p = ρ this 59 ∨ p = ρ this 60 ∨ p = ρ this 77 ∨ p = ρ this 78 ∨ p = ρ this 79 ∨ p = ρ this 76) σ σr := by
  unfold f_X12_ask_50 at hf
  exact hrec24 _ _ _ hf
theorem m_X12_ask_72 {N : Nat} {ρ : Nat → Nat → Nat} {this : Nat} {a1 : Int32} {a2 : Int32} {r : Int32} {σr : St} (s0 : Int32) (σ : St) (hf : f_X12_ask_72 N ρ this a1 a2 s0 σ = some (r, σr)) : Ag (fun p => p = ρ this 57 ∨ p = ρ this 58 ∨ p = ρ this 18 ∨ p = ρ this 26 ∨ p = ρ this 59 ∨ p = ρ this 60 ∨ p = ρ this 77 ∨ p = ρ this 78 ∨ p = ρ this 79 ∨ p = ρ this 76) σ σr := by
  unfold f_X12_ask_72 at hf
  cases hf
  exact ag_refl
theorem k_X12_ask_24 {N : Nat} {ρ : Nat → Nat → Nat} {this : Nat} {a1 : Int32} {a2 : Int32} {r : Int32} {σr : St} (rec24 : Int32 → Int32 → St → Option (Int32 × St)) (hrec24 : ∀ (x3 : Int32) (x4 : Int32) (σ : St), rec24 x3 x4 σ = some (r, σr) → Ag (fun p => p = ρ this 57 ∨ p = ρ this 58 ∨ p = ρ this 18 ∨ p = ρ this 26 ∨ p = ρ this 59 ∨ p = ρ this 60 ∨ p = ρ this 77 ∨ p = ρ this 78 ∨ p = ρ this 79 ∨ p = ρ this 76) σ σr) (x3 : Int32) (x4 : Int32) (σ : St) (hf : b_X12_ask_24 N ρ this a1 a2 rec24 x3 x4 σ = some (r, σr)) : Ag (fun p => p = ρ this 57 ∨ p = ρ this 58 ∨ p = ρ this 18 ∨ p = ρ this 26 ∨ p = ρ this 59 ∨ p = ρ this 60 ∨ p = ρ this 77 ∨ p = ρ this 78 ∨ p = ρ this 79 ∨ p = ρ this 76) σ σr := by
  unfold b_X12_ask_24 at hf
  rcases ite_some hf with ⟨_, hf⟩ | ⟨_, hf⟩
  · skip
    rcases ite_some hf with ⟨_, hf⟩ | ⟨_, hf⟩
    · skip
      exact m_X12_ask_72 _ _ hf
    · skip
      obtain ⟨_, σ4, q1, hf⟩ := bnd_some hf
      refine ag_call (m_X12_leftBy q1) (fun _ h => h.elim) ?_
      exact m_X12_ask_72 _ _ hf
  · skip
    obtain ⟨_, σ7, q2, hf⟩ := bnd_some hf
    refine ag_call (m_X12_leftBy q2) (fun _ h => h.elim) ?_
    obtain ⟨_, σ10, q3, hf⟩ := bnd_some hf
    refine ag_call (m_X12_leftBy q3) (fun _ h => h.elim) ?_
    rcases ite_some hf with ⟨_, hf⟩ | ⟨_, hf⟩
    · skip
      exact m_X12_ask_50 rec24 hrec24 _ _ _ hf
    · skip
      exact m_X12_ask_50 rec24 hrec24 _ _ _ hf
theorem m_X12_ask_24 {N : Nat} {ρ : Nat → Nat → Nat} {this : Nat} {a1 : Int32} {a2 : Int32} {r : Int32} {σr : St} : ∀ (n : Nat) (x3 : Int32) (x4 : Int32) (σ : St), f_X12_ask_24 N ρ this a1 a2 n x3 x4 σ = some (r, σr) → Ag (fun p => p = ρ this 57 ∨ p = ρ this 58 ∨ p = ρ this 18 ∨ p = ρ this 26 ∨ p = ρ this 59 ∨ p = ρ this 60 ∨ p = ρ this 77 ∨ p = ρ this 78 ∨ p = ρ this 79 ∨ p = ρ this 76) σ σr := by
  intro n
  induction n with
  | zero => intro x3 x4 σ hf; cases hf
  | succ n ih => intro x3 x4 σ hf; exact k_X12_ask_24 _ ih x3 x4 σ hf
theorem m_X12_ask {N : Nat} {ρ : Nat → Nat → Nat} {this : Nat} {a1 : Int32} {a2 : Int32} {r : Int32} {σr : St} {σ : St} (hf : f_X12_ask N ρ this a1 a2 σ = some (r, σr)) : Ag (fun p => p = ρ this 57 ∨ p = ρ this 58 ∨ p = ρ this 18 ∨ p = ρ this 26 ∨ p = ρ this 59 ∨ p = ρ this 60 ∨ p = ρ this 77 ∨ p = ρ this 78 ∨ p = ρ this 79 ∨ p = ρ this 76) σ σr := by
  unfold f_X12_ask at hf
  obtain ⟨_, σ14, q1, hf⟩ := bnd_some hf
  refine ag_call (m_X12_isIn q1) (fun _ h => h.elim) ?_
  rcases ite_some hf with ⟨_, hf⟩ | ⟨_, hf⟩
  · skip
    exact m_X12_ask_17 _ hf
  · skip
    obtain ⟨_, σ18, q2, hf⟩ := bnd_some hf
    refine ag_call (m_X12_layRows q2) (fun _ h => by
          rcases h with h | h | h | h | h | h | h | h | h | h
          · exact (Or.inl h)
          · exact (Or.inr (Or.inl h))
          · exact (Or.inr (Or.inr (Or.inl h)))
          · exact (Or.inr (Or.inr (Or.inr (Or.inl h))))
          · exact (Or.inr (Or.inr (Or.inr (Or.inr (Or.inl h)))))
          · exact (Or.inr (Or.inr (Or.inr (Or.inr (Or.inr (Or.inl h))))))
          · exact (Or.inr (Or.inr (Or.inr (Or.inr (Or.inr (Or.inr (Or.inl h)))))))
          · exact (Or.inr (Or.inr (Or.inr (Or.inr (Or.inr (Or.inr (Or.inr (Or.inl h))))))))
          · exact (Or.inr (Or.inr (Or.inr (Or.inr (Or.inr (Or.inr (Or.inr (Or.inr (Or.inl h)))))))))
          · exact (Or.inr (Or.inr (Or.inr (Or.inr (Or.inr (Or.inr (Or.inr (Or.inr (Or.inr h)))))))))) ?_
    rcases ite_some hf with ⟨_, hf⟩ | ⟨_, hf⟩
    · skip
      exact m_X12_ask_17 _ hf
    · skip
      exact m_X12_ask_24 N _ _ _ hf
theorem m_X12_isBox_14 {N : Nat} {ρ : Nat → Nat → Nat} {a1 : Int32} {r : Int32} {σr : St} (s0 : Int32) (σ : St) (hf : f_X12_isBox_14 N ρ a1 s0 σ = some (r, σr)) : Ag (fun p => False) σ σr := by
  unfold f_X12_isBox_14 at hf
  obtain ⟨_, hf⟩ := gd_some hf
  cases hf
  exact ag_refl
theorem m_X12_isBox_13 {N : Nat} {ρ : Nat → Nat → Nat} {a1 : Int32} {r : Int32} {σr : St} (σ : St) (hf : f_X12_isBox_13 N ρ a1 σ = some (r, σr)) : Ag (fun p => False) σ σr := by
  unfold f_X12_isBox_13 at hf
  exact m_X12_isBox_14 _ _ hf
theorem m_X12_isBox {N : Nat} {ρ : Nat → Nat → Nat} {a1 : Int32} {r : Int32} {σr : St} {σ : St} (hf : f_X12_isBox N ρ a1 σ = some (r, σr)) : Ag (fun p => False) σ σr := by
  unfold f_X12_isBox at hf
  rcases ite_some hf with ⟨_, hf⟩ | ⟨_, hf⟩
  · skip
    exact m_X12_isBox_13 _ hf
  · skip
    rcases ite_some hf with ⟨_, hf⟩ | ⟨_, hf⟩
    · skip
      exact m_X12_isBox_13 _ hf
    · skip
      exact m_X12_isBox_14 _ _ hf
theorem k_X12_image_18 {N : Nat} {ρ : Nat → Nat → Nat} {this : Nat} {a1 : Int32} {r : Int32} {σr : St} (rec18 : Int32 → St → Option (Int32 × St)) (hrec18 : ∀ (x2 : Int32) (σ : St), rec18 x2 σ = some (r, σr) → Ag (fun p => p = ρ this 81 ∨ p = ρ this 80) σ σr) (x2 : Int32) (σ : St) (hf : b_X12_image_18 N ρ this a1 rec18 x2 σ = some (r, σr)) : Ag (fun p => p = ρ this 81 ∨ p = ρ this 80) σ σr := by
  unfold b_X12_image_18 at hf
  rcases ite_some hf with ⟨_, hf⟩ | ⟨_, hf⟩
  · skip
    obtain ⟨_, hf⟩ := gd_some hf
    cases hf
    exact ag_refl
  · skip
    obtain ⟨_, hf⟩ := gd_some hf
    obtain ⟨_, hf⟩ := gd_some hf
    obtain ⟨σ5, eσ5, hf⟩ := nmd_some hf
    refine ag_I eσ5 (Or.inl rfl) ?_
    exact hrec18 _ _ hf
theorem m_X12_image_18 {N : Nat} {ρ : Nat → Nat → Nat} {this : Nat} {a1 : Int32} {r : Int32} {σr : St} : ∀ (n : Nat) (x2 : Int32) (σ : St), f_X12_image_18 N ρ this a1 n x2 σ = some (r, σr) → Ag (fun p => p = ρ this 81 ∨ p = ρ this 80) σ σr := by
  intro n
  induction n with
  | zero => intro x2 σ hf; cases hf
  | succ n ih => intro x2 σ hf; exact k_X12_image_18 _ ih x2 σ hf
theorem m_X12_image {N : Nat} {ρ : Nat → Nat → Nat} {this : Nat} {a1 : Int32} {r : Int32} {σr : St} {σ : St} (hf : f_X12_image N ρ this a1 σ = some (r, σr)) : Ag (fun p => p = ρ this 81 ∨ p = ρ this 80) σ σr := by
  unfold f_X12_image at hf
  obtain ⟨_, σ7, q1, hf⟩ := bnd_some hf
  refine ag_call (m_X12_isBox q1) (fun _ h => h.elim) ?_
  rcases ite_some hf with ⟨_, hf⟩ | ⟨_, hf⟩
  · skip
    cases hf
    exact ag_refl
  · skip
    obtain ⟨_, hf⟩ := gd_some hf
    obtain ⟨σ11, eσ11, hf⟩ := nmd_some hf
    refine ag_I eσ11 (Or.inr rfl) ?_
    exact m_X12_image_18 N _ _ hf
theorem m_X12_back_16 {N : Nat} {ρ : Nat → Nat → Nat} {this : Nat} {a1 : Int32} {r : Int32} {σr : St} (σ : St) (hf : f_X12_back_16 N ρ this a1 σ = some (r, σr)) : Ag (fun p => p = this ∨ p = ρ this 56) σ σr := by
  unfold f_X12_back_16 at hf
  cases hf
  exact ag_refl
theorem k_X12_back_20 {N : Nat} {ρ : Nat → Nat → Nat} {this : Nat} {a1 : Int32} {r : Int32} {σr : St} (rec20 : Int32 → St → Option (Int32 × St)) (hrec20 : ∀ (x2 : Int32) (σ : St), rec20 x2 σ = some (r, σr) → Ag (fun p => p = this ∨ p = ρ this 56) σ σr) (x2 : Int32) (σ : St) (hf : b_X12_back_20 N ρ this a1 rec20 x2 σ = some (r, σr)) : Ag (fun p => p = this ∨ p = ρ this 56) σ σr := by
  unfold b_X12_back_20 at hf
  rcases ite_some hf with ⟨_, hf⟩ | ⟨_, hf⟩
  · skip
    obtain ⟨σ2, eσ2, hf⟩ := nmd_some hf
    refine ag_I eσ2 (Or.inl rfl) ?_
    obtain ⟨σ3, eσ3, hf⟩ := nmd_some hf
    refine ag_I eσ3 (Or.inl rfl) ?_
    obtain ⟨_, hf⟩ := gd_some hf
    cases hf
    exact ag_refl
  · skip
    obtain ⟨_, hf⟩ := gd_some hf
    obtain ⟨_, hf⟩ := gd_some hf
    obtain ⟨σ7, eσ7, hf⟩ := nmd_some hf
    refine ag_I eσ7 (Or.inr rfl) ?_
    exact hrec20 _ _ hf
theorem m_X12_back_20 {N : Nat} {ρ : Nat → Nat → Nat} {this : Nat} {a1 : Int32} {r : Int32} {σr : St} : ∀ (n : Nat) (x2 : Int32) (σ : St), f_X12_back_20 N ρ this a1 n x2 σ = some (r, σr) → Ag (fun p => p = this ∨ p = ρ this 56) σ σr := by
  intro n
  induction n with
  | zero => intro x2 σ hf; cases hf
  | succ n ih => intro x2 σ hf; exact k_X12_back_20 _ ih x2 σ hf
theorem m_X12_back {N : Nat} {ρ : Nat → Nat → Nat} {this : Nat} {a1 : Int32} {r : Int32} {σr : St} {σ : St} (hf : f_X12_back N ρ this a1 σ = some (r, σr)) : Ag (fun p => p = this ∨ p = ρ this 56) σ σr := by
  unfold f_X12_back at hf
  obtain ⟨_, σ9, q1, hf⟩ := bnd_some hf
  refine ag_call (m_X12_isBox q1) (fun _ h => h.elim) ?_
  rcases ite_some hf with ⟨_, hf⟩ | ⟨_, hf⟩
  · skip
    exact m_X12_back_16 _ hf
  · skip
    obtain ⟨_, hf⟩ := gd_some hf
    rcases ite_some hf with ⟨_, hf⟩ | ⟨_, hf⟩
    · skip
      exact m_X12_back_16 _ hf
    · skip
      exact m_X12_back_20 N _ _ hf
theorem m_X12_about {N : Nat} {ρ : Nat → Nat → Nat} {this : Nat} {a1 : Int32} {r : Int32} {σr : St} {σ : St} (hf : f_X12_about N ρ this a1 σ = some (r, σr)) : Ag (fun p => False) σ σr := by
  unfold f_X12_about at hf
  rcases ite_some hf with ⟨_, hf⟩ | ⟨_, hf⟩
  · skip
    cases hf
    exact ag_refl
  · skip
    rcases ite_some hf with ⟨_, hf⟩ | ⟨_, hf⟩
    · skip
      cases hf
      exact ag_refl
    · skip
      rcases ite_some hf with ⟨_, hf⟩ | ⟨_, hf⟩
      · skip
        cases hf
        exact ag_refl
      · skip
        rcases ite_some hf with ⟨_, hf⟩ | ⟨_, hf⟩
        · skip
          cases hf
          exact ag_refl
        · skip
          rcases ite_some hf with ⟨_, hf⟩ | ⟨_, hf⟩
          · skip
            obtain ⟨_, hf⟩ := gd_some hf
            cases hf
            exact ag_refl
          · skip
            rcases ite_some hf with ⟨_, hf⟩ | ⟨_, hf⟩
            · skip
              obtain ⟨_, hf⟩ := gd_some hf
              cases hf
              exact ag_refl
            · skip
              rcases ite_some hf with ⟨_, hf⟩ | ⟨_, hf⟩
              · skip
                cases hf
                exact ag_refl
              · skip
                rcases ite_some hf with ⟨_, hf⟩ | ⟨_, hf⟩
                · skip
                  cases hf
                  exact ag_refl
                · skip
                  rcases ite_some hf with ⟨_, hf⟩ | ⟨_, hf⟩
                  · skip
                    cases hf
                    exact ag_refl
                  · skip
                    rcases ite_some hf with ⟨_, hf⟩ | ⟨_, hf⟩
                    · skip
                      cases hf
                      exact ag_refl
                    · skip
                      rcases ite_some hf with ⟨_, hf⟩ | ⟨_, hf⟩
                      · skip
                        cases hf
                        exact ag_refl
                      · skip
                        rcases ite_some hf with ⟨_, hf⟩ | ⟨_, hf⟩
                        · skip
                          cases hf
                          exact ag_refl
                        · skip
                          rcases ite_some hf with ⟨_, hf⟩ | ⟨_, hf⟩
                          · skip
                            cases hf
                            exact ag_refl
                          · skip
                            cases hf
                            exact ag_refl
