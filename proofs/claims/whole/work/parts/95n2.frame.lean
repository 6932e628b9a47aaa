/-! THE MODEL's FORMULA writes no flag behind its first rows -/
theorem n_X12_formula_174 {N : Nat} {ρ : Nat → Nat → Nat} {this : Nat} {a1 : Int32} {r : Int32} {σr : St} (rec50 : Int32 → St → Option (Int32 × St)) (hrec50 : ∀ (x2 : Int32) (σ : St), rec50 x2 σ = some (r, σr) → Ag (fun p => p = this ∨ p = ρ this 11 ∨ p = ρ this 12 ∨ p = ρ this 13 ∨ p = ρ this 17 ∨ False) σ σr) (x2 : Int32) (σ : St) (hf : f_X12_formula_174 N ρ this a1 rec50 x2 σ = some (r, σr)) : Ag (fun p => p = this ∨ p = ρ this 11 ∨ p = ρ this 12 ∨ p = ρ this 13 ∨ p = ρ this 17 ∨ False) σ σr := by
  unfold f_X12_formula_174 at hf
  exact hrec50 _ _ hf
theorem n_X12_formula_133 {N : Nat} {ρ : Nat → Nat → Nat} {this : Nat} {a1 : Int32} {r : Int32} {σr : St} (rec50 : Int32 → St → Option (Int32 × St)) (hrec50 : ∀ (x2 : Int32) (σ : St), rec50 x2 σ = some (r, σr) → Ag (fun p => p = this ∨ p = ρ this 11 ∨ p = ρ this 12 ∨ p = ρ this 13 ∨ p = ρ this 17 ∨ False) σ σr) (x2 : Int32) (x3 : Int32) (σ : St) (hf : f_X12_formula_133 N ρ this a1 rec50 x2 x3 σ = some (r, σr)) : Ag (fun p => p = this ∨ p = ρ this 11 ∨ p = ρ this 12 ∨ p = ρ this 13 ∨ p = ρ this 17 ∨ False) σ σr := by
  unfold f_X12_formula_133 at hf
  obtain ⟨_, σ2, q1, hf⟩ := bnd_some hf
  refine ag_call (m_X12_tight q1) (fun _ h => h.elim) ?_
  obtain ⟨_, σ5, q2, hf⟩ := bnd_some hf
  refine ag_call (m_X12_close q2) (fun _ h => by
        rcases h with h | h | h | h
        · exact (Or.inl h)
        · exact (Or.inr (Or.inl h))
        · exact (Or.inr (Or.inr (Or.inl h)))
        · exact (Or.inr (Or.inr (Or.inr (Or.inl h))))) ?_
  obtain ⟨_, hf⟩ := gd_some hf
  obtain ⟨σ8, eσ8, hf⟩ := nmd_some hf
  refine ag_I eσ8 (Or.inr (Or.inr (Or.inr (Or.inr (Or.inl rfl))))) ?_
  obtain ⟨σ9, eσ9, hf⟩ := nmd_some hf
  refine ag_I eσ9 (Or.inl rfl) ?_
  obtain ⟨_, σ11, q3, hf⟩ := bnd_some hf
  refine ag_call (m_X12_token q3) (fun _ h => (Or.inl h)) ?_
  obtain ⟨_, σ14, q4, hf⟩ := bnd_some hf
  refine ag_call (m_X12_unit q4) (fun _ h => by
        rcases h with h | h | h | h | h
        · exact (Or.inr (Or.inr (Or.inr (Or.inr (Or.inl h)))))
        · exact (Or.inl h)
        · exact (Or.inr (Or.inl h))
        · exact (Or.inr (Or.inr (Or.inl h)))
        · exact (Or.inr (Or.inr (Or.inr (Or.inl h))))) ?_
  exact n_X12_formula_174 rec50 hrec50 _ _ hf
theorem n_X12_formula_172 {N : Nat} {ρ : Nat → Nat → Nat} {this : Nat} {a1 : Int32} {r : Int32} {σr : St} (rec50 : Int32 → St → Option (Int32 × St)) (hrec50 : ∀ (x2 : Int32) (σ : St), rec50 x2 σ = some (r, σr) → Ag (fun p => p = this ∨ p = ρ this 11 ∨ p = ρ this 12 ∨ p = ρ this 13 ∨ p = ρ this 17 ∨ False) σ σr) (σ : St) (hf : f_X12_formula_172 N ρ this a1 rec50 σ = some (r, σr)) : Ag (fun p => p = this ∨ p = ρ this 11 ∨ p = ρ this 12 ∨ p = ρ this 13 ∨ p = ρ this 17 ∨ False) σ σr := by
  unfold f_X12_formula_172 at hf
  exact n_X12_formula_174 rec50 hrec50 _ _ hf
theorem n_X12_formula_114 {N : Nat} {ρ : Nat → Nat → Nat} {this : Nat} {a1 : Int32} {r : Int32} {σr : St} (rec50 : Int32 → St → Option (Int32 × St)) (hrec50 : ∀ (x2 : Int32) (σ : St), rec50 x2 σ = some (r, σr) → Ag (fun p => p = this ∨ p = ρ this 11 ∨ p = ρ this 12 ∨ p = ρ this 13 ∨ p = ρ this 17 ∨ False) σ σr) (x2 : Int32) (x3 : Int32) (σ : St) (hf : f_X12_formula_114 N ρ this a1 rec50 x2 x3 σ = some (r, σr)) : Ag (fun p => p = this ∨ p = ρ this 11 ∨ p = ρ this 12 ∨ p = ρ this 13 ∨ p = ρ this 17 ∨ False) σ σr := by
  unfold f_X12_formula_114 at hf
  rcases ite_some hf with ⟨_, hf⟩ | ⟨_, hf⟩
  · skip
    exact n_X12_formula_172 rec50 hrec50 _ hf
  · skip
    obtain ⟨_, σ18, q1, hf⟩ := bnd_some hf
    refine ag_call (m_X12_tight q1) (fun _ h => h.elim) ?_
    rcases ite_some hf with ⟨_, hf⟩ | ⟨_, hf⟩
    · skip
      obtain ⟨_, σ22, q2, hf⟩ := bnd_some hf
      refine ag_call (m_X12_hasRelation q2) (fun _ h => h.elim) ?_
      rcases ite_some hf with ⟨_, hf⟩ | ⟨_, hf⟩
      · skip
        exact n_X12_formula_133 rec50 hrec50 _ _ _ hf
      · skip
        exact n_X12_formula_172 rec50 hrec50 _ hf
    · skip
      exact n_X12_formula_133 rec50 hrec50 _ _ _ hf
theorem n_X12_formula_208 {N : Nat} {ρ : Nat → Nat → Nat} {this : Nat} {a1 : Int32} {r : Int32} {σr : St} (σ : St) (hf : f_X12_formula_208 N ρ this a1 σ = some (r, σr)) : Ag (fun p => p = this ∨ p = ρ this 11 ∨ p = ρ this 12 ∨ p = ρ this 13 ∨ p = ρ this 17 ∨ False) σ σr := by
  unfold f_X12_formula_208 at hf
  cases hf
  exact ag_refl
theorem n_X12_formula_196 {N : Nat} {ρ : Nat → Nat → Nat} {this : Nat} {a1 : Int32} {r : Int32} {σr : St} (σ : St) (hf : f_X12_formula_196 N ρ this a1 σ = some (r, σr)) : Ag (fun p => p = this ∨ p = ρ this 11 ∨ p = ρ this 12 ∨ p = ρ this 13 ∨ p = ρ this 17 ∨ False) σ σr := by
  unfold f_X12_formula_196 at hf
  rcases ite_some hf with ⟨_, hf⟩ | ⟨_, hf⟩
  · skip
    obtain ⟨_, σ27, q1, hf⟩ := bnd_some hf
    refine ag_call (m_X12_close q1) (fun _ h => by
          rcases h with h | h | h | h
          · exact (Or.inl h)
          · exact (Or.inr (Or.inl h))
          · exact (Or.inr (Or.inr (Or.inl h)))
          · exact (Or.inr (Or.inr (Or.inr (Or.inl h))))) ?_
    exact n_X12_formula_208 _ hf
  · skip
    exact n_X12_formula_208 _ hf
theorem n_X12_formula_177 {N : Nat} {ρ : Nat → Nat → Nat} {this : Nat} {a1 : Int32} {r : Int32} {σr : St} (σ : St) (hf : f_X12_formula_177 N ρ this a1 σ = some (r, σr)) : Ag (fun p => p = this ∨ p = ρ this 11 ∨ p = ρ this 12 ∨ p = ρ this 13 ∨ p = ρ this 17 ∨ False) σ σr := by
  unfold f_X12_formula_177 at hf
  rcases ite_some hf with ⟨_, hf⟩ | ⟨_, hf⟩
  · skip
    obtain ⟨_, σ31, q1, hf⟩ := bnd_some hf
    refine ag_call (m_X12_hasBracket q1) (fun _ h => h.elim) ?_
    rcases ite_some hf with ⟨_, hf⟩ | ⟨_, hf⟩
    · skip
      exact n_X12_formula_196 _ hf
    · skip
      obtain ⟨_, σ35, q2, hf⟩ := bnd_some hf
      refine ag_call (m_X12_wrong q2) (fun _ h => (Or.inl h)) ?_
      exact n_X12_formula_196 _ hf
  · skip
    exact n_X12_formula_196 _ hf
theorem nk_X12_formula_50 {N : Nat} {ρ : Nat → Nat → Nat} {this : Nat} {a1 : Int32} {r : Int32} {σr : St} (rec50 : Int32 → St → Option (Int32 × St)) (hrec50 : ∀ (x2 : Int32) (σ : St), rec50 x2 σ = some (r, σr) → Ag (fun p => p = this ∨ p = ρ this 11 ∨ p = ρ this 12 ∨ p = ρ this 13 ∨ p = ρ this 17 ∨ False) σ σr) (x2 : Int32) (σ : St) (hf : b_X12_formula_50 N ρ this a1 rec50 x2 σ = some (r, σr)) : Ag (fun p => p = this ∨ p = ρ this 11 ∨ p = ρ this 12 ∨ p = ρ this 13 ∨ p = ρ this 17 ∨ False) σ σr := by
  unfold b_X12_formula_50 at hf
  rcases ite_some hf with ⟨_, hf⟩ | ⟨_, hf⟩
  · skip
    exact n_X12_formula_177 _ hf
  · skip
    rcases ite_some hf with ⟨_, hf⟩ | ⟨_, hf⟩
    · skip
      obtain ⟨_, σ40, q1, hf⟩ := bnd_some hf
      refine ag_call (m_X12_sign q1) (fun _ h => h.elim) ?_
      rcases ite_some hf with ⟨_, hf⟩ | ⟨_, hf⟩
      · skip
        obtain ⟨_, σ44, q2, hf⟩ := bnd_some hf
        refine ag_call (m_X12_hasBracket q2) (fun _ h => h.elim) ?_
        rcases ite_some hf with ⟨_, hf⟩ | ⟨_, hf⟩
        · skip
          exact n_X12_formula_114 rec50 hrec50 _ _ _ hf
        · skip
          obtain ⟨_, σ48, q3, hf⟩ := bnd_some hf
          refine ag_call (m_X12_close q3) (fun _ h => by
                rcases h with h | h | h | h
                · exact (Or.inl h)
                · exact (Or.inr (Or.inl h))
                · exact (Or.inr (Or.inr (Or.inl h)))
                · exact (Or.inr (Or.inr (Or.inr (Or.inl h))))) ?_
          obtain ⟨σ50, eσ50, hf⟩ := nmd_some hf
          refine ag_I eσ50 (Or.inl rfl) ?_
          obtain ⟨σ51, eσ51, hf⟩ := nmd_some hf
          refine ag_I eσ51 (Or.inl rfl) ?_
          obtain ⟨_, σ53, q4, hf⟩ := bnd_some hf
          refine ag_call (m_X12_token q4) (fun _ h => (Or.inl h)) ?_
          exact n_X12_formula_174 rec50 hrec50 _ _ hf
      · skip
        exact n_X12_formula_114 rec50 hrec50 _ _ _ hf
    · skip
      exact n_X12_formula_177 _ hf
theorem n_X12_formula_50 {N : Nat} {ρ : Nat → Nat → Nat} {this : Nat} {a1 : Int32} {r : Int32} {σr : St} : ∀ (n : Nat) (x2 : Int32) (σ : St), f_X12_formula_50 N ρ this a1 n x2 σ = some (r, σr) → Ag (fun p => p = this ∨ p = ρ this 11 ∨ p = ρ this 12 ∨ p = ρ this 13 ∨ p = ρ this 17 ∨ False) σ σr := by
  intro n
  induction n with
  | zero => intro x2 σ hf; cases hf
  | succ n ih => intro x2 σ hf; exact nk_X12_formula_50 _ ih x2 σ hf
