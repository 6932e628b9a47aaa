theorem m_X5_takeNumber_129 {N : Nat} {ρ : Nat → Nat → Nat} {this : Nat} {r : Int32} {σr : St} (s0 : Int32) (σ : St) (hf : f_X5_takeNumber_129 N ρ this s0 σ = some (r, σr)) : Ag (fun p => p = this) σ σr := by
  unfold f_X5_takeNumber_129 at hf
  obtain ⟨σ1, eσ1, hf⟩ := nmd_some hf
  refine ag_I eσ1 rfl ?_
  cases hf
  exact ag_refl
theorem m_X5_takeNumber_122 {N : Nat} {ρ : Nat → Nat → Nat} {this : Nat} {r : Int32} {σr : St} (σ : St) (hf : f_X5_takeNumber_122 N ρ this σ = some (r, σr)) : Ag (fun p => p = this) σ σr := by
  unfold f_X5_takeNumber_122 at hf
  exact m_X5_takeNumber_129 _ _ hf
theorem m_X5_takeNumber_106 {N : Nat} {ρ : Nat → Nat → Nat} {this : Nat} {r : Int32} {σr : St} (x2 : Int32) (s0 : Int32) (σ : St) (hf : f_X5_takeNumber_106 N ρ this x2 s0 σ = some (r, σr)) : Ag (fun p => p = this) σ σr := by
  unfold f_X5_takeNumber_106 at hf
  rcases ite_some hf with ⟨_, hf⟩ | ⟨_, hf⟩
  · skip
    rcases ite_some hf with ⟨_, hf⟩ | ⟨_, hf⟩
    · skip
      exact m_X5_takeNumber_129 _ _ hf
    · skip
      exact m_X5_takeNumber_122 _ hf
  · skip
    exact m_X5_takeNumber_122 _ hf
theorem m_X5_takeNumber_105 {N : Nat} {ρ : Nat → Nat → Nat} {this : Nat} {r : Int32} {σr : St} (x2 : Int32) (σ : St) (hf : f_X5_takeNumber_105 N ρ this x2 σ = some (r, σr)) : Ag (fun p => p = this) σ σr := by
  unfold f_X5_takeNumber_105 at hf
  exact m_X5_takeNumber_106 _ _ _ hf
theorem m_X5_takeNumber_69 {N : Nat} {ρ : Nat → Nat → Nat} {this : Nat} {r : Int32} {σr : St} (x2 : Int32) (σ : St) (hf : f_X5_takeNumber_69 N ρ this x2 σ = some (r, σr)) : Ag (fun p => p = this) σ σr := by
  unfold f_X5_takeNumber_69 at hf
  obtain ⟨σ4, eσ4, hf⟩ := nmd_some hf
  refine ag_I eσ4 rfl ?_
  rcases ite_some hf with ⟨_, hf⟩ | ⟨_, hf⟩
  · skip
    exact m_X5_takeNumber_105 _ _ hf
  · skip
    obtain ⟨_, hf⟩ := gd_some hf
    rcases ite_some hf with ⟨_, hf⟩ | ⟨_, hf⟩
    · skip
      exact m_X5_takeNumber_105 _ _ hf
    · skip
      obtain ⟨_, hf⟩ := gd_some hf
      rcases ite_some hf with ⟨_, hf⟩ | ⟨_, hf⟩
      · skip
        exact m_X5_takeNumber_105 _ _ hf
      · skip
        exact m_X5_takeNumber_106 _ _ _ hf
theorem k_X5_takeNumber_18 {N : Nat} {ρ : Nat → Nat → Nat} {this : Nat} {r : Int32} {σr : St} (rec18 : Int32 → St → Option (Int32 × St)) (hrec18 : ∀ (x2 : Int32) (σ : St), rec18 x2 σ = some (r, σr) → Ag (fun p => p = this) σ σr) (x2 : Int32) (σ : St) (hf : b_X5_takeNumber_18 N ρ this rec18 x2 σ = some (r, σr)) : Ag (fun p => p = this) σ σr := by
  unfold b_X5_takeNumber_18 at hf
  rcases ite_some hf with ⟨_, hf⟩ | ⟨_, hf⟩
  · skip
    exact m_X5_takeNumber_69 _ _ hf
  · skip
    obtain ⟨_, hf⟩ := gd_some hf
    rcases ite_some hf with ⟨_, hf⟩ | ⟨_, hf⟩
    · skip
      exact m_X5_takeNumber_69 _ _ hf
    · skip
      obtain ⟨_, hf⟩ := gd_some hf
      rcases ite_some hf with ⟨_, hf⟩ | ⟨_, hf⟩
      · skip
        exact m_X5_takeNumber_69 _ _ hf
      · skip
        obtain ⟨_, hf⟩ := gd_some hf
        obtain ⟨σ16, eσ16, hf⟩ := nmd_some hf
        refine ag_I eσ16 rfl ?_
        exact hrec18 _ _ hf
theorem m_X5_takeNumber_18 {N : Nat} {ρ : Nat → Nat → Nat} {this : Nat} {r : Int32} {σr : St} : ∀ (n : Nat) (x2 : Int32) (σ : St), f_X5_takeNumber_18 N ρ this n x2 σ = some (r, σr) → Ag (fun p => p = this) σ σr := by
  intro n
  induction n with
  | zero => intro x2 σ hf; cases hf
  | succ n ih => intro x2 σ hf; exact k_X5_takeNumber_18 _ ih x2 σ hf
theorem m_X5_takeNumber {N : Nat} {ρ : Nat → Nat → Nat} {this : Nat} {r : Int32} {σr : St} {σ : St} (hf : f_X5_takeNumber N ρ this σ = some (r, σr)) : Ag (fun p => p = this) σ σr := by
  unfold f_X5_takeNumber at hf
  obtain ⟨y17, ey17, hf⟩ := nmd_some hf
  obtain ⟨σ18, eσ18, hf⟩ := nmd_some hf
  refine ag_I eσ18 rfl ?_
  exact m_X5_takeNumber_18 N _ _ hf
theorem m_X5_takeWord_137 {N : Nat} {ρ : Nat → Nat → Nat} {this : Nat} {r : Int32} {σr : St} (rec100 : Int32 → St → Option (Int32 × St)) (hrec100 : ∀ (x3 : Int32) (σ : St), rec100 x3 σ = some (r, σr) → Ag (fun p => p = this) σ σr) (x3 : Int32) (σ : St) (hf : f_X5_takeWord_137 N ρ this rec100 x3 σ = some (r, σr)) : Ag (fun p => p = this) σ σr := by
  unfold f_X5_takeWord_137 at hf
  exact hrec100 _ _ hf
theorem m_X5_takeWord_143 {N : Nat} {ρ : Nat → Nat → Nat} {this : Nat} {r : Int32} {σr : St} (σ : St) (hf : f_X5_takeWord_143 N ρ this σ = some (r, σr)) : Ag (fun p => p = this) σ σr := by
  unfold f_X5_takeWord_143 at hf
  cases hf
  exact ag_refl
theorem k_X5_takeWord_100 {N : Nat} {ρ : Nat → Nat → Nat} {this : Nat} {r : Int32} {σr : St} (rec100 : Int32 → St → Option (Int32 × St)) (hrec100 : ∀ (x3 : Int32) (σ : St), rec100 x3 σ = some (r, σr) → Ag (fun p => p = this) σ σr) (x3 : Int32) (σ : St) (hf : b_X5_takeWord_100 N ρ this rec100 x3 σ = some (r, σr)) : Ag (fun p => p = this) σ σr := by
  unfold b_X5_takeWord_100 at hf
  rcases ite_some hf with ⟨_, hf⟩ | ⟨_, hf⟩
  · skip
    rcases ite_some hf with ⟨_, hf⟩ | ⟨_, hf⟩
    · skip
      exact m_X5_takeWord_143 _ hf
    · skip
      obtain ⟨_, hf⟩ := gd_some hf
      rcases ite_some hf with ⟨_, hf⟩ | ⟨_, hf⟩
      · skip
        obtain ⟨σ5, eσ5, hf⟩ := nmd_some hf
        refine ag_I eσ5 rfl ?_
        exact m_X5_takeWord_137 rec100 hrec100 _ _ hf
      · skip
        exact m_X5_takeWord_137 rec100 hrec100 _ _ hf
  · skip
    exact m_X5_takeWord_143 _ hf
theorem m_X5_takeWord_100 {N : Nat} {ρ : Nat → Nat → Nat} {this : Nat} {r : Int32} {σr : St} : ∀ (n : Nat) (x3 : Int32) (σ : St), f_X5_takeWord_100 N ρ this n x3 σ = some (r, σr) → Ag (fun p => p = this) σ σr := by
  intro n
  induction n with
  | zero => intro x3 σ hf; cases hf
  | succ n ih => intro x3 σ hf; exact k_X5_takeWord_100 _ ih x3 σ hf
theorem m_X5_takeWord_95 {N : Nat} {ρ : Nat → Nat → Nat} {this : Nat} {r : Int32} {σr : St} (s0 : Int32) (σ : St) (hf : f_X5_takeWord_95 N ρ this s0 σ = some (r, σr)) : Ag (fun p => p = this) σ σr := by
  unfold f_X5_takeWord_95 at hf
  obtain ⟨σ6, eσ6, hf⟩ := nmd_some hf
  refine ag_I eσ6 rfl ?_
  exact m_X5_takeWord_100 N _ _ hf
theorem m_X5_takeWord_71 {N : Nat} {ρ : Nat → Nat → Nat} {this : Nat} {r : Int32} {σr : St} (x2 : Int32) (σ : St) (hf : f_X5_takeWord_71 N ρ this x2 σ = some (r, σr)) : Ag (fun p => p = this) σ σr := by
  unfold f_X5_takeWord_71 at hf
  obtain ⟨σ7, eσ7, hf⟩ := nmd_some hf
  refine ag_I eσ7 rfl ?_
  rcases ite_some hf with ⟨_, hf⟩ | ⟨_, hf⟩
  · skip
    exact m_X5_takeWord_95 _ _ hf
  · skip
    exact m_X5_takeWord_95 _ _ hf
theorem k_X5_takeWord_18 {N : Nat} {ρ : Nat → Nat → Nat} {this : Nat} {r : Int32} {σr : St} (rec18 : Int32 → St → Option (Int32 × St)) (hrec18 : ∀ (x2 : Int32) (σ : St), rec18 x2 σ = some (r, σr) → Ag (fun p => p = this) σ σr) (x2 : Int32) (σ : St) (hf : b_X5_takeWord_18 N ρ this rec18 x2 σ = some (r, σr)) : Ag (fun p => p = this) σ σr := by
  unfold b_X5_takeWord_18 at hf
  rcases ite_some hf with ⟨_, hf⟩ | ⟨_, hf⟩
  · skip
    exact m_X5_takeWord_71 _ _ hf
  · skip
    obtain ⟨_, hf⟩ := gd_some hf
    rcases ite_some hf with ⟨_, hf⟩ | ⟨_, hf⟩
    · skip
      exact m_X5_takeWord_71 _ _ hf
    · skip
      obtain ⟨_, hf⟩ := gd_some hf
      rcases ite_some hf with ⟨_, hf⟩ | ⟨_, hf⟩
      · skip
        exact m_X5_takeWord_71 _ _ hf
      · skip
        obtain ⟨_, hf⟩ := gd_some hf
        obtain ⟨σ15, eσ15, hf⟩ := nmd_some hf
        refine ag_J eσ15 rfl ?_
        exact hrec18 _ _ hf
theorem m_X5_takeWord_18 {N : Nat} {ρ : Nat → Nat → Nat} {this : Nat} {r : Int32} {σr : St} : ∀ (n : Nat) (x2 : Int32) (σ : St), f_X5_takeWord_18 N ρ this n x2 σ = some (r, σr) → Ag (fun p => p = this) σ σr := by
  intro n
  induction n with
  | zero => intro x2 σ hf; cases hf
  | succ n ih => intro x2 σ hf; exact k_X5_takeWord_18 _ ih x2 σ hf
theorem m_X5_takeWord {N : Nat} {ρ : Nat → Nat → Nat} {this : Nat} {r : Int32} {σr : St} {σ : St} (hf : f_X5_takeWord N ρ this σ = some (r, σr)) : Ag (fun p => p = this) σ σr := by
  unfold f_X5_takeWord at hf
  obtain ⟨y16, ey16, hf⟩ := nmd_some hf
  obtain ⟨σ17, eσ17, hf⟩ := nmd_some hf
  refine ag_J eσ17 rfl ?_
  exact m_X5_takeWord_18 N _ _ hf
theorem m_X5_advance_40 {N : Nat} {ρ : Nat → Nat → Nat} {this : Nat} {r : Int32} {σr : St} (rec13 : Int32 → St → Option (Int32 × St)) (hrec13 : ∀ (x2 : Int32) (σ : St), rec13 x2 σ = some (r, σr) → Ag (fun p => p = this) σ σr) (x2 : Int32) (σ : St) (hf : f_X5_advance_40 N ρ this rec13 x2 σ = some (r, σr)) : Ag (fun p => p = this) σ σr := by
  unfold f_X5_advance_40 at hf
  exact hrec13 _ _ hf
theorem m_X5_advance_159 {N : Nat} {ρ : Nat → Nat → Nat} {this : Nat} {r : Int32} {σr : St} (σ : St) (hf : f_X5_advance_159 N ρ this σ = some (r, σr)) : Ag (fun p => p = this) σ σr := by
  unfold f_X5_advance_159 at hf
  cases hf
  exact ag_refl
theorem m_X5_advance_156 {N : Nat} {ρ : Nat → Nat → Nat} {this : Nat} {r : Int32} {σr : St} (s0 : Int32) (σ : St) (hf : f_X5_advance_156 N ρ this s0 σ = some (r, σr)) : Ag (fun p => p = this) σ σr := by
  unfold f_X5_advance_156 at hf
  obtain ⟨σ1, eσ1, hf⟩ := nmd_some hf
  refine ag_I eσ1 rfl ?_
  exact m_X5_advance_159 _ hf
theorem m_X5_advance_154 {N : Nat} {ρ : Nat → Nat → Nat} {this : Nat} {r : Int32} {σr : St} (σ : St) (hf : f_X5_advance_154 N ρ this σ = some (r, σr)) : Ag (fun p => p = this) σ σr := by
  unfold f_X5_advance_154 at hf
  exact m_X5_advance_156 _ _ hf
theorem m_X5_advance_129 {N : Nat} {ρ : Nat → Nat → Nat} {this : Nat} {r : Int32} {σr : St} (x2 : Int32) (σ : St) (hf : f_X5_advance_129 N ρ this x2 σ = some (r, σr)) : Ag (fun p => p = this) σ σr := by
  unfold f_X5_advance_129 at hf
  obtain ⟨_, hf⟩ := gd_some hf
  rcases ite_some hf with ⟨_, hf⟩ | ⟨_, hf⟩
  · skip
    exact m_X5_advance_154 _ hf
  · skip
    obtain ⟨_, hf⟩ := gd_some hf
    obtain ⟨_, σ6, q1, hf⟩ := bnd_some hf
    refine ag_call (m_J0_indexOf_0f7a4 q1) (fun _ h => h.elim) ?_
    rcases ite_some hf with ⟨_, hf⟩ | ⟨_, hf⟩
    · skip
      exact m_X5_advance_154 _ hf
    · skip
      obtain ⟨_, hf⟩ := gd_some hf
      exact m_X5_advance_156 _ _ hf
theorem m_X5_advance_106 {N : Nat} {ρ : Nat → Nat → Nat} {this : Nat} {r : Int32} {σr : St} (x2 : Int32) (σ : St) (hf : f_X5_advance_106 N ρ this x2 σ = some (r, σr)) : Ag (fun p => p = this) σ σr := by
  unfold f_X5_advance_106 at hf
  obtain ⟨_, hf⟩ := gd_some hf
  rcases ite_some hf with ⟨_, hf⟩ | ⟨_, hf⟩
  · skip
    exact m_X5_advance_129 _ _ hf
  · skip
    obtain ⟨_, hf⟩ := gd_some hf
    rcases ite_some hf with ⟨_, hf⟩ | ⟨_, hf⟩
    · skip
      exact m_X5_advance_129 _ _ hf
    · skip
      obtain ⟨_, σ15, q1, hf⟩ := bnd_some hf
      refine ag_call (m_X5_takeNumber q1) (fun _ h => h) ?_
      exact m_X5_advance_159 _ hf
theorem m_X5_advance_46 {N : Nat} {ρ : Nat → Nat → Nat} {this : Nat} {r : Int32} {σr : St} (x2 : Int32) (σ : St) (hf : f_X5_advance_46 N ρ this x2 σ = some (r, σr)) : Ag (fun p => p = this) σ σr := by
  unfold f_X5_advance_46 at hf
  obtain ⟨σ17, eσ17, hf⟩ := nmd_some hf
  refine ag_I eσ17 rfl ?_
  obtain ⟨σ18, eσ18, hf⟩ := nmd_some hf
  refine ag_I eσ18 rfl ?_
  rcases ite_some hf with ⟨_, hf⟩ | ⟨_, hf⟩
  · skip
    obtain ⟨_, hf⟩ := gd_some hf
    rcases ite_some hf with ⟨_, hf⟩ | ⟨_, hf⟩
    · skip
      exact m_X5_advance_106 _ _ hf
    · skip
      obtain ⟨_, hf⟩ := gd_some hf
      rcases ite_some hf with ⟨_, hf⟩ | ⟨_, hf⟩
      · skip
        exact m_X5_advance_106 _ _ hf
      · skip
        obtain ⟨_, σ25, q1, hf⟩ := bnd_some hf
        refine ag_call (m_X5_takeWord q1) (fun _ h => h) ?_
        exact m_X5_advance_159 _ hf
  · skip
    obtain ⟨σ27, eσ27, hf⟩ := nmd_some hf
    refine ag_I eσ27 rfl ?_
    obtain ⟨σ28, eσ28, hf⟩ := nmd_some hf
    refine ag_I eσ28 rfl ?_
    exact m_X5_advance_159 _ hf
theorem k_X5_advance_13 {N : Nat} {ρ : Nat → Nat → Nat} {this : Nat} {r : Int32} {σr : St} (rec13 : Int32 → St → Option (Int32 × St)) (hrec13 : ∀ (x2 : Int32) (σ : St), rec13 x2 σ = some (r, σr) → Ag (fun p => p = this) σ σr) (x2 : Int32) (σ : St) (hf : b_X5_advance_13 N ρ this rec13 x2 σ = some (r, σr)) : Ag (fun p => p = this) σ σr := by
  unfold b_X5_advance_13 at hf
  rcases ite_some hf with ⟨_, hf⟩ | ⟨_, hf⟩
  · skip
    exact m_X5_advance_46 _ _ hf
  · skip
    obtain ⟨_, hf⟩ := gd_some hf
    rcases ite_some hf with ⟨_, hf⟩ | ⟨_, hf⟩
    · skip
      exact m_X5_advance_40 rec13 hrec13 _ _ hf
    · skip
      obtain ⟨_, hf⟩ := gd_some hf
      rcases ite_some hf with ⟨_, hf⟩ | ⟨_, hf⟩
      · skip
        exact m_X5_advance_40 rec13 hrec13 _ _ hf
      · skip
        exact m_X5_advance_46 _ _ hf
theorem m_X5_advance_13 {N : Nat} {ρ : Nat → Nat → Nat} {this : Nat} {r : Int32} {σr : St} : ∀ (n : Nat) (x2 : Int32) (σ : St), f_X5_advance_13 N ρ this n x2 σ = some (r, σr) → Ag (fun p => p = this) σ σr := by
  intro n
  induction n with
  | zero => intro x2 σ hf; cases hf
  | succ n ih => intro x2 σ hf; exact k_X5_advance_13 _ ih x2 σ hf
theorem m_X5_advance {N : Nat} {ρ : Nat → Nat → Nat} {this : Nat} {r : Int32} {σr : St} {σ : St} (hf : f_X5_advance N ρ this σ = some (r, σr)) : Ag (fun p => p = this) σ σr := by
  unfold f_X5_advance at hf
  obtain ⟨y34, ey34, hf⟩ := nmd_some hf
  exact m_X5_advance_13 N _ _ hf
theorem m_X5_begin {N : Nat} {ρ : Nat → Nat → Nat} {this : Nat} {r : Int32} {σr : St} {σ : St} (hf : f_X5_begin N ρ this σ = some (r, σr)) : Ag (fun p => p = this) σ σr := by
  unfold f_X5_begin at hf
  obtain ⟨σ1, eσ1, hf⟩ := nmd_some hf
  refine ag_I eσ1 rfl ?_
  obtain ⟨σ2, eσ2, hf⟩ := nmd_some hf
  refine ag_I eσ2 rfl ?_
  obtain ⟨σ3, eσ3, hf⟩ := nmd_some hf
  refine ag_I eσ3 rfl ?_
  obtain ⟨_, σ5, q1, hf⟩ := bnd_some hf
  refine ag_call (m_X5_advance q1) (fun _ h => h) ?_
  cases hf
  exact ag_refl
theorem m_X5_refuse_15 {N : Nat} {ρ : Nat → Nat → Nat} {this : Nat} {a1 : Int32} {r : Int32} {σr : St} (s0 : Int32) (σ : St) (hf : f_X5_refuse_15 N ρ this a1 s0 σ = some (r, σr)) : Ag (fun p => p = this) σ σr := by
  unfold f_X5_refuse_15 at hf
  obtain ⟨σ1, eσ1, hf⟩ := nmd_some hf
  refine ag_I eσ1 rfl ?_
  obtain ⟨σ2, eσ2, hf⟩ := nmd_some hf
  refine ag_I eσ2 rfl ?_
  cases hf
  exact ag_refl
theorem m_X5_refuse {N : Nat} {ρ : Nat → Nat → Nat} {this : Nat} {a1 : Int32} {r : Int32} {σr : St} {σ : St} (hf : f_X5_refuse N ρ this a1 σ = some (r, σr)) : Ag (fun p => p = this) σ σr := by
  unfold f_X5_refuse at hf
  rcases ite_some hf with ⟨_, hf⟩ | ⟨_, hf⟩
  · skip
    exact m_X5_refuse_15 _ _ hf
  · skip
    exact m_X5_refuse_15 _ _ hf
theorem m_X5_pass {N : Nat} {ρ : Nat → Nat → Nat} {this : Nat} {a1 : Int32} {r : Int32} {σr : St} {σ : St} (hf : f_X5_pass N ρ this a1 σ = some (r, σr)) : Ag (fun p => p = this) σ σr := by
  unfold f_X5_pass at hf
  rcases ite_some hf with ⟨_, hf⟩ | ⟨_, hf⟩
  · skip
    obtain ⟨_, σ3, q1, hf⟩ := bnd_some hf
    refine ag_call (m_X5_advance q1) (fun _ h => h) ?_
    cases hf
    exact ag_refl
  · skip
    obtain ⟨_, σ6, q2, hf⟩ := bnd_some hf
    refine ag_call (m_X5_refuse q2) (fun _ h => h) ?_
    obtain ⟨_, hf⟩ := gd_some hf
    cases hf
    exact ag_refl
theorem m_X2_isTimes_23 {N : Nat} {ρ : Nat → Nat → Nat} {a1 : Int32} {r : Int32} {σr : St} (s0 : Int32) (σ : St) (hf : f_X2_isTimes_23 N ρ a1 s0 σ = some (r, σr)) : Ag (fun p => False) σ σr := by
  unfold f_X2_isTimes_23 at hf
  obtain ⟨_, hf⟩ := gd_some hf
  cases hf
  exact ag_refl
theorem m_X2_isTimes_18 {N : Nat} {ρ : Nat → Nat → Nat} {a1 : Int32} {r : Int32} {σr : St} (σ : St) (hf : f_X2_isTimes_18 N ρ a1 σ = some (r, σr)) : Ag (fun p => False) σ σr := by
  unfold f_X2_isTimes_18 at hf
  exact m_X2_isTimes_23 _ _ hf
theorem m_X2_isTimes {N : Nat} {ρ : Nat → Nat → Nat} {a1 : Int32} {r : Int32} {σr : St} {σ : St} (hf : f_X2_isTimes N ρ a1 σ = some (r, σr)) : Ag (fun p => False) σ σr := by
  unfold f_X2_isTimes at hf
  rcases ite_some hf with ⟨_, hf⟩ | ⟨_, hf⟩
  · skip
    exact m_X2_isTimes_18 _ hf
  · skip
    rcases ite_some hf with ⟨_, hf⟩ | ⟨_, hf⟩
    · skip
      exact m_X2_isTimes_18 _ hf
    · skip
      rcases ite_some hf with ⟨_, hf⟩ | ⟨_, hf⟩
      · skip
        exact m_X2_isTimes_18 _ hf
      · skip
        exact m_X2_isTimes_23 _ _ hf
theorem m_X2_either_59 {N : Nat} {ρ : Nat → Nat → Nat} {this : Nat} {a1 : Nat} {a2 : Int32} {G_X2_both : Nat → Nat → Int32 → St → Option (Int32 × St)} {r : Int32} {σr : St} (hA_X2_both : ∀ {this : Nat} {a1 : Nat} {a2 : Int32} {σ : St} {r : Int32} {σr : St}, G_X2_both this a1 a2 σ = some (r, σr) → Ag (fun p => p = ρ this 0 ∨ p = ρ a1 0 ∨ p = a1) σ σr) (x3 : Int32) (σ : St) (hf : f_X2_either_59 N ρ this a1 a2 G_X2_both x3 σ = some (r, σr)) : Ag (fun p => p = ρ this 0 ∨ p = ρ a1 0 ∨ p = a1) σ σr := by
  unfold f_X2_either_59 at hf
  obtain ⟨_, hf⟩ := gd_some hf
  cases hf
  exact ag_refl
theorem k_X2_either_10 {N : Nat} {ρ : Nat → Nat → Nat} {this : Nat} {a1 : Nat} {a2 : Int32} {G_X2_both : Nat → Nat → Int32 → St → Option (Int32 × St)} {r : Int32} {σr : St} (hA_X2_both : ∀ {this : Nat} {a1 : Nat} {a2 : Int32} {σ : St} {r : Int32} {σr : St}, G_X2_both this a1 a2 σ = some (r, σr) → Ag (fun p => p = ρ this 0 ∨ p = ρ a1 0 ∨ p = a1) σ σr) (rec10 : Int32 → Int32 → St → Option (Int32 × St)) (hrec10 : ∀ (x3 : Int32) (x4 : Int32) (σ : St), rec10 x3 x4 σ = some (r, σr) → Ag (fun p => p = ρ this 0 ∨ p = ρ a1 0 ∨ p = a1) σ σr) (x3 : Int32) (x4 : Int32) (σ : St) (hf : b_X2_either_10 N ρ this a1 a2 G_X2_both rec10 x3 x4 σ = some (r, σr)) : Ag (fun p => p = ρ this 0 ∨ p = ρ a1 0 ∨ p = a1) σ σr := by
  unfold b_X2_either_10 at hf
  rcases ite_some hf with ⟨_, hf⟩ | ⟨_, hf⟩
  · skip
    exact m_X2_either_59 hA_X2_both _ _ hf
  · skip
    rcases ite_some hf with ⟨_, hf⟩ | ⟨_, hf⟩
    · skip
      exact m_X2_either_59 hA_X2_both _ _ hf
    · skip
      rcases ite_some hf with ⟨_, hf⟩ | ⟨_, hf⟩
      · skip
        obtain ⟨_, σ6, q1, hf⟩ := bnd_some hf
        refine ag_call (m_X5_advance q1) (fun _ h => (Or.inl h)) ?_
        obtain ⟨_, σ9, q2, hf⟩ := bnd_some hf
        refine ag_call (hA_X2_both q2) (fun _ h => by
              rcases h with h | h | h
              · exact (Or.inl h)
              · exact (Or.inr (Or.inl h))
              · exact (Or.inr (Or.inr h))) ?_
        obtain ⟨_, σ12, q3, hf⟩ := bnd_some hf
        refine ag_call (m_X1_add q3) (fun _ h => by
              rcases h with h | h
              · exact (Or.inr (Or.inl h))
              · exact (Or.inr (Or.inr h))) ?_
        exact hrec10 _ _ _ hf
      · skip
        exact m_X2_either_59 hA_X2_both _ _ hf
theorem m_X2_either_10 {N : Nat} {ρ : Nat → Nat → Nat} {this : Nat} {a1 : Nat} {a2 : Int32} {G_X2_both : Nat → Nat → Int32 → St → Option (Int32 × St)} {r : Int32} {σr : St} (hA_X2_both : ∀ {this : Nat} {a1 : Nat} {a2 : Int32} {σ : St} {r : Int32} {σr : St}, G_X2_both this a1 a2 σ = some (r, σr) → Ag (fun p => p = ρ this 0 ∨ p = ρ a1 0 ∨ p = a1) σ σr) : ∀ (n : Nat) (x3 : Int32) (x4 : Int32) (σ : St), f_X2_either_10 N ρ this a1 a2 G_X2_both n x3 x4 σ = some (r, σr) → Ag (fun p => p = ρ this 0 ∨ p = ρ a1 0 ∨ p = a1) σ σr := by
  intro n
  induction n with
  | zero => intro x3 x4 σ hf; cases hf
  | succ n ih => intro x3 x4 σ hf; exact k_X2_either_10 hA_X2_both _ ih x3 x4 σ hf
theorem mo_X2_either {N : Nat} {ρ : Nat → Nat → Nat} {this : Nat} {a1 : Nat} {a2 : Int32} {G_X2_both : Nat → Nat → Int32 → St → Option (Int32 × St)} {r : Int32} {σr : St} (hA_X2_both : ∀ {this : Nat} {a1 : Nat} {a2 : Int32} {σ : St} {r : Int32} {σr : St}, G_X2_both this a1 a2 σ = some (r, σr) → Ag (fun p => p = ρ this 0 ∨ p = ρ a1 0 ∨ p = a1) σ σr) {σ : St} (hf : fo_X2_either N ρ this a1 a2 G_X2_both σ = some (r, σr)) : Ag (fun p => p = ρ this 0 ∨ p = ρ a1 0 ∨ p = a1) σ σr := by
  unfold fo_X2_either at hf
  obtain ⟨_, σ15, q1, hf⟩ := bnd_some hf
  refine ag_call (hA_X2_both q1) (fun _ h => by
        rcases h with h | h | h
        · exact (Or.inl h)
        · exact (Or.inr (Or.inl h))
        · exact (Or.inr (Or.inr h))) ?_
  exact m_X2_either_10 hA_X2_both N _ _ _ hf
theorem m_X2_both_59 {N : Nat} {ρ : Nat → Nat → Nat} {this : Nat} {a1 : Nat} {a2 : Int32} {G_X2_one : Nat → Nat → Int32 → St → Option (Int32 × St)} {r : Int32} {σr : St} (hA_X2_one : ∀ {this : Nat} {a1 : Nat} {a2 : Int32} {σ : St} {r : Int32} {σr : St}, G_X2_one this a1 a2 σ = some (r, σr) → Ag (fun p => p = ρ this 0 ∨ p = ρ a1 0 ∨ p = a1) σ σr) (x3 : Int32) (σ : St) (hf : f_X2_both_59 N ρ this a1 a2 G_X2_one x3 σ = some (r, σr)) : Ag (fun p => p = ρ this 0 ∨ p = ρ a1 0 ∨ p = a1) σ σr := by
  unfold f_X2_both_59 at hf
  obtain ⟨_, hf⟩ := gd_some hf
  cases hf
  exact ag_refl
theorem k_X2_both_10 {N : Nat} {ρ : Nat → Nat → Nat} {this : Nat} {a1 : Nat} {a2 : Int32} {G_X2_one : Nat → Nat → Int32 → St → Option (Int32 × St)} {r : Int32} {σr : St} (hA_X2_one : ∀ {this : Nat} {a1 : Nat} {a2 : Int32} {σ : St} {r : Int32} {σr : St}, G_X2_one this a1 a2 σ = some (r, σr) → Ag (fun p => p = ρ this 0 ∨ p = ρ a1 0 ∨ p = a1) σ σr) (rec10 : Int32 → Int32 → St → Option (Int32 × St)) (hrec10 : ∀ (x3 : Int32) (x4 : Int32) (σ : St), rec10 x3 x4 σ = some (r, σr) → Ag (fun p => p = ρ this 0 ∨ p = ρ a1 0 ∨ p = a1) σ σr) (x3 : Int32) (x4 : Int32) (σ : St) (hf : b_X2_both_10 N ρ this a1 a2 G_X2_one rec10 x3 x4 σ = some (r, σr)) : Ag (fun p => p = ρ this 0 ∨ p = ρ a1 0 ∨ p = a1) σ σr := by
  unfold b_X2_both_10 at hf
  rcases ite_some hf with ⟨_, hf⟩ | ⟨_, hf⟩
  · skip
    exact m_X2_both_59 hA_X2_one _ _ hf
  · skip
    rcases ite_some hf with ⟨_, hf⟩ | ⟨_, hf⟩
    · skip
      exact m_X2_both_59 hA_X2_one _ _ hf
    · skip
      rcases ite_some hf with ⟨_, hf⟩ | ⟨_, hf⟩
      · skip
        obtain ⟨_, σ6, q1, hf⟩ := bnd_some hf
        refine ag_call (m_X5_advance q1) (fun _ h => (Or.inl h)) ?_
        obtain ⟨_, σ9, q2, hf⟩ := bnd_some hf
        refine ag_call (hA_X2_one q2) (fun _ h => by
              rcases h with h | h | h
              · exact (Or.inl h)
              · exact (Or.inr (Or.inl h))
              · exact (Or.inr (Or.inr h))) ?_
        obtain ⟨_, σ12, q3, hf⟩ := bnd_some hf
        refine ag_call (m_X1_add q3) (fun _ h => by
              rcases h with h | h
              · exact (Or.inr (Or.inl h))
              · exact (Or.inr (Or.inr h))) ?_
        exact hrec10 _ _ _ hf
      · skip
        exact m_X2_both_59 hA_X2_one _ _ hf
theorem m_X2_both_10 {N : Nat} {ρ : Nat → Nat → Nat} {this : Nat} {a1 : Nat} {a2 : Int32} {G_X2_one : Nat → Nat → Int32 → St → Option (Int32 × St)} {r : Int32} {σr : St} (hA_X2_one : ∀ {this : Nat} {a1 : Nat} {a2 : Int32} {σ : St} {r : Int32} {σr : St}, G_X2_one this a1 a2 σ = some (r, σr) → Ag (fun p => p = ρ this 0 ∨ p = ρ a1 0 ∨ p = a1) σ σr) : ∀ (n : Nat) (x3 : Int32) (x4 : Int32) (σ : St), f_X2_both_10 N ρ this a1 a2 G_X2_one n x3 x4 σ = some (r, σr) → Ag (fun p => p = ρ this 0 ∨ p = ρ a1 0 ∨ p = a1) σ σr := by
  intro n
  induction n with
  | zero => intro x3 x4 σ hf; cases hf
  | succ n ih => intro x3 x4 σ hf; exact k_X2_both_10 hA_X2_one _ ih x3 x4 σ hf
theorem mo_X2_both {N : Nat} {ρ : Nat → Nat → Nat} {this : Nat} {a1 : Nat} {a2 : Int32} {G_X2_one : Nat → Nat → Int32 → St → Option (Int32 × St)} {r : Int32} {σr : St} (hA_X2_one : ∀ {this : Nat} {a1 : Nat} {a2 : Int32} {σ : St} {r : Int32} {σr : St}, G_X2_one this a1 a2 σ = some (r, σr) → Ag (fun p => p = ρ this 0 ∨ p = ρ a1 0 ∨ p = a1) σ σr) {σ : St} (hf : fo_X2_both N ρ this a1 a2 G_X2_one σ = some (r, σr)) : Ag (fun p => p = ρ this 0 ∨ p = ρ a1 0 ∨ p = a1) σ σr := by
  unfold fo_X2_both at hf
  obtain ⟨_, σ15, q1, hf⟩ := bnd_some hf
  refine ag_call (hA_X2_one q1) (fun _ h => by
        rcases h with h | h | h
        · exact (Or.inl h)
        · exact (Or.inr (Or.inl h))
        · exact (Or.inr (Or.inr h))) ?_
  exact m_X2_both_10 hA_X2_one N _ _ _ hf
theorem mo_X2_one {N : Nat} {ρ : Nat → Nat → Nat} {this : Nat} {a1 : Nat} {a2 : Int32} {G_X2_one : Nat → Nat → Int32 → St → Option (Int32 × St)} {G_X2_relation : Nat → Nat → Int32 → St → Option (Int32 × St)} {r : Int32} {σr : St} (hA_X2_one : ∀ {this : Nat} {a1 : Nat} {a2 : Int32} {σ : St} {r : Int32} {σr : St}, G_X2_one this a1 a2 σ = some (r, σr) → Ag (fun p => p = ρ this 0 ∨ p = ρ a1 0 ∨ p = a1) σ σr) (hA_X2_relation : ∀ {this : Nat} {a1 : Nat} {a2 : Int32} {σ : St} {r : Int32} {σr : St}, G_X2_relation this a1 a2 σ = some (r, σr) → Ag (fun p => p = ρ this 0 ∨ p = ρ a1 0 ∨ p = a1) σ σr) {σ : St} (hf : fo_X2_one N ρ this a1 a2 G_X2_one G_X2_relation σ = some (r, σr)) : Ag (fun p => p = ρ this 0 ∨ p = ρ a1 0 ∨ p = a1) σ σr := by
  unfold fo_X2_one at hf
  rcases ite_some hf with ⟨_, hf⟩ | ⟨_, hf⟩
  · skip
    rcases ite_some hf with ⟨_, hf⟩ | ⟨_, hf⟩
    · skip
      obtain ⟨_, σ4, q1, hf⟩ := bnd_some hf
      refine ag_call (m_X5_advance q1) (fun _ h => (Or.inl h)) ?_
      obtain ⟨_, σ7, q2, hf⟩ := bnd_some hf
      refine ag_call (hA_X2_one q2) (fun _ h => by
            rcases h with h | h | h
            · exact (Or.inl h)
            · exact (Or.inr (Or.inl h))
            · exact (Or.inr (Or.inr h))) ?_
      obtain ⟨_, σ10, q3, hf⟩ := bnd_some hf
      refine ag_call (m_X1_add q3) (fun _ h => by
            rcases h with h | h
            · exact (Or.inr (Or.inl h))
            · exact (Or.inr (Or.inr h))) ?_
      obtain ⟨_, hf⟩ := gd_some hf
      cases hf
      exact ag_refl
    · skip
      obtain ⟨_, σ14, q4, hf⟩ := bnd_some hf
      refine ag_call (m_X5_refuse q4) (fun _ h => (Or.inl h)) ?_
      obtain ⟨_, hf⟩ := gd_some hf
      cases hf
      exact ag_refl
  · skip
    obtain ⟨_, σ18, q5, hf⟩ := bnd_some hf
    refine ag_call (hA_X2_relation q5) (fun _ h => by
          rcases h with h | h | h
          · exact (Or.inl h)
          · exact (Or.inr (Or.inl h))
          · exact (Or.inr (Or.inr h))) ?_
    obtain ⟨_, hf⟩ := gd_some hf
    cases hf
    exact ag_refl
theorem m_X2_relation_39 {N : Nat} {ρ : Nat → Nat → Nat} {this : Nat} {a1 : Nat} {a2 : Int32} {G_X2_sum : Nat → Nat → Int32 → St → Option (Int32 × St)} {r : Int32} {σr : St} (hA_X2_sum : ∀ {this : Nat} {a1 : Nat} {a2 : Int32} {σ : St} {r : Int32} {σr : St}, G_X2_sum this a1 a2 σ = some (r, σr) → Ag (fun p => p = ρ this 0 ∨ p = ρ a1 0 ∨ p = a1) σ σr) (x3 : Int32) (σ : St) (hf : f_X2_relation_39 N ρ this a1 a2 G_X2_sum x3 σ = some (r, σr)) : Ag (fun p => p = ρ this 0 ∨ p = ρ a1 0 ∨ p = a1) σ σr := by
  unfold f_X2_relation_39 at hf
  obtain ⟨_, σ2, q1, hf⟩ := bnd_some hf
  refine ag_call (m_X5_advance q1) (fun _ h => (Or.inl h)) ?_
  obtain ⟨_, σ5, q2, hf⟩ := bnd_some hf
  refine ag_call (hA_X2_sum q2) (fun _ h => by
        rcases h with h | h | h
        · exact (Or.inl h)
        · exact (Or.inr (Or.inl h))
        · exact (Or.inr (Or.inr h))) ?_
  obtain ⟨_, σ8, q3, hf⟩ := bnd_some hf
  refine ag_call (m_X1_add q3) (fun _ h => by
        rcases h with h | h
        · exact (Or.inr (Or.inl h))
        · exact (Or.inr (Or.inr h))) ?_
  obtain ⟨_, hf⟩ := gd_some hf
  cases hf
  exact ag_refl
theorem mo_X2_relation {N : Nat} {ρ : Nat → Nat → Nat} {this : Nat} {a1 : Nat} {a2 : Int32} {G_X2_sum : Nat → Nat → Int32 → St → Option (Int32 × St)} {r : Int32} {σr : St} (hA_X2_sum : ∀ {this : Nat} {a1 : Nat} {a2 : Int32} {σ : St} {r : Int32} {σr : St}, G_X2_sum this a1 a2 σ = some (r, σr) → Ag (fun p => p = ρ this 0 ∨ p = ρ a1 0 ∨ p = a1) σ σr) {σ : St} (hf : fo_X2_relation N ρ this a1 a2 G_X2_sum σ = some (r, σr)) : Ag (fun p => p = ρ this 0 ∨ p = ρ a1 0 ∨ p = a1) σ σr := by
  unfold fo_X2_relation at hf
  obtain ⟨_, σ12, q1, hf⟩ := bnd_some hf
  refine ag_call (hA_X2_sum q1) (fun _ h => by
        rcases h with h | h | h
        · exact (Or.inl h)
        · exact (Or.inr (Or.inl h))
        · exact (Or.inr (Or.inr h))) ?_
  rcases ite_some hf with ⟨_, hf⟩ | ⟨_, hf⟩
  · skip
    cases hf
    exact ag_refl
  · skip
    obtain ⟨y15, ey15, hf⟩ := nmd_some hf
    rcases ite_some hf with ⟨_, hf⟩ | ⟨_, hf⟩
    · skip
      exact m_X2_relation_39 hA_X2_sum _ _ hf
    · skip
      rcases ite_some hf with ⟨_, hf⟩ | ⟨_, hf⟩
      · skip
        exact m_X2_relation_39 hA_X2_sum _ _ hf
      · skip
        rcases ite_some hf with ⟨_, hf⟩ | ⟨_, hf⟩
        · skip
          exact m_X2_relation_39 hA_X2_sum _ _ hf
        · skip
          cases hf
          exact ag_refl
theorem m_X2_sum_45 {N : Nat} {ρ : Nat → Nat → Nat} {this : Nat} {a1 : Nat} {a2 : Int32} {G_X2_term : Nat → Nat → Int32 → St → Option (Int32 × St)} {r : Int32} {σr : St} (hA_X2_term : ∀ {this : Nat} {a1 : Nat} {a2 : Int32} {σ : St} {r : Int32} {σr : St}, G_X2_term this a1 a2 σ = some (r, σr) → Ag (fun p => p = ρ this 0 ∨ p = ρ a1 0 ∨ p = a1) σ σr) (rec10 : Int32 → Int32 → St → Option (Int32 × St)) (hrec10 : ∀ (x3 : Int32) (x4 : Int32) (σ : St), rec10 x3 x4 σ = some (r, σr) → Ag (fun p => p = ρ this 0 ∨ p = ρ a1 0 ∨ p = a1) σ σr) (x4 : Int32) (σ : St) (hf : f_X2_sum_45 N ρ this a1 a2 G_X2_term rec10 x4 σ = some (r, σr)) : Ag (fun p => p = ρ this 0 ∨ p = ρ a1 0 ∨ p = a1) σ σr := by
  unfold f_X2_sum_45 at hf
  obtain ⟨y1, ey1, hf⟩ := nmd_some hf
  obtain ⟨_, σ3, q1, hf⟩ := bnd_some hf
  refine ag_call (m_X5_advance q1) (fun _ h => (Or.inl h)) ?_
  obtain ⟨_, σ6, q2, hf⟩ := bnd_some hf
  refine ag_call (hA_X2_term q2) (fun _ h => by
        rcases h with h | h | h
        · exact (Or.inl h)
        · exact (Or.inr (Or.inl h))
        · exact (Or.inr (Or.inr h))) ?_
  obtain ⟨_, σ9, q3, hf⟩ := bnd_some hf
  refine ag_call (m_X1_add q3) (fun _ h => by
        rcases h with h | h
        · exact (Or.inr (Or.inl h))
        · exact (Or.inr (Or.inr h))) ?_
  exact hrec10 _ _ _ hf
theorem m_X2_sum_81 {N : Nat} {ρ : Nat → Nat → Nat} {this : Nat} {a1 : Nat} {a2 : Int32} {G_X2_term : Nat → Nat → Int32 → St → Option (Int32 × St)} {r : Int32} {σr : St} (hA_X2_term : ∀ {this : Nat} {a1 : Nat} {a2 : Int32} {σ : St} {r : Int32} {σr : St}, G_X2_term this a1 a2 σ = some (r, σr) → Ag (fun p => p = ρ this 0 ∨ p = ρ a1 0 ∨ p = a1) σ σr) (x3 : Int32) (σ : St) (hf : f_X2_sum_81 N ρ this a1 a2 G_X2_term x3 σ = some (r, σr)) : Ag (fun p => p = ρ this 0 ∨ p = ρ a1 0 ∨ p = a1) σ σr := by
  unfold f_X2_sum_81 at hf
  obtain ⟨_, hf⟩ := gd_some hf
  cases hf
  exact ag_refl
theorem k_X2_sum_10 {N : Nat} {ρ : Nat → Nat → Nat} {this : Nat} {a1 : Nat} {a2 : Int32} {G_X2_term : Nat → Nat → Int32 → St → Option (Int32 × St)} {r : Int32} {σr : St} (hA_X2_term : ∀ {this : Nat} {a1 : Nat} {a2 : Int32} {σ : St} {r : Int32} {σr : St}, G_X2_term this a1 a2 σ = some (r, σr) → Ag (fun p => p = ρ this 0 ∨ p = ρ a1 0 ∨ p = a1) σ σr) (rec10 : Int32 → Int32 → St → Option (Int32 × St)) (hrec10 : ∀ (x3 : Int32) (x4 : Int32) (σ : St), rec10 x3 x4 σ = some (r, σr) → Ag (fun p => p = ρ this 0 ∨ p = ρ a1 0 ∨ p = a1) σ σr) (x3 : Int32) (x4 : Int32) (σ : St) (hf : b_X2_sum_10 N ρ this a1 a2 G_X2_term rec10 x3 x4 σ = some (r, σr)) : Ag (fun p => p = ρ this 0 ∨ p = ρ a1 0 ∨ p = a1) σ σr := by
  unfold b_X2_sum_10 at hf
  rcases ite_some hf with ⟨_, hf⟩ | ⟨_, hf⟩
  · skip
    exact m_X2_sum_81 hA_X2_term _ _ hf
  · skip
    rcases ite_some hf with ⟨_, hf⟩ | ⟨_, hf⟩
    · skip
      exact m_X2_sum_81 hA_X2_term _ _ hf
    · skip
      rcases ite_some hf with ⟨_, hf⟩ | ⟨_, hf⟩
      · skip
        exact m_X2_sum_45 hA_X2_term rec10 hrec10 _ _ hf
      · skip
        rcases ite_some hf with ⟨_, hf⟩ | ⟨_, hf⟩
        · skip
          exact m_X2_sum_45 hA_X2_term rec10 hrec10 _ _ hf
        · skip
          exact m_X2_sum_81 hA_X2_term _ _ hf
theorem m_X2_sum_10 {N : Nat} {ρ : Nat → Nat → Nat} {this : Nat} {a1 : Nat} {a2 : Int32} {G_X2_term : Nat → Nat → Int32 → St → Option (Int32 × St)} {r : Int32} {σr : St} (hA_X2_term : ∀ {this : Nat} {a1 : Nat} {a2 : Int32} {σ : St} {r : Int32} {σr : St}, G_X2_term this a1 a2 σ = some (r, σr) → Ag (fun p => p = ρ this 0 ∨ p = ρ a1 0 ∨ p = a1) σ σr) : ∀ (n : Nat) (x3 : Int32) (x4 : Int32) (σ : St), f_X2_sum_10 N ρ this a1 a2 G_X2_term n x3 x4 σ = some (r, σr) → Ag (fun p => p = ρ this 0 ∨ p = ρ a1 0 ∨ p = a1) σ σr := by
  intro n
  induction n with
  | zero => intro x3 x4 σ hf; cases hf
  | succ n ih => intro x3 x4 σ hf; exact k_X2_sum_10 hA_X2_term _ ih x3 x4 σ hf
theorem mo_X2_sum {N : Nat} {ρ : Nat → Nat → Nat} {this : Nat} {a1 : Nat} {a2 : Int32} {G_X2_term : Nat → Nat → Int32 → St → Option (Int32 × St)} {r : Int32} {σr : St} (hA_X2_term : ∀ {this : Nat} {a1 : Nat} {a2 : Int32} {σ : St} {r : Int32} {σr : St}, G_X2_term this a1 a2 σ = some (r, σr) → Ag (fun p => p = ρ this 0 ∨ p = ρ a1 0 ∨ p = a1) σ σr) {σ : St} (hf : fo_X2_sum N ρ this a1 a2 G_X2_term σ = some (r, σr)) : Ag (fun p => p = ρ this 0 ∨ p = ρ a1 0 ∨ p = a1) σ σr := by
  unfold fo_X2_sum at hf
  obtain ⟨_, σ17, q1, hf⟩ := bnd_some hf
  refine ag_call (hA_X2_term q1) (fun _ h => by
        rcases h with h | h | h
        · exact (Or.inl h)
        · exact (Or.inr (Or.inl h))
        · exact (Or.inr (Or.inr h))) ?_
  exact m_X2_sum_10 hA_X2_term N _ _ _ hf
theorem m_X2_term_70 {N : Nat} {ρ : Nat → Nat → Nat} {this : Nat} {a1 : Nat} {a2 : Int32} {G_X2_unit : Nat → Nat → Int32 → St → Option (Int32 × St)} {r : Int32} {σr : St} (hA_X2_unit : ∀ {this : Nat} {a1 : Nat} {a2 : Int32} {σ : St} {r : Int32} {σr : St}, G_X2_unit this a1 a2 σ = some (r, σr) → Ag (fun p => p = ρ this 0 ∨ p = ρ a1 0 ∨ p = a1) σ σr) (x3 : Int32) (σ : St) (hf : f_X2_term_70 N ρ this a1 a2 G_X2_unit x3 σ = some (r, σr)) : Ag (fun p => p = ρ this 0 ∨ p = ρ a1 0 ∨ p = a1) σ σr := by
  unfold f_X2_term_70 at hf
  obtain ⟨_, hf⟩ := gd_some hf
  cases hf
  exact ag_refl
theorem k_X2_term_10 {N : Nat} {ρ : Nat → Nat → Nat} {this : Nat} {a1 : Nat} {a2 : Int32} {G_X2_unit : Nat → Nat → Int32 → St → Option (Int32 × St)} {r : Int32} {σr : St} (hA_X2_unit : ∀ {this : Nat} {a1 : Nat} {a2 : Int32} {σ : St} {r : Int32} {σr : St}, G_X2_unit this a1 a2 σ = some (r, σr) → Ag (fun p => p = ρ this 0 ∨ p = ρ a1 0 ∨ p = a1) σ σr) (rec10 : Int32 → Int32 → St → Option (Int32 × St)) (hrec10 : ∀ (x3 : Int32) (x4 : Int32) (σ : St), rec10 x3 x4 σ = some (r, σr) → Ag (fun p => p = ρ this 0 ∨ p = ρ a1 0 ∨ p = a1) σ σr) (x3 : Int32) (x4 : Int32) (σ : St) (hf : b_X2_term_10 N ρ this a1 a2 G_X2_unit rec10 x3 x4 σ = some (r, σr)) : Ag (fun p => p = ρ this 0 ∨ p = ρ a1 0 ∨ p = a1) σ σr := by
  unfold b_X2_term_10 at hf
  rcases ite_some hf with ⟨_, hf⟩ | ⟨_, hf⟩
  · skip
    exact m_X2_term_70 hA_X2_unit _ _ hf
  · skip
    rcases ite_some hf with ⟨_, hf⟩ | ⟨_, hf⟩
    · skip
      exact m_X2_term_70 hA_X2_unit _ _ hf
    · skip
      obtain ⟨_, σ5, q1, hf⟩ := bnd_some hf
      refine ag_call (m_X2_isTimes q1) (fun _ h => h.elim) ?_
      rcases ite_some hf with ⟨_, hf⟩ | ⟨_, hf⟩
      · skip
        exact m_X2_term_70 hA_X2_unit _ _ hf
      · skip
        obtain ⟨y8, ey8, hf⟩ := nmd_some hf
        obtain ⟨_, σ10, q2, hf⟩ := bnd_some hf
        refine ag_call (m_X5_advance q2) (fun _ h => (Or.inl h)) ?_
        obtain ⟨_, σ13, q3, hf⟩ := bnd_some hf
        refine ag_call (hA_X2_unit q3) (fun _ h => by
              rcases h with h | h | h
              · exact (Or.inl h)
              · exact (Or.inr (Or.inl h))
              · exact (Or.inr (Or.inr h))) ?_
        obtain ⟨_, σ16, q4, hf⟩ := bnd_some hf
        refine ag_call (m_X1_add q4) (fun _ h => by
              rcases h with h | h
              · exact (Or.inr (Or.inl h))
              · exact (Or.inr (Or.inr h))) ?_
        exact hrec10 _ _ _ hf
theorem m_X2_term_10 {N : Nat} {ρ : Nat → Nat → Nat} {this : Nat} {a1 : Nat} {a2 : Int32} {G_X2_unit : Nat → Nat → Int32 → St → Option (Int32 × St)} {r : Int32} {σr : St} (hA_X2_unit : ∀ {this : Nat} {a1 : Nat} {a2 : Int32} {σ : St} {r : Int32} {σr : St}, G_X2_unit this a1 a2 σ = some (r, σr) → Ag (fun p => p = ρ this 0 ∨ p = ρ a1 0 ∨ p = a1) σ σr) : ∀ (n : Nat) (x3 : Int32) (x4 : Int32) (σ : St), f_X2_term_10 N ρ this a1 a2 G_X2_unit n x3 x4 σ = some (r, σr) → Ag (fun p => p = ρ this 0 ∨ p = ρ a1 0 ∨ p = a1) σ σr := by
  intro n
  induction n with
  | zero => intro x3 x4 σ hf; cases hf
  | succ n ih => intro x3 x4 σ hf; exact k_X2_term_10 hA_X2_unit _ ih x3 x4 σ hf
theorem mo_X2_term {N : Nat} {ρ : Nat → Nat → Nat} {this : Nat} {a1 : Nat} {a2 : Int32} {G_X2_unit : Nat → Nat → Int32 → St → Option (Int32 × St)} {r : Int32} {σr : St} (hA_X2_unit : ∀ {this : Nat} {a1 : Nat} {a2 : Int32} {σ : St} {r : Int32} {σr : St}, G_X2_unit this a1 a2 σ = some (r, σr) → Ag (fun p => p = ρ this 0 ∨ p = ρ a1 0 ∨ p = a1) σ σr) {σ : St} (hf : fo_X2_term N ρ this a1 a2 G_X2_unit σ = some (r, σr)) : Ag (fun p => p = ρ this 0 ∨ p = ρ a1 0 ∨ p = a1) σ σr := by
  unfold fo_X2_term at hf
  obtain ⟨_, σ19, q1, hf⟩ := bnd_some hf
  refine ag_call (hA_X2_unit q1) (fun _ h => by
        rcases h with h | h | h
        · exact (Or.inl h)
        · exact (Or.inr (Or.inl h))
        · exact (Or.inr (Or.inr h))) ?_
  exact m_X2_term_10 hA_X2_unit N _ _ _ hf
theorem m_X2_unit_87 {N : Nat} {ρ : Nat → Nat → Nat} {this : Nat} {a1 : Nat} {a2 : Int32} {G_X2_either : Nat → Nat → Int32 → St → Option (Int32 × St)} {r : Int32} {σr : St} (hA_X2_either : ∀ {this : Nat} {a1 : Nat} {a2 : Int32} {σ : St} {r : Int32} {σr : St}, G_X2_either this a1 a2 σ = some (r, σr) → Ag (fun p => p = ρ this 0 ∨ p = ρ a1 0 ∨ p = a1) σ σr) (σ : St) (hf : f_X2_unit_87 N ρ this a1 a2 G_X2_either σ = some (r, σr)) : Ag (fun p => p = ρ this 0 ∨ p = ρ a1 0 ∨ p = a1) σ σr := by
  unfold f_X2_unit_87 at hf
  obtain ⟨_, σ2, q1, hf⟩ := bnd_some hf
  refine ag_call (m_X5_refuse q1) (fun _ h => (Or.inl h)) ?_
  obtain ⟨_, hf⟩ := gd_some hf
  cases hf
  exact ag_refl
theorem m_X2_unit_172 {N : Nat} {ρ : Nat → Nat → Nat} {this : Nat} {a1 : Nat} {a2 : Int32} {G_X2_either : Nat → Nat → Int32 → St → Option (Int32 × St)} {r : Int32} {σr : St} (hA_X2_either : ∀ {this : Nat} {a1 : Nat} {a2 : Int32} {σ : St} {r : Int32} {σr : St}, G_X2_either this a1 a2 σ = some (r, σr) → Ag (fun p => p = ρ this 0 ∨ p = ρ a1 0 ∨ p = a1) σ σr) (s0 : Int32) (σ : St) (hf : f_X2_unit_172 N ρ this a1 a2 G_X2_either s0 σ = some (r, σr)) : Ag (fun p => p = ρ this 0 ∨ p = ρ a1 0 ∨ p = a1) σ σr := by
  unfold f_X2_unit_172 at hf
  obtain ⟨_, hf⟩ := gd_some hf
  cases hf
  exact ag_refl
theorem m_X2_unit_167 {N : Nat} {ρ : Nat → Nat → Nat} {this : Nat} {a1 : Nat} {a2 : Int32} {G_X2_either : Nat → Nat → Int32 → St → Option (Int32 × St)} {r : Int32} {σr : St} (hA_X2_either : ∀ {this : Nat} {a1 : Nat} {a2 : Int32} {σ : St} {r : Int32} {σr : St}, G_X2_either this a1 a2 σ = some (r, σr) → Ag (fun p => p = ρ this 0 ∨ p = ρ a1 0 ∨ p = a1) σ σr) (σ : St) (hf : f_X2_unit_167 N ρ this a1 a2 G_X2_either σ = some (r, σr)) : Ag (fun p => p = ρ this 0 ∨ p = ρ a1 0 ∨ p = a1) σ σr := by
  unfold f_X2_unit_167 at hf
  exact m_X2_unit_172 hA_X2_either _ _ hf
theorem m_X2_unit_171 {N : Nat} {ρ : Nat → Nat → Nat} {this : Nat} {a1 : Nat} {a2 : Int32} {G_X2_either : Nat → Nat → Int32 → St → Option (Int32 × St)} {r : Int32} {σr : St} (hA_X2_either : ∀ {this : Nat} {a1 : Nat} {a2 : Int32} {σ : St} {r : Int32} {σr : St}, G_X2_either this a1 a2 σ = some (r, σr) → Ag (fun p => p = ρ this 0 ∨ p = ρ a1 0 ∨ p = a1) σ σr) (σ : St) (hf : f_X2_unit_171 N ρ this a1 a2 G_X2_either σ = some (r, σr)) : Ag (fun p => p = ρ this 0 ∨ p = ρ a1 0 ∨ p = a1) σ σr := by
  unfold f_X2_unit_171 at hf
  exact m_X2_unit_172 hA_X2_either _ _ hf
theorem m_X2_unit_132 {N : Nat} {ρ : Nat → Nat → Nat} {this : Nat} {a1 : Nat} {a2 : Int32} {G_X2_either : Nat → Nat → Int32 → St → Option (Int32 × St)} {r : Int32} {σr : St} (hA_X2_either : ∀ {this : Nat} {a1 : Nat} {a2 : Int32} {σ : St} {r : Int32} {σr : St}, G_X2_either this a1 a2 σ = some (r, σr) → Ag (fun p => p = ρ this 0 ∨ p = ρ a1 0 ∨ p = a1) σ σr) (x5 : Int32) (σ : St) (hf : f_X2_unit_132 N ρ this a1 a2 G_X2_either x5 σ = some (r, σr)) : Ag (fun p => p = ρ this 0 ∨ p = ρ a1 0 ∨ p = a1) σ σr := by
  unfold f_X2_unit_132 at hf
  obtain ⟨_, σ7, q1, hf⟩ := bnd_some hf
  refine ag_call (m_X5_advance q1) (fun _ h => (Or.inl h)) ?_
  rcases ite_some hf with ⟨_, hf⟩ | ⟨_, hf⟩
  · skip
    exact m_X2_unit_167 hA_X2_either _ hf
  · skip
    obtain ⟨_, σ11, q2, hf⟩ := bnd_some hf
    refine ag_call (hA_X2_either q2) (fun _ h => by
          rcases h with h | h | h
          · exact (Or.inl h)
          · exact (Or.inr (Or.inl h))
          · exact (Or.inr (Or.inr h))) ?_
    rcases ite_some hf with ⟨_, hf⟩ | ⟨_, hf⟩
    · skip
      exact m_X2_unit_171 hA_X2_either _ hf
    · skip
      obtain ⟨_, σ15, q3, hf⟩ := bnd_some hf
      refine ag_call (m_X5_pass q3) (fun _ h => (Or.inl h)) ?_
      rcases ite_some hf with ⟨_, hf⟩ | ⟨_, hf⟩
      · skip
        exact m_X2_unit_171 hA_X2_either _ hf
      · skip
        exact m_X2_unit_167 hA_X2_either _ hf
theorem m_X2_unit_129 {N : Nat} {ρ : Nat → Nat → Nat} {this : Nat} {a1 : Nat} {a2 : Int32} {G_X2_either : Nat → Nat → Int32 → St → Option (Int32 × St)} {r : Int32} {σr : St} (hA_X2_either : ∀ {this : Nat} {a1 : Nat} {a2 : Int32} {σ : St} {r : Int32} {σr : St}, G_X2_either this a1 a2 σ = some (r, σr) → Ag (fun p => p = ρ this 0 ∨ p = ρ a1 0 ∨ p = a1) σ σr) (x5 : Int32) (s0 : Int32) (σ : St) (hf : f_X2_unit_129 N ρ this a1 a2 G_X2_either x5 s0 σ = some (r, σr)) : Ag (fun p => p = ρ this 0 ∨ p = ρ a1 0 ∨ p = a1) σ σr := by
  unfold f_X2_unit_129 at hf
  obtain ⟨_, σ19, q1, hf⟩ := bnd_some hf
  refine ag_call (m_X1_add q1) (fun _ h => by
        rcases h with h | h
        · exact (Or.inr (Or.inl h))
        · exact (Or.inr (Or.inr h))) ?_
  exact m_X2_unit_132 hA_X2_either _ _ hf
theorem m_X2_unit_96 {N : Nat} {ρ : Nat → Nat → Nat} {this : Nat} {a1 : Nat} {a2 : Int32} {G_X2_either : Nat → Nat → Int32 → St → Option (Int32 × St)} {r : Int32} {σr : St} (hA_X2_either : ∀ {this : Nat} {a1 : Nat} {a2 : Int32} {σ : St} {r : Int32} {σr : St}, G_X2_either this a1 a2 σ = some (r, σr) → Ag (fun p => p = ρ this 0 ∨ p = ρ a1 0 ∨ p = a1) σ σr) (x3 : Int32) (x4 : Int32) (x5 : Int32) (σ : St) (hf : f_X2_unit_96 N ρ this a1 a2 G_X2_either x3 x4 x5 σ = some (r, σr)) : Ag (fun p => p = ρ this 0 ∨ p = ρ a1 0 ∨ p = a1) σ σr := by
  unfold f_X2_unit_96 at hf
  obtain ⟨σ21, eσ21, hf⟩ := nmd_some hf
  refine ag_I eσ21 (Or.inr (Or.inr rfl)) ?_
  rcases ite_some hf with ⟨_, hf⟩ | ⟨_, hf⟩
  · skip
    rcases ite_some hf with ⟨_, hf⟩ | ⟨_, hf⟩
    · skip
      exact m_X2_unit_129 hA_X2_either _ _ _ hf
    · skip
      exact m_X2_unit_129 hA_X2_either _ _ _ hf
  · skip
    exact m_X2_unit_132 hA_X2_either _ _ hf
theorem m_X2_unit_60 {N : Nat} {ρ : Nat → Nat → Nat} {this : Nat} {a1 : Nat} {a2 : Int32} {G_X2_either : Nat → Nat → Int32 → St → Option (Int32 × St)} {r : Int32} {σr : St} (hA_X2_either : ∀ {this : Nat} {a1 : Nat} {a2 : Int32} {σ : St} {r : Int32} {σr : St}, G_X2_either this a1 a2 σ = some (r, σr) → Ag (fun p => p = ρ this 0 ∨ p = ρ a1 0 ∨ p = a1) σ σr) (x3 : Int32) (x4 : Int32) (x5 : Int32) (s0 : Int32) (σ : St) (hf : f_X2_unit_60 N ρ this a1 a2 G_X2_either x3 x4 x5 s0 σ = some (r, σr)) : Ag (fun p => p = ρ this 0 ∨ p = ρ a1 0 ∨ p = a1) σ σr := by
  unfold f_X2_unit_60 at hf
  rcases ite_some hf with ⟨_, hf⟩ | ⟨_, hf⟩
  · skip
    exact m_X2_unit_87 hA_X2_either _ hf
  · skip
    rcases ite_some hf with ⟨_, hf⟩ | ⟨_, hf⟩
    · skip
      exact m_X2_unit_87 hA_X2_either _ hf
    · skip
      rcases ite_some hf with ⟨_, hf⟩ | ⟨_, hf⟩
      · skip
        exact m_X2_unit_96 hA_X2_either _ _ _ _ hf
      · skip
        rcases ite_some hf with ⟨_, hf⟩ | ⟨_, hf⟩
        · skip
          exact m_X2_unit_96 hA_X2_either _ _ _ _ hf
        · skip
          exact m_X2_unit_87 hA_X2_either _ hf
theorem m_X2_unit_55 {N : Nat} {ρ : Nat → Nat → Nat} {this : Nat} {a1 : Nat} {a2 : Int32} {G_X2_either : Nat → Nat → Int32 → St → Option (Int32 × St)} {r : Int32} {σr : St} (hA_X2_either : ∀ {this : Nat} {a1 : Nat} {a2 : Int32} {σ : St} {r : Int32} {σr : St}, G_X2_either this a1 a2 σ = some (r, σr) → Ag (fun p => p = ρ this 0 ∨ p = ρ a1 0 ∨ p = a1) σ σr) (x3 : Int32) (x4 : Int32) (x5 : Int32) (σ : St) (hf : f_X2_unit_55 N ρ this a1 a2 G_X2_either x3 x4 x5 σ = some (r, σr)) : Ag (fun p => p = ρ this 0 ∨ p = ρ a1 0 ∨ p = a1) σ σr := by
  unfold f_X2_unit_55 at hf
  exact m_X2_unit_60 hA_X2_either _ _ _ _ _ hf
theorem m_X2_unit_37 {N : Nat} {ρ : Nat → Nat → Nat} {this : Nat} {a1 : Nat} {a2 : Int32} {G_X2_either : Nat → Nat → Int32 → St → Option (Int32 × St)} {r : Int32} {σr : St} (hA_X2_either : ∀ {this : Nat} {a1 : Nat} {a2 : Int32} {σ : St} {r : Int32} {σr : St}, G_X2_either this a1 a2 σ = some (r, σr) → Ag (fun p => p = ρ this 0 ∨ p = ρ a1 0 ∨ p = a1) σ σr) (x3 : Int32) (x4 : Int32) (s0 : Int32) (σ : St) (hf : f_X2_unit_37 N ρ this a1 a2 G_X2_either x3 x4 s0 σ = some (r, σr)) : Ag (fun p => p = ρ this 0 ∨ p = ρ a1 0 ∨ p = a1) σ σr := by
  unfold f_X2_unit_37 at hf
  rcases ite_some hf with ⟨_, hf⟩ | ⟨_, hf⟩
  · skip
    rcases ite_some hf with ⟨_, hf⟩ | ⟨_, hf⟩
    · skip
      rcases ite_some hf with ⟨_, hf⟩ | ⟨_, hf⟩
      · skip
        exact m_X2_unit_55 hA_X2_either _ _ _ _ hf
      · skip
        exact m_X2_unit_60 hA_X2_either _ _ _ _ _ hf
    · skip
      exact m_X2_unit_55 hA_X2_either _ _ _ _ hf
  · skip
    exact m_X2_unit_55 hA_X2_either _ _ _ _ hf
theorem m_X2_unit_24 {N : Nat} {ρ : Nat → Nat → Nat} {this : Nat} {a1 : Nat} {a2 : Int32} {G_X2_either : Nat → Nat → Int32 → St → Option (Int32 × St)} {r : Int32} {σr : St} (hA_X2_either : ∀ {this : Nat} {a1 : Nat} {a2 : Int32} {σ : St} {r : Int32} {σr : St}, G_X2_either this a1 a2 σ = some (r, σr) → Ag (fun p => p = ρ this 0 ∨ p = ρ a1 0 ∨ p = a1) σ σr) (x3 : Int32) (s0 : Int32) (σ : St) (hf : f_X2_unit_24 N ρ this a1 a2 G_X2_either x3 s0 σ = some (r, σr)) : Ag (fun p => p = ρ this 0 ∨ p = ρ a1 0 ∨ p = a1) σ σr := by
  unfold f_X2_unit_24 at hf
  rcases ite_some hf with ⟨_, hf⟩ | ⟨_, hf⟩
  · skip
    exact m_X2_unit_37 hA_X2_either _ _ _ _ hf
  · skip
    exact m_X2_unit_37 hA_X2_either _ _ _ _ hf
theorem m_X2_unit_23 {N : Nat} {ρ : Nat → Nat → Nat} {this : Nat} {a1 : Nat} {a2 : Int32} {G_X2_either : Nat → Nat → Int32 → St → Option (Int32 × St)} {r : Int32} {σr : St} (hA_X2_either : ∀ {this : Nat} {a1 : Nat} {a2 : Int32} {σ : St} {r : Int32} {σr : St}, G_X2_either this a1 a2 σ = some (r, σr) → Ag (fun p => p = ρ this 0 ∨ p = ρ a1 0 ∨ p = a1) σ σr) (x3 : Int32) (σ : St) (hf : f_X2_unit_23 N ρ this a1 a2 G_X2_either x3 σ = some (r, σr)) : Ag (fun p => p = ρ this 0 ∨ p = ρ a1 0 ∨ p = a1) σ σr := by
  unfold f_X2_unit_23 at hf
  exact m_X2_unit_24 hA_X2_either _ _ _ hf
theorem mo_X2_unit {N : Nat} {ρ : Nat → Nat → Nat} {this : Nat} {a1 : Nat} {a2 : Int32} {G_X2_either : Nat → Nat → Int32 → St → Option (Int32 × St)} {r : Int32} {σr : St} (hA_X2_either : ∀ {this : Nat} {a1 : Nat} {a2 : Int32} {σ : St} {r : Int32} {σr : St}, G_X2_either this a1 a2 σ = some (r, σr) → Ag (fun p => p = ρ this 0 ∨ p = ρ a1 0 ∨ p = a1) σ σr) {σ : St} (hf : fo_X2_unit N ρ this a1 a2 G_X2_either σ = some (r, σr)) : Ag (fun p => p = ρ this 0 ∨ p = ρ a1 0 ∨ p = a1) σ σr := by
  unfold fo_X2_unit at hf
  obtain ⟨y32, ey32, hf⟩ := nmd_some hf
  rcases ite_some hf with ⟨_, hf⟩ | ⟨_, hf⟩
  · skip
    exact m_X2_unit_23 hA_X2_either _ _ hf
  · skip
    rcases ite_some hf with ⟨_, hf⟩ | ⟨_, hf⟩
    · skip
      exact m_X2_unit_23 hA_X2_either _ _ hf
    · skip
      exact m_X2_unit_24 hA_X2_either _ _ _ hf
theorem mr_X2 {N : Nat} {ρ : Nat → Nat → Nat} : ∀ D : Nat, (∀ {this : Nat} {a1 : Nat} {a2 : Int32} {σ : St} {r : Int32} {σr : St}, fr_X2 N ρ D 0 this a1 a2 σ = some (r, σr) → Ag (fun p => p = ρ this 0 ∨ p = ρ a1 0 ∨ p = a1) σ σr) ∧ (∀ {this : Nat} {a1 : Nat} {a2 : Int32} {σ : St} {r : Int32} {σr : St}, fr_X2 N ρ D 1 this a1 a2 σ = some (r, σr) → Ag (fun p => p = ρ this 0 ∨ p = ρ a1 0 ∨ p = a1) σ σr) ∧ (∀ {this : Nat} {a1 : Nat} {a2 : Int32} {σ : St} {r : Int32} {σr : St}, fr_X2 N ρ D 2 this a1 a2 σ = some (r, σr) → Ag (fun p => p = ρ this 0 ∨ p = ρ a1 0 ∨ p = a1) σ σr) ∧ (∀ {this : Nat} {a1 : Nat} {a2 : Int32} {σ : St} {r : Int32} {σr : St}, fr_X2 N ρ D 3 this a1 a2 σ = some (r, σr) → Ag (fun p => p = ρ this 0 ∨ p = ρ a1 0 ∨ p = a1) σ σr) ∧ (∀ {this : Nat} {a1 : Nat} {a2 : Int32} {σ : St} {r : Int32} {σr : St}, fr_X2 N ρ D 4 this a1 a2 σ = some (r, σr) → Ag (fun p => p = ρ this 0 ∨ p = ρ a1 0 ∨ p = a1) σ σr) ∧ (∀ {this : Nat} {a1 : Nat} {a2 : Int32} {σ : St} {r : Int32} {σr : St}, fr_X2 N ρ D 5 this a1 a2 σ = some (r, σr) → Ag (fun p => p = ρ this 0 ∨ p = ρ a1 0 ∨ p = a1) σ σr) ∧ (∀ {this : Nat} {a1 : Nat} {a2 : Int32} {σ : St} {r : Int32} {σr : St}, fr_X2 N ρ D 6 this a1 a2 σ = some (r, σr) → Ag (fun p => p = ρ this 0 ∨ p = ρ a1 0 ∨ p = a1) σ σr) := by
  intro D
  induction D with
  | zero => exact ⟨fun hf => (by cases hf), fun hf => (by cases hf), fun hf => (by cases hf), fun hf => (by cases hf), fun hf => (by cases hf), fun hf => (by cases hf), fun hf => (by cases hf)⟩
  | succ D ih => exact ⟨fun hf => mo_X2_either (N := N) (ρ := ρ) (G_X2_both := fr_X2 N ρ D 1) (fun h => ih.2.1 h) hf, fun hf => mo_X2_both (N := N) (ρ := ρ) (G_X2_one := fr_X2 N ρ D 2) (fun h => ih.2.2.1 h) hf, fun hf => mo_X2_one (N := N) (ρ := ρ) (G_X2_one := fr_X2 N ρ D 2) (G_X2_relation := fr_X2 N ρ D 3) (fun h => ih.2.2.1 h) (fun h => ih.2.2.2.1 h) hf, fun hf => mo_X2_relation (N := N) (ρ := ρ) (G_X2_sum := fr_X2 N ρ D 4) (fun h => ih.2.2.2.2.1 h) hf, fun hf => mo_X2_sum (N := N) (ρ := ρ) (G_X2_term := fr_X2 N ρ D 5) (fun h => ih.2.2.2.2.2.1 h) hf, fun hf => mo_X2_term (N := N) (ρ := ρ) (G_X2_unit := fr_X2 N ρ D 6) (fun h => ih.2.2.2.2.2.2 h) hf, fun hf => mo_X2_unit (N := N) (ρ := ρ) (G_X2_either := fr_X2 N ρ D 0) (fun h => ih.1 h) hf⟩
theorem m_X2_either {N : Nat} {ρ : Nat → Nat → Nat} {this : Nat} {a1 : Nat} {a2 : Int32} {σ : St} {r : Int32} {σr : St} (hf : f_X2_either N ρ this a1 a2 σ = some (r, σr)) : Ag (fun p => p = ρ this 0 ∨ p = ρ a1 0 ∨ p = a1) σ σr := (mr_X2 100).1 hf

theorem m_X7_formulaLine {N : Nat} {ρ : Nat → Nat → Nat} {this : Nat} {a1 : Nat} {r : Int32} {σr : St} {σ : St} (hf : f_X7_formulaLine N ρ this a1 σ = some (r, σr)) : Ag (fun p => p = ρ this 1 ∨ p = ρ (ρ this 0) 0 ∨ p = ρ a1 0 ∨ p = a1) σ σr := by
  unfold f_X7_formulaLine at hf
  obtain ⟨_, σ2, q1, hf⟩ := bnd_some hf
  refine ag_call (m_X1_isTold q1) (fun _ h => h.elim) ?_
  rcases ite_some hf with ⟨_, hf⟩ | ⟨_, hf⟩
  · skip
    obtain ⟨_, σ6, q2, hf⟩ := bnd_some hf
    refine ag_call (m_X5_advance q2) (fun _ h => (Or.inl h)) ?_
    obtain ⟨_, σ9, q3, hf⟩ := bnd_some hf
    refine ag_call (m_X2_either q3) (fun _ h => by
          rcases h with h | h | h
          · exact (Or.inr (Or.inl h))
          · exact (Or.inr (Or.inr (Or.inl h)))
          · exact (Or.inr (Or.inr (Or.inr h)))) ?_
    obtain ⟨_, hf⟩ := gd_some hf
    cases hf
    exact ag_refl
  · skip
    obtain ⟨_, σ13, q4, hf⟩ := bnd_some hf
    refine ag_call (m_X5_refuse q4) (fun _ h => (Or.inl h)) ?_
    obtain ⟨_, hf⟩ := gd_some hf
    cases hf
    exact ag_refl
theorem m_X7_newName_18 {N : Nat} {ρ : Nat → Nat → Nat} {this : Nat} {a1 n1 : Nat} {a2 : Int32} {r : Int32} {σr : St} (σ : St) (hf : f_X7_newName_18 N ρ this a1 n1 a2 σ = some (r, σr)) : Ag (fun p => p = ρ this 1 ∨ p = a1) σ σr := by
  unfold f_X7_newName_18 at hf
  obtain ⟨_, σ2, q1, hf⟩ := bnd_some hf
  refine ag_call (m_X5_refuse q1) (fun _ h => (Or.inl h)) ?_
  obtain ⟨_, hf⟩ := gd_some hf
  cases hf
  exact ag_refl
theorem k_X7_newName_29 {N : Nat} {ρ : Nat → Nat → Nat} {this : Nat} {a1 n1 : Nat} {a2 : Int32} {r : Int32} {σr : St} (rec29 : Int32 → St → Option (Int32 × St)) (hrec29 : ∀ (x3 : Int32) (σ : St), rec29 x3 σ = some (r, σr) → Ag (fun p => p = ρ this 1 ∨ p = a1) σ σr) (x3 : Int32) (σ : St) (hf : b_X7_newName_29 N ρ this a1 n1 a2 rec29 x3 σ = some (r, σr)) : Ag (fun p => p = ρ this 1 ∨ p = a1) σ σr := by
  unfold b_X7_newName_29 at hf
  rcases ite_some hf with ⟨_, hf⟩ | ⟨_, hf⟩
  · skip
    obtain ⟨_, hf⟩ := gd_some hf
    obtain ⟨σ7, eσ7, hf⟩ := nmd_some hf
    refine ag_J eσ7 (Or.inr rfl) ?_
    obtain ⟨_, σ9, q1, hf⟩ := bnd_some hf
    refine ag_call (m_X5_advance q1) (fun _ h => (Or.inl h)) ?_
    cases hf
    exact ag_refl
  · skip
    obtain ⟨_, hf⟩ := gd_some hf
    rcases ite_some hf with ⟨_, hf⟩ | ⟨_, hf⟩
    · skip
      obtain ⟨_, σ14, q2, hf⟩ := bnd_some hf
      refine ag_call (m_X5_refuse q2) (fun _ h => (Or.inl h)) ?_
      obtain ⟨_, hf⟩ := gd_some hf
      cases hf
      exact ag_refl
    · skip
      exact hrec29 _ _ hf
theorem m_X7_newName_29 {N : Nat} {ρ : Nat → Nat → Nat} {this : Nat} {a1 n1 : Nat} {a2 : Int32} {r : Int32} {σr : St} : ∀ (n : Nat) (x3 : Int32) (σ : St), f_X7_newName_29 N ρ this a1 n1 a2 n x3 σ = some (r, σr) → Ag (fun p => p = ρ this 1 ∨ p = a1) σ σr := by
  intro n
  induction n with
  | zero => intro x3 σ hf; cases hf
  | succ n ih => intro x3 σ hf; exact k_X7_newName_29 _ ih x3 σ hf
theorem m_X7_newName {N : Nat} {ρ : Nat → Nat → Nat} {this : Nat} {a1 n1 : Nat} {a2 : Int32} {r : Int32} {σr : St} {σ : St} (hf : f_X7_newName N ρ this a1 n1 a2 σ = some (r, σr)) : Ag (fun p => p = ρ this 1 ∨ p = a1) σ σr := by
  unfold f_X7_newName at hf
  rcases ite_some hf with ⟨_, hf⟩ | ⟨_, hf⟩
  · skip
    rcases ite_some hf with ⟨_, hf⟩ | ⟨_, hf⟩
    · skip
      exact m_X7_newName_29 N _ _ hf
    · skip
      exact m_X7_newName_18 _ hf
  · skip
    exact m_X7_newName_18 _ hf
theorem m_X7_told_75 {N : Nat} {ρ : Nat → Nat → Nat} {this : Nat} {a1 : Int32} {a2 : Int32} {a3 : Int32} {r : Int32} {σr : St} (σ : St) (hf : f_X7_told_75 N ρ this a1 a2 a3 σ = some (r, σr)) : Ag (fun p => p = ρ this 1 ∨ p = this) σ σr := by
  unfold f_X7_told_75 at hf
  obtain ⟨_, σ2, q1, hf⟩ := bnd_some hf
  refine ag_call (m_X5_refuse q1) (fun _ h => (Or.inl h)) ?_
  obtain ⟨_, hf⟩ := gd_some hf
  cases hf
  exact ag_refl
theorem m_X7_told {N : Nat} {ρ : Nat → Nat → Nat} {this : Nat} {a1 : Int32} {a2 : Int32} {a3 : Int32} {r : Int32} {σr : St} {σ : St} (hf : f_X7_told N ρ this a1 a2 a3 σ = some (r, σr)) : Ag (fun p => p = ρ this 1 ∨ p = this) σ σr := by
  unfold f_X7_told at hf
  rcases ite_some hf with ⟨_, hf⟩ | ⟨_, hf⟩
  · skip
    obtain ⟨_, σ7, q1, hf⟩ := bnd_some hf
    refine ag_call (m_X5_advance q1) (fun _ h => (Or.inl h)) ?_
    rcases ite_some hf with ⟨_, hf⟩ | ⟨_, hf⟩
    · skip
      obtain ⟨σ10, eσ10, hf⟩ := nmd_some hf
      refine ag_I eσ10 (Or.inr rfl) ?_
      rcases ite_some hf with ⟨_, hf⟩ | ⟨_, hf⟩
      · skip
        exact m_X7_told_75 _ hf
      · skip
        rcases ite_some hf with ⟨_, hf⟩ | ⟨_, hf⟩
        · skip
          obtain ⟨_, σ14, q2, hf⟩ := bnd_some hf
          refine ag_call (m_X5_advance q2) (fun _ h => (Or.inl h)) ?_
          cases hf
          exact ag_refl
        · skip
          exact m_X7_told_75 _ hf
    · skip
      obtain ⟨_, σ17, q3, hf⟩ := bnd_some hf
      refine ag_call (m_X5_refuse q3) (fun _ h => (Or.inl h)) ?_
      obtain ⟨_, hf⟩ := gd_some hf
      cases hf
      exact ag_refl
  · skip
    obtain ⟨_, σ21, q4, hf⟩ := bnd_some hf
    refine ag_call (m_X5_refuse q4) (fun _ h => (Or.inl h)) ?_
    obtain ⟨_, hf⟩ := gd_some hf
    cases hf
    exact ag_refl
theorem m_X7_hearthLine_15 {N : Nat} {ρ : Nat → Nat → Nat} {this : Nat} {a1 : Nat} {r : Int32} {σr : St} (σ : St) (hf : f_X7_hearthLine_15 N ρ this a1 σ = some (r, σr)) : Ag (fun p => p = ρ this 1 ∨ p = ρ a1 3 ∨ p = a1 ∨ p = ρ a1 2 ∨ p = this ∨ p = ρ this 2 ∨ p = ρ a1 0 ∨ p = ρ a1 1) σ σr := by
  unfold f_X7_hearthLine_15 at hf
  obtain ⟨_, σ2, q1, hf⟩ := bnd_some hf
  refine ag_call (m_X5_refuse q1) (fun _ h => (Or.inl h)) ?_
  obtain ⟨_, hf⟩ := gd_some hf
  cases hf
  exact ag_refl
theorem m_X7_hearthLine_55 {N : Nat} {ρ : Nat → Nat → Nat} {this : Nat} {a1 : Nat} {r : Int32} {σr : St} (σ : St) (hf : f_X7_hearthLine_55 N ρ this a1 σ = some (r, σr)) : Ag (fun p => p = ρ this 1 ∨ p = ρ a1 3 ∨ p = a1 ∨ p = ρ a1 2 ∨ p = this ∨ p = ρ this 2 ∨ p = ρ a1 0 ∨ p = ρ a1 1) σ σr := by
  unfold f_X7_hearthLine_55 at hf
  cases hf
  exact ag_refl
theorem m_X7_hearthLine_159 {N : Nat} {ρ : Nat → Nat → Nat} {this : Nat} {a1 : Nat} {r : Int32} {σr : St} (x2 : Int32) (σ : St) (hf : f_X7_hearthLine_159 N ρ this a1 x2 σ = some (r, σr)) : Ag (fun p => p = ρ this 1 ∨ p = ρ a1 3 ∨ p = a1 ∨ p = ρ a1 2 ∨ p = this ∨ p = ρ this 2 ∨ p = ρ a1 0 ∨ p = ρ a1 1) σ σr := by
  unfold f_X7_hearthLine_159 at hf
  obtain ⟨_, hf⟩ := gd_some hf
  obtain ⟨σ6, eσ6, hf⟩ := nmd_some hf
  refine ag_I eσ6 (Or.inr (Or.inl rfl)) ?_
  obtain ⟨σ7, eσ7, hf⟩ := nmd_some hf
  refine ag_I eσ7 (Or.inr (Or.inr (Or.inl rfl))) ?_
  cases hf
  exact ag_refl
theorem m_X7_hearthLine_120 {N : Nat} {ρ : Nat → Nat → Nat} {this : Nat} {a1 : Nat} {r : Int32} {σr : St} (x2 : Int32) (σ : St) (hf : f_X7_hearthLine_120 N ρ this a1 x2 σ = some (r, σr)) : Ag (fun p => p = ρ this 1 ∨ p = ρ a1 3 ∨ p = a1 ∨ p = ρ a1 2 ∨ p = this ∨ p = ρ this 2 ∨ p = ρ a1 0 ∨ p = ρ a1 1) σ σr := by
  unfold f_X7_hearthLine_120 at hf
  obtain ⟨_, hf⟩ := gd_some hf
  obtain ⟨σ9, eσ9, hf⟩ := nmd_some hf
  refine ag_I eσ9 (Or.inr (Or.inr (Or.inr (Or.inl rfl)))) ?_
  obtain ⟨σ10, eσ10, hf⟩ := nmd_some hf
  refine ag_I eσ10 (Or.inr (Or.inr (Or.inr (Or.inr (Or.inl rfl))))) ?_
  rcases ite_some hf with ⟨_, hf⟩ | ⟨_, hf⟩
  · skip
    obtain ⟨_, σ13, q1, hf⟩ := bnd_some hf
    refine ag_call (m_X7_told q1) (fun _ h => by
          rcases h with h | h
          · exact (Or.inl h)
          · exact (Or.inr (Or.inr (Or.inr (Or.inr (Or.inl h)))))) ?_
    rcases ite_some hf with ⟨_, hf⟩ | ⟨_, hf⟩
    · skip
      cases hf
      exact ag_refl
    · skip
      exact m_X7_hearthLine_159 _ _ hf
  · skip
    exact m_X7_hearthLine_159 _ _ hf
theorem m_X7_hearthLine {N : Nat} {ρ : Nat → Nat → Nat} {this : Nat} {a1 : Nat} {r : Int32} {σr : St} {σ : St} (hf : f_X7_hearthLine N ρ this a1 σ = some (r, σr)) : Ag (fun p => p = ρ this 1 ∨ p = ρ a1 3 ∨ p = a1 ∨ p = ρ a1 2 ∨ p = this ∨ p = ρ this 2 ∨ p = ρ a1 0 ∨ p = ρ a1 1) σ σr := by
  unfold f_X7_hearthLine at hf
  obtain ⟨y16, ey16, hf⟩ := nmd_some hf
  rcases ite_some hf with ⟨_, hf⟩ | ⟨_, hf⟩
  · skip
    exact m_X7_hearthLine_15 _ hf
  · skip
    rcases ite_some hf with ⟨_, hf⟩ | ⟨_, hf⟩
    · skip
      obtain ⟨_, σ20, q1, hf⟩ := bnd_some hf
      refine ag_call (m_X5_advance q1) (fun _ h => (Or.inl h)) ?_
      obtain ⟨_, σ23, q2, hf⟩ := bnd_some hf
      refine ag_call (m_X7_newName q2) (fun _ h => by
            rcases h with h | h
            · exact (Or.inl h)
            · exact (Or.inr (Or.inr (Or.inr (Or.inr (Or.inr (Or.inl h))))))) ?_
      rcases ite_some hf with ⟨_, hf⟩ | ⟨_, hf⟩
      · skip
        exact m_X7_hearthLine_55 _ hf
      · skip
        obtain ⟨_, σ27, q3, hf⟩ := bnd_some hf
        refine ag_call (m_X7_told q3) (fun _ h => by
              rcases h with h | h
              · exact (Or.inl h)
              · exact (Or.inr (Or.inr (Or.inr (Or.inr (Or.inl h)))))) ?_
        rcases ite_some hf with ⟨_, hf⟩ | ⟨_, hf⟩
        · skip
          exact m_X7_hearthLine_55 _ hf
        · skip
          obtain ⟨_, hf⟩ := gd_some hf
          obtain ⟨σ31, eσ31, hf⟩ := nmd_some hf
          refine ag_I eσ31 (Or.inr (Or.inr (Or.inr (Or.inr (Or.inr (Or.inr (Or.inl rfl))))))) ?_
          obtain ⟨_, σ33, q4, hf⟩ := bnd_some hf
          refine ag_call (m_X7_told q4) (fun _ h => by
                rcases h with h | h
                · exact (Or.inl h)
                · exact (Or.inr (Or.inr (Or.inr (Or.inr (Or.inl h)))))) ?_
          rcases ite_some hf with ⟨_, hf⟩ | ⟨_, hf⟩
          · skip
            cases hf
            exact ag_refl
          · skip
            obtain ⟨_, hf⟩ := gd_some hf
            obtain ⟨σ37, eσ37, hf⟩ := nmd_some hf
            refine ag_I eσ37 (Or.inr (Or.inr (Or.inr (Or.inr (Or.inr (Or.inr (Or.inr rfl))))))) ?_
            obtain ⟨σ38, eσ38, hf⟩ := nmd_some hf
            refine ag_I eσ38 (Or.inr (Or.inr (Or.inr (Or.inr (Or.inl rfl))))) ?_
            rcases ite_some hf with ⟨_, hf⟩ | ⟨_, hf⟩
            · skip
              obtain ⟨_, σ41, q5, hf⟩ := bnd_some hf
              refine ag_call (m_X7_told q5) (fun _ h => by
                    rcases h with h | h
                    · exact (Or.inl h)
                    · exact (Or.inr (Or.inr (Or.inr (Or.inr (Or.inl h)))))) ?_
              rcases ite_some hf with ⟨_, hf⟩ | ⟨_, hf⟩
              · skip
                cases hf
                exact ag_refl
              · skip
                exact m_X7_hearthLine_120 _ _ hf
            · skip
              exact m_X7_hearthLine_120 _ _ hf
    · skip
      exact m_X7_hearthLine_15 _ hf
theorem m_X7_stoolLine_14 {N : Nat} {ρ : Nat → Nat → Nat} {this : Nat} {a1 : Nat} {r : Int32} {σr : St} (σ : St) (hf : f_X7_stoolLine_14 N ρ this a1 σ = some (r, σr)) : Ag (fun p => p = ρ this 1 ∨ p = ρ a1 7 ∨ p = a1 ∨ p = ρ a1 6 ∨ p = this ∨ p = ρ this 3 ∨ p = ρ a1 4 ∨ p = ρ a1 5) σ σr := by
  unfold f_X7_stoolLine_14 at hf
  obtain ⟨_, σ2, q1, hf⟩ := bnd_some hf
  refine ag_call (m_X5_refuse q1) (fun _ h => (Or.inl h)) ?_
  obtain ⟨_, hf⟩ := gd_some hf
  cases hf
  exact ag_refl
theorem m_X7_stoolLine_54 {N : Nat} {ρ : Nat → Nat → Nat} {this : Nat} {a1 : Nat} {r : Int32} {σr : St} (σ : St) (hf : f_X7_stoolLine_54 N ρ this a1 σ = some (r, σr)) : Ag (fun p => p = ρ this 1 ∨ p = ρ a1 7 ∨ p = a1 ∨ p = ρ a1 6 ∨ p = this ∨ p = ρ this 3 ∨ p = ρ a1 4 ∨ p = ρ a1 5) σ σr := by
  unfold f_X7_stoolLine_54 at hf
  cases hf
  exact ag_refl
theorem m_X7_stoolLine_158 {N : Nat} {ρ : Nat → Nat → Nat} {this : Nat} {a1 : Nat} {r : Int32} {σr : St} (x2 : Int32) (σ : St) (hf : f_X7_stoolLine_158 N ρ this a1 x2 σ = some (r, σr)) : Ag (fun p => p = ρ this 1 ∨ p = ρ a1 7 ∨ p = a1 ∨ p = ρ a1 6 ∨ p = this ∨ p = ρ this 3 ∨ p = ρ a1 4 ∨ p = ρ a1 5) σ σr := by
  unfold f_X7_stoolLine_158 at hf
  obtain ⟨_, hf⟩ := gd_some hf
  obtain ⟨σ6, eσ6, hf⟩ := nmd_some hf
  refine ag_I eσ6 (Or.inr (Or.inl rfl)) ?_
  obtain ⟨σ7, eσ7, hf⟩ := nmd_some hf
  refine ag_I eσ7 (Or.inr (Or.inr (Or.inl rfl))) ?_
  cases hf
  exact ag_refl
theorem m_X7_stoolLine_119 {N : Nat} {ρ : Nat → Nat → Nat} {this : Nat} {a1 : Nat} {r : Int32} {σr : St} (x2 : Int32) (σ : St) (hf : f_X7_stoolLine_119 N ρ this a1 x2 σ = some (r, σr)) : Ag (fun p => p = ρ this 1 ∨ p = ρ a1 7 ∨ p = a1 ∨ p = ρ a1 6 ∨ p = this ∨ p = ρ this 3 ∨ p = ρ a1 4 ∨ p = ρ a1 5) σ σr := by
  unfold f_X7_stoolLine_119 at hf
  obtain ⟨_, hf⟩ := gd_some hf
  obtain ⟨σ9, eσ9, hf⟩ := nmd_some hf
  refine ag_I eσ9 (Or.inr (Or.inr (Or.inr (Or.inl rfl)))) ?_
  obtain ⟨σ10, eσ10, hf⟩ := nmd_some hf
  refine ag_I eσ10 (Or.inr (Or.inr (Or.inr (Or.inr (Or.inl rfl))))) ?_
  rcases ite_some hf with ⟨_, hf⟩ | ⟨_, hf⟩
  · skip
    obtain ⟨_, σ13, q1, hf⟩ := bnd_some hf
    refine ag_call (m_X7_told q1) (fun _ h => by
          rcases h with h | h
          · exact (Or.inl h)
          · exact (Or.inr (Or.inr (Or.inr (Or.inr (Or.inl h)))))) ?_
    rcases ite_some hf with ⟨_, hf⟩ | ⟨_, hf⟩
    · skip
      cases hf
      exact ag_refl
    · skip
      exact m_X7_stoolLine_158 _ _ hf
  · skip
    exact m_X7_stoolLine_158 _ _ hf
theorem m_X7_stoolLine {N : Nat} {ρ : Nat → Nat → Nat} {this : Nat} {a1 : Nat} {r : Int32} {σr : St} {σ : St} (hf : f_X7_stoolLine N ρ this a1 σ = some (r, σr)) : Ag (fun p => p = ρ this 1 ∨ p = ρ a1 7 ∨ p = a1 ∨ p = ρ a1 6 ∨ p = this ∨ p = ρ this 3 ∨ p = ρ a1 4 ∨ p = ρ a1 5) σ σr := by
  unfold f_X7_stoolLine at hf
  obtain ⟨y16, ey16, hf⟩ := nmd_some hf
  rcases ite_some hf with ⟨_, hf⟩ | ⟨_, hf⟩
  · skip
    exact m_X7_stoolLine_14 _ hf
  · skip
    rcases ite_some hf with ⟨_, hf⟩ | ⟨_, hf⟩
    · skip
      obtain ⟨_, σ20, q1, hf⟩ := bnd_some hf
      refine ag_call (m_X5_advance q1) (fun _ h => (Or.inl h)) ?_
      obtain ⟨_, σ23, q2, hf⟩ := bnd_some hf
      refine ag_call (m_X7_newName q2) (fun _ h => by
            rcases h with h | h
            · exact (Or.inl h)
            · exact (Or.inr (Or.inr (Or.inr (Or.inr (Or.inr (Or.inl h))))))) ?_
      rcases ite_some hf with ⟨_, hf⟩ | ⟨_, hf⟩
      · skip
        exact m_X7_stoolLine_54 _ hf
      · skip
        obtain ⟨_, σ27, q3, hf⟩ := bnd_some hf
        refine ag_call (m_X7_told q3) (fun _ h => by
              rcases h with h | h
              · exact (Or.inl h)
              · exact (Or.inr (Or.inr (Or.inr (Or.inr (Or.inl h)))))) ?_
        rcases ite_some hf with ⟨_, hf⟩ | ⟨_, hf⟩
        · skip
          exact m_X7_stoolLine_54 _ hf
        · skip
          obtain ⟨_, hf⟩ := gd_some hf
          obtain ⟨σ31, eσ31, hf⟩ := nmd_some hf
          refine ag_I eσ31 (Or.inr (Or.inr (Or.inr (Or.inr (Or.inr (Or.inr (Or.inl rfl))))))) ?_
          obtain ⟨_, σ33, q4, hf⟩ := bnd_some hf
          refine ag_call (m_X7_told q4) (fun _ h => by
                rcases h with h | h
                · exact (Or.inl h)
                · exact (Or.inr (Or.inr (Or.inr (Or.inr (Or.inl h)))))) ?_
          rcases ite_some hf with ⟨_, hf⟩ | ⟨_, hf⟩
          · skip
            cases hf
            exact ag_refl
          · skip
            obtain ⟨_, hf⟩ := gd_some hf
            obtain ⟨σ37, eσ37, hf⟩ := nmd_some hf
            refine ag_I eσ37 (Or.inr (Or.inr (Or.inr (Or.inr (Or.inr (Or.inr (Or.inr rfl))))))) ?_
            obtain ⟨σ38, eσ38, hf⟩ := nmd_some hf
            refine ag_I eσ38 (Or.inr (Or.inr (Or.inr (Or.inr (Or.inl rfl))))) ?_
            rcases ite_some hf with ⟨_, hf⟩ | ⟨_, hf⟩
            · skip
              obtain ⟨_, σ41, q5, hf⟩ := bnd_some hf
              refine ag_call (m_X7_told q5) (fun _ h => by
                    rcases h with h | h
                    · exact (Or.inl h)
                    · exact (Or.inr (Or.inr (Or.inr (Or.inr (Or.inl h)))))) ?_
              rcases ite_some hf with ⟨_, hf⟩ | ⟨_, hf⟩
              · skip
                cases hf
                exact ag_refl
              · skip
                exact m_X7_stoolLine_119 _ _ hf
            · skip
              exact m_X7_stoolLine_119 _ _ hf
    · skip
      exact m_X7_stoolLine_14 _ hf
theorem m_X7_toldOnce {N : Nat} {ρ : Nat → Nat → Nat} {this : Nat} {a1 : Int32} {a2 : Int32} {r : Int32} {σr : St} {σ : St} (hf : f_X7_toldOnce N ρ this a1 a2 σ = some (r, σr)) : Ag (fun p => p = this ∨ p = ρ this 1) σ σr := by
  unfold f_X7_toldOnce at hf
  obtain ⟨y1, ey1, hf⟩ := nmd_some hf
  rcases ite_some hf with ⟨_, hf⟩ | ⟨_, hf⟩
  · skip
    obtain ⟨σ3, eσ3, hf⟩ := nmd_some hf
    refine ag_I eσ3 (Or.inl rfl) ?_
    obtain ⟨_, σ5, q1, hf⟩ := bnd_some hf
    refine ag_call (m_X7_told q1) (fun _ h => by
          rcases h with h | h
          · exact (Or.inr h)
          · exact (Or.inl h)) ?_
    obtain ⟨_, hf⟩ := gd_some hf
    cases hf
    exact ag_refl
  · skip
    obtain ⟨_, σ9, q2, hf⟩ := bnd_some hf
    refine ag_call (m_X5_refuse q2) (fun _ h => (Or.inr h)) ?_
    obtain ⟨_, hf⟩ := gd_some hf
    cases hf
    exact ag_refl
theorem m_X7_line_145 {N : Nat} {ρ : Nat → Nat → Nat} {this : Nat} {a1 : Nat} {r : Int32} {σr : St} (σ : St) (hf : f_X7_line_145 N ρ this a1 σ = some (r, σr)) : Ag (fun p => p = ρ this 1 ∨ p = ρ a1 3 ∨ p = a1 ∨ p = ρ a1 2 ∨ p = this ∨ p = ρ this 2 ∨ p = ρ a1 0 ∨ p = ρ a1 1 ∨ p = ρ a1 7 ∨ p = ρ a1 6 ∨ p = ρ this 3 ∨ p = ρ a1 4 ∨ p = ρ a1 5 ∨ p = ρ (ρ this 0) 0 ∨ p = ρ (ρ a1 8) 0 ∨ p = ρ a1 8 ∨ p = ρ (ρ a1 9) 0 ∨ p = ρ a1 9) σ σr := by
  unfold f_X7_line_145 at hf
  obtain ⟨_, σ2, q1, hf⟩ := bnd_some hf
  refine ag_call (m_X5_refuse q1) (fun _ h => (Or.inl h)) ?_
  obtain ⟨_, hf⟩ := gd_some hf
  cases hf
  exact ag_refl
theorem m_X7_line {N : Nat} {ρ : Nat → Nat → Nat} {this : Nat} {a1 : Nat} {r : Int32} {σr : St} {σ : St} (hf : f_X7_line N ρ this a1 σ = some (r, σr)) : Ag (fun p => p = ρ this 1 ∨ p = ρ a1 3 ∨ p = a1 ∨ p = ρ a1 2 ∨ p = this ∨ p = ρ this 2 ∨ p = ρ a1 0 ∨ p = ρ a1 1 ∨ p = ρ a1 7 ∨ p = ρ a1 6 ∨ p = ρ this 3 ∨ p = ρ a1 4 ∨ p = ρ a1 5 ∨ p = ρ (ρ this 0) 0 ∨ p = ρ (ρ a1 8) 0 ∨ p = ρ a1 8 ∨ p = ρ (ρ a1 9) 0 ∨ p = ρ a1 9) σ σr := by
  unfold f_X7_line at hf
  rcases ite_some hf with ⟨_, hf⟩ | ⟨_, hf⟩
  · skip
    obtain ⟨_, σ7, q1, hf⟩ := bnd_some hf
    refine ag_call (m_X7_hearthLine q1) (fun _ h => by
          rcases h with h | h | h | h | h | h | h | h
          · exact (Or.inl h)
          · exact (Or.inr (Or.inl h))
          · exact (Or.inr (Or.inr (Or.inl h)))
          · exact (Or.inr (Or.inr (Or.inr (Or.inl h))))
          · exact (Or.inr (Or.inr (Or.inr (Or.inr (Or.inl h)))))
          · exact (Or.inr (Or.inr (Or.inr (Or.inr (Or.inr (Or.inl h))))))
          · exact (Or.inr (Or.inr (Or.inr (Or.inr (Or.inr (Or.inr (Or.inl h)))))))
          · exact (Or.inr (Or.inr (Or.inr (Or.inr (Or.inr (Or.inr (Or.inr (Or.inl h))))))))) ?_
    obtain ⟨_, hf⟩ := gd_some hf
    cases hf
    exact ag_refl
  · skip
    rcases ite_some hf with ⟨_, hf⟩ | ⟨_, hf⟩
    · skip
      exact m_X7_line_145 _ hf
    · skip
      rcases ite_some hf with ⟨_, hf⟩ | ⟨_, hf⟩
      · skip
        exact m_X7_line_145 _ hf
      · skip
        rcases ite_some hf with ⟨_, hf⟩ | ⟨_, hf⟩
        · skip
          obtain ⟨_, σ14, q2, hf⟩ := bnd_some hf
          refine ag_call (m_X7_stoolLine q2) (fun _ h => by
                rcases h with h | h | h | h | h | h | h | h
                · exact (Or.inl h)
                · exact (Or.inr (Or.inr (Or.inr (Or.inr (Or.inr (Or.inr (Or.inr (Or.inr (Or.inl h)))))))))
                · exact (Or.inr (Or.inr (Or.inl h)))
                · exact (Or.inr (Or.inr (Or.inr (Or.inr (Or.inr (Or.inr (Or.inr (Or.inr (Or.inr (Or.inl h))))))))))
                · exact (Or.inr (Or.inr (Or.inr (Or.inr (Or.inl h)))))
                · exact (Or.inr (Or.inr (Or.inr (Or.inr (Or.inr (Or.inr (Or.inr (Or.inr (Or.inr (Or.inr (Or.inl h)))))))))))
                · exact (Or.inr (Or.inr (Or.inr (Or.inr (Or.inr (Or.inr (Or.inr (Or.inr (Or.inr (Or.inr (Or.inr (Or.inl h))))))))))))
                · exact (Or.inr (Or.inr (Or.inr (Or.inr (Or.inr (Or.inr (Or.inr (Or.inr (Or.inr (Or.inr (Or.inr (Or.inr (Or.inl h)))))))))))))) ?_
          obtain ⟨_, hf⟩ := gd_some hf
          cases hf
          exact ag_refl
        · skip
          rcases ite_some hf with ⟨_, hf⟩ | ⟨_, hf⟩
          · skip
            exact m_X7_line_145 _ hf
          · skip
            rcases ite_some hf with ⟨_, hf⟩ | ⟨_, hf⟩
            · skip
              obtain ⟨_, σ20, q3, hf⟩ := bnd_some hf
              refine ag_call (m_X7_formulaLine q3) (fun _ h => by
                    rcases h with h | h | h | h
                    · exact (Or.inl h)
                    · exact (Or.inr (Or.inr (Or.inr (Or.inr (Or.inr (Or.inr (Or.inr (Or.inr (Or.inr (Or.inr (Or.inr (Or.inr (Or.inr (Or.inl h))))))))))))))
                    · exact (Or.inr (Or.inr (Or.inr (Or.inr (Or.inr (Or.inr (Or.inr (Or.inr (Or.inr (Or.inr (Or.inr (Or.inr (Or.inr (Or.inr (Or.inl h)))))))))))))))
                    · exact (Or.inr (Or.inr (Or.inr (Or.inr (Or.inr (Or.inr (Or.inr (Or.inr (Or.inr (Or.inr (Or.inr (Or.inr (Or.inr (Or.inr (Or.inr (Or.inl h))))))))))))))))) ?_
              obtain ⟨_, hf⟩ := gd_some hf
              cases hf
              exact ag_refl
            · skip
              rcases ite_some hf with ⟨_, hf⟩ | ⟨_, hf⟩
              · skip
                obtain ⟨_, σ25, q4, hf⟩ := bnd_some hf
                refine ag_call (m_X7_formulaLine q4) (fun _ h => by
                      rcases h with h | h | h | h
                      · exact (Or.inl h)
                      · exact (Or.inr (Or.inr (Or.inr (Or.inr (Or.inr (Or.inr (Or.inr (Or.inr (Or.inr (Or.inr (Or.inr (Or.inr (Or.inr (Or.inl h))))))))))))))
                      · exact (Or.inr (Or.inr (Or.inr (Or.inr (Or.inr (Or.inr (Or.inr (Or.inr (Or.inr (Or.inr (Or.inr (Or.inr (Or.inr (Or.inr (Or.inr (Or.inr (Or.inl h)))))))))))))))))
                      · exact (Or.inr (Or.inr (Or.inr (Or.inr (Or.inr (Or.inr (Or.inr (Or.inr (Or.inr (Or.inr (Or.inr (Or.inr (Or.inr (Or.inr (Or.inr (Or.inr (Or.inr h)))))))))))))))))) ?_
                obtain ⟨_, hf⟩ := gd_some hf
                cases hf
                exact ag_refl
              · skip
                rcases ite_some hf with ⟨_, hf⟩ | ⟨_, hf⟩
                · skip
                  obtain ⟨_, σ30, q5, hf⟩ := bnd_some hf
                  refine ag_call (m_X7_toldOnce q5) (fun _ h => by
                        rcases h with h | h
                        · exact (Or.inr (Or.inr (Or.inr (Or.inr (Or.inl h)))))
                        · exact (Or.inl h)) ?_
                  obtain ⟨σ32, eσ32, hf⟩ := nmd_some hf
                  refine ag_I eσ32 (Or.inr (Or.inr (Or.inl rfl))) ?_
                  obtain ⟨_, hf⟩ := gd_some hf
                  cases hf
                  exact ag_refl
                · skip
                  rcases ite_some hf with ⟨_, hf⟩ | ⟨_, hf⟩
                  · skip
                    obtain ⟨_, σ36, q6, hf⟩ := bnd_some hf
                    refine ag_call (m_X7_toldOnce q6) (fun _ h => by
                          rcases h with h | h
                          · exact (Or.inr (Or.inr (Or.inr (Or.inr (Or.inl h)))))
                          · exact (Or.inl h)) ?_
                    obtain ⟨σ38, eσ38, hf⟩ := nmd_some hf
                    refine ag_I eσ38 (Or.inr (Or.inr (Or.inl rfl))) ?_
                    obtain ⟨_, hf⟩ := gd_some hf
                    cases hf
                    exact ag_refl
                  · skip
                    rcases ite_some hf with ⟨_, hf⟩ | ⟨_, hf⟩
                    · skip
                      obtain ⟨_, σ42, q7, hf⟩ := bnd_some hf
                      refine ag_call (m_X7_toldOnce q7) (fun _ h => by
                            rcases h with h | h
                            · exact (Or.inr (Or.inr (Or.inr (Or.inr (Or.inl h)))))
                            · exact (Or.inl h)) ?_
                      obtain ⟨σ44, eσ44, hf⟩ := nmd_some hf
                      refine ag_I eσ44 (Or.inr (Or.inr (Or.inl rfl))) ?_
                      obtain ⟨_, hf⟩ := gd_some hf
                      cases hf
                      exact ag_refl
                    · skip
                      exact m_X7_line_145 _ hf
theorem m_X7_readInto_68 {N : Nat} {ρ : Nat → Nat → Nat} {this : Nat} {a1 : Nat} {r : Int32} {σr : St} (rec20 : Int32 → Int32 → St → Option (Int32 × St)) (hrec20 : ∀ (x2 : Int32) (x3 : Int32) (σ : St), rec20 x2 x3 σ = some (r, σr) → Ag (fun p => p = ρ this 1 ∨ p = ρ a1 3 ∨ p = a1 ∨ p = ρ a1 2 ∨ p = this ∨ p = ρ this 2 ∨ p = ρ a1 0 ∨ p = ρ a1 1 ∨ p = ρ a1 7 ∨ p = ρ a1 6 ∨ p = ρ this 3 ∨ p = ρ a1 4 ∨ p = ρ a1 5 ∨ p = ρ (ρ this 0) 0 ∨ p = ρ (ρ a1 8) 0 ∨ p = ρ a1 8 ∨ p = ρ (ρ a1 9) 0 ∨ p = ρ a1 9) σ σr) (x3 : Int32) (s0 : Int32) (σ : St) (hf : f_X7_readInto_68 N ρ this a1 rec20 x3 s0 σ = some (r, σr)) : Ag (fun p => p = ρ this 1 ∨ p = ρ a1 3 ∨ p = a1 ∨ p = ρ a1 2 ∨ p = this ∨ p = ρ this 2 ∨ p = ρ a1 0 ∨ p = ρ a1 1 ∨ p = ρ a1 7 ∨ p = ρ a1 6 ∨ p = ρ this 3 ∨ p = ρ a1 4 ∨ p = ρ a1 5 ∨ p = ρ (ρ this 0) 0 ∨ p = ρ (ρ a1 8) 0 ∨ p = ρ a1 8 ∨ p = ρ (ρ a1 9) 0 ∨ p = ρ a1 9) σ σr := by
  unfold f_X7_readInto_68 at hf
  exact hrec20 _ _ _ hf
theorem m_X7_readInto_67 {N : Nat} {ρ : Nat → Nat → Nat} {this : Nat} {a1 : Nat} {r : Int32} {σr : St} (rec20 : Int32 → Int32 → St → Option (Int32 × St)) (hrec20 : ∀ (x2 : Int32) (x3 : Int32) (σ : St), rec20 x2 x3 σ = some (r, σr) → Ag (fun p => p = ρ this 1 ∨ p = ρ a1 3 ∨ p = a1 ∨ p = ρ a1 2 ∨ p = this ∨ p = ρ this 2 ∨ p = ρ a1 0 ∨ p = ρ a1 1 ∨ p = ρ a1 7 ∨ p = ρ a1 6 ∨ p = ρ this 3 ∨ p = ρ a1 4 ∨ p = ρ a1 5 ∨ p = ρ (ρ this 0) 0 ∨ p = ρ (ρ a1 8) 0 ∨ p = ρ a1 8 ∨ p = ρ (ρ a1 9) 0 ∨ p = ρ a1 9) σ σr) (x3 : Int32) (σ : St) (hf : f_X7_readInto_67 N ρ this a1 rec20 x3 σ = some (r, σr)) : Ag (fun p => p = ρ this 1 ∨ p = ρ a1 3 ∨ p = a1 ∨ p = ρ a1 2 ∨ p = this ∨ p = ρ this 2 ∨ p = ρ a1 0 ∨ p = ρ a1 1 ∨ p = ρ a1 7 ∨ p = ρ a1 6 ∨ p = ρ this 3 ∨ p = ρ a1 4 ∨ p = ρ a1 5 ∨ p = ρ (ρ this 0) 0 ∨ p = ρ (ρ a1 8) 0 ∨ p = ρ a1 8 ∨ p = ρ (ρ a1 9) 0 ∨ p = ρ a1 9) σ σr := by
  unfold f_X7_readInto_67 at hf
  exact m_X7_readInto_68 rec20 hrec20 _ _ _ hf
theorem m_X7_readInto_75 {N : Nat} {ρ : Nat → Nat → Nat} {this : Nat} {a1 : Nat} {r : Int32} {σr : St} (x2 : Int32) (σ : St) (hf : f_X7_readInto_75 N ρ this a1 x2 σ = some (r, σr)) : Ag (fun p => p = ρ this 1 ∨ p = ρ a1 3 ∨ p = a1 ∨ p = ρ a1 2 ∨ p = this ∨ p = ρ this 2 ∨ p = ρ a1 0 ∨ p = ρ a1 1 ∨ p = ρ a1 7 ∨ p = ρ a1 6 ∨ p = ρ this 3 ∨ p = ρ a1 4 ∨ p = ρ a1 5 ∨ p = ρ (ρ this 0) 0 ∨ p = ρ (ρ a1 8) 0 ∨ p = ρ a1 8 ∨ p = ρ (ρ a1 9) 0 ∨ p = ρ a1 9) σ σr := by
  unfold f_X7_readInto_75 at hf
  obtain ⟨_, hf⟩ := gd_some hf
  cases hf
  exact ag_refl
theorem k_X7_readInto_20 {N : Nat} {ρ : Nat → Nat → Nat} {this : Nat} {a1 : Nat} {r : Int32} {σr : St} (rec20 : Int32 → Int32 → St → Option (Int32 × St)) (hrec20 : ∀ (x2 : Int32) (x3 : Int32) (σ : St), rec20 x2 x3 σ = some (r, σr) → Ag (fun p => p = ρ this 1 ∨ p = ρ a1 3 ∨ p = a1 ∨ p = ρ a1 2 ∨ p = this ∨ p = ρ this 2 ∨ p = ρ a1 0 ∨ p = ρ a1 1 ∨ p = ρ a1 7 ∨ p = ρ a1 6 ∨ p = ρ this 3 ∨ p = ρ a1 4 ∨ p = ρ a1 5 ∨ p = ρ (ρ this 0) 0 ∨ p = ρ (ρ a1 8) 0 ∨ p = ρ a1 8 ∨ p = ρ (ρ a1 9) 0 ∨ p = ρ a1 9) σ σr) (x2 : Int32) (x3 : Int32) (σ : St) (hf : b_X7_readInto_20 N ρ this a1 rec20 x2 x3 σ = some (r, σr)) : Ag (fun p => p = ρ this 1 ∨ p = ρ a1 3 ∨ p = a1 ∨ p = ρ a1 2 ∨ p = this ∨ p = ρ this 2 ∨ p = ρ a1 0 ∨ p = ρ a1 1 ∨ p = ρ a1 7 ∨ p = ρ a1 6 ∨ p = ρ this 3 ∨ p = ρ a1 4 ∨ p = ρ a1 5 ∨ p = ρ (ρ this 0) 0 ∨ p = ρ (ρ a1 8) 0 ∨ p = ρ a1 8 ∨ p = ρ (ρ a1 9) 0 ∨ p = ρ a1 9) σ σr := by
  unfold b_X7_readInto_20 at hf
  rcases ite_some hf with ⟨_, hf⟩ | ⟨_, hf⟩
  · skip
    exact m_X7_readInto_75 _ _ hf
  · skip
    rcases ite_some hf with ⟨_, hf⟩ | ⟨_, hf⟩
    · skip
      exact m_X7_readInto_75 _ _ hf
    · skip
      rcases ite_some hf with ⟨_, hf⟩ | ⟨_, hf⟩
      · skip
        exact m_X7_readInto_75 _ _ hf
      · skip
        obtain ⟨_, σ6, q1, hf⟩ := bnd_some hf
        refine ag_call (m_X7_line q1) (fun _ h => by
              rcases h with h | h | h | h | h | h | h | h | h | h | h | h | h | h | h | h | h | h
              · exact (Or.inl h)
              · exact (Or.inr (Or.inl h))
              · exact (Or.inr (Or.inr (Or.inl h)))
              · exact (Or.inr (Or.inr (Or.inr (Or.inl h))))
              · exact (Or.inr (Or.inr (Or.inr (Or.inr (Or.inl h)))))
              · exact (Or.inr (Or.inr (Or.inr (Or.inr (Or.inr (Or.inl h))))))
              · exact (Or.inr (Or.inr (Or.inr (Or.inr (Or.inr (Or.inr (Or.inl h)))))))
              · exact (Or.inr (Or.inr (Or.inr (Or.inr (Or.inr (Or.inr (Or.inr (Or.inl h))))))))
              · exact (Or.inr (Or.inr (Or.inr (Or.inr (Or.inr (Or.inr (Or.inr (Or.inr (Or.inl h)))))))))
              · exact (Or.inr (Or.inr (Or.inr (Or.inr (Or.inr (Or.inr (Or.inr (Or.inr (Or.inr (Or.inl h))))))))))
              · exact (Or.inr (Or.inr (Or.inr (Or.inr (Or.inr (Or.inr (Or.inr (Or.inr (Or.inr (Or.inr (Or.inl h)))))))))))
              · exact (Or.inr (Or.inr (Or.inr (Or.inr (Or.inr (Or.inr (Or.inr (Or.inr (Or.inr (Or.inr (Or.inr (Or.inl h))))))))))))
              · exact (Or.inr (Or.inr (Or.inr (Or.inr (Or.inr (Or.inr (Or.inr (Or.inr (Or.inr (Or.inr (Or.inr (Or.inr (Or.inl h)))))))))))))
              · exact (Or.inr (Or.inr (Or.inr (Or.inr (Or.inr (Or.inr (Or.inr (Or.inr (Or.inr (Or.inr (Or.inr (Or.inr (Or.inr (Or.inl h))))))))))))))
              · exact (Or.inr (Or.inr (Or.inr (Or.inr (Or.inr (Or.inr (Or.inr (Or.inr (Or.inr (Or.inr (Or.inr (Or.inr (Or.inr (Or.inr (Or.inl h)))))))))))))))
              · exact (Or.inr (Or.inr (Or.inr (Or.inr (Or.inr (Or.inr (Or.inr (Or.inr (Or.inr (Or.inr (Or.inr (Or.inr (Or.inr (Or.inr (Or.inr (Or.inl h))))))))))))))))
              · exact (Or.inr (Or.inr (Or.inr (Or.inr (Or.inr (Or.inr (Or.inr (Or.inr (Or.inr (Or.inr (Or.inr (Or.inr (Or.inr (Or.inr (Or.inr (Or.inr (Or.inl h)))))))))))))))))
              · exact (Or.inr (Or.inr (Or.inr (Or.inr (Or.inr (Or.inr (Or.inr (Or.inr (Or.inr (Or.inr (Or.inr (Or.inr (Or.inr (Or.inr (Or.inr (Or.inr (Or.inr h)))))))))))))))))) ?_
        rcases ite_some hf with ⟨_, hf⟩ | ⟨_, hf⟩
        · skip
          exact m_X7_readInto_67 rec20 hrec20 _ _ hf
        · skip
          obtain ⟨_, σ10, q2, hf⟩ := bnd_some hf
          refine ag_call (m_X5_pass q2) (fun _ h => (Or.inl h)) ?_
          rcases ite_some hf with ⟨_, hf⟩ | ⟨_, hf⟩
          · skip
            exact m_X7_readInto_67 rec20 hrec20 _ _ hf
          · skip
            exact m_X7_readInto_68 rec20 hrec20 _ _ _ hf
theorem m_X7_readInto_20 {N : Nat} {ρ : Nat → Nat → Nat} {this : Nat} {a1 : Nat} {r : Int32} {σr : St} : ∀ (n : Nat) (x2 : Int32) (x3 : Int32) (σ : St), f_X7_readInto_20 N ρ this a1 n x2 x3 σ = some (r, σr) → Ag (fun p => p = ρ this 1 ∨ p = ρ a1 3 ∨ p = a1 ∨ p = ρ a1 2 ∨ p = this ∨ p = ρ this 2 ∨ p = ρ a1 0 ∨ p = ρ a1 1 ∨ p = ρ a1 7 ∨ p = ρ a1 6 ∨ p = ρ this 3 ∨ p = ρ a1 4 ∨ p = ρ a1 5 ∨ p = ρ (ρ this 0) 0 ∨ p = ρ (ρ a1 8) 0 ∨ p = ρ a1 8 ∨ p = ρ (ρ a1 9) 0 ∨ p = ρ a1 9) σ σr := by
  intro n
  induction n with
  | zero => intro x2 x3 σ hf; cases hf
  | succ n ih => intro x2 x3 σ hf; exact k_X7_readInto_20 _ ih x2 x3 σ hf
theorem m_X7_readInto {N : Nat} {ρ : Nat → Nat → Nat} {this : Nat} {a1 : Nat} {r : Int32} {σr : St} {σ : St} (hf : f_X7_readInto N ρ this a1 σ = some (r, σr)) : Ag (fun p => p = ρ this 1 ∨ p = ρ a1 3 ∨ p = a1 ∨ p = ρ a1 2 ∨ p = this ∨ p = ρ this 2 ∨ p = ρ a1 0 ∨ p = ρ a1 1 ∨ p = ρ a1 7 ∨ p = ρ a1 6 ∨ p = ρ this 3 ∨ p = ρ a1 4 ∨ p = ρ a1 5 ∨ p = ρ (ρ this 0) 0 ∨ p = ρ (ρ a1 8) 0 ∨ p = ρ a1 8 ∨ p = ρ (ρ a1 9) 0 ∨ p = ρ a1 9) σ σr := by
  unfold f_X7_readInto at hf
  obtain ⟨_, σ14, q1, hf⟩ := bnd_some hf
  refine ag_call (m_X0_clear q1) (fun _ h => by
        rcases h with h | h | h
        · exact (Or.inr (Or.inr (Or.inl h)))
        · exact (Or.inr (Or.inr (Or.inr (Or.inr (Or.inr (Or.inr (Or.inr (Or.inr (Or.inr (Or.inr (Or.inr (Or.inr (Or.inr (Or.inr (Or.inr (Or.inl h))))))))))))))))
        · exact (Or.inr (Or.inr (Or.inr (Or.inr (Or.inr (Or.inr (Or.inr (Or.inr (Or.inr (Or.inr (Or.inr (Or.inr (Or.inr (Or.inr (Or.inr (Or.inr (Or.inr h)))))))))))))))))) ?_
  obtain ⟨σ16, eσ16, hf⟩ := nmd_some hf
  refine ag_I eσ16 (Or.inr (Or.inr (Or.inr (Or.inr (Or.inl rfl))))) ?_
  obtain ⟨_, σ18, q2, hf⟩ := bnd_some hf
  refine ag_call (m_X5_begin q2) (fun _ h => (Or.inl h)) ?_
  exact m_X7_readInto_20 N _ _ _ hf
theorem m_X11_feed {N : Nat} {ρ : Nat → Nat → Nat} {this : Nat} {a1 : Int32} {a2 : Int32} {a3 : Int32} {a4 : Int32} {a5 : Int32} {r : Int32} {σr : St} {σ : St} (hf : f_X11_feed N ρ this a1 a2 a3 a4 a5 σ = some (r, σr)) : Ag (fun p => p = ρ (ρ this 0) 0 ∨ p = ρ this 0) σ σr := by
  unfold f_X11_feed at hf
  obtain ⟨_, σ2, q1, hf⟩ := bnd_some hf
  refine ag_call (m_X10_hasRoomFor q1) (fun _ h => h.elim) ?_
  rcases ite_some hf with ⟨_, hf⟩ | ⟨_, hf⟩
  · skip
    cases hf
    exact ag_refl
  · skip
    obtain ⟨_, σ6, q2, hf⟩ := bnd_some hf
    refine ag_call (m_X10_put q2) (fun _ h => by
          rcases h with h | h
          · exact (Or.inl h)
          · exact (Or.inr h)) ?_
    obtain ⟨_, σ9, q3, hf⟩ := bnd_some hf
    refine ag_call (m_X10_put q3) (fun _ h => by
          rcases h with h | h
          · exact (Or.inl h)
          · exact (Or.inr h)) ?_
    obtain ⟨_, σ12, q4, hf⟩ := bnd_some hf
    refine ag_call (m_X10_put q4) (fun _ h => by
          rcases h with h | h
          · exact (Or.inl h)
          · exact (Or.inr h)) ?_
    obtain ⟨_, σ15, q5, hf⟩ := bnd_some hf
    refine ag_call (m_X10_put q5) (fun _ h => by
          rcases h with h | h
          · exact (Or.inl h)
          · exact (Or.inr h)) ?_
    obtain ⟨_, σ18, q6, hf⟩ := bnd_some hf
    refine ag_call (m_X10_put q6) (fun _ h => by
          rcases h with h | h
          · exact (Or.inl h)
          · exact (Or.inr h)) ?_
    cases hf
    exact ag_refl
theorem m_X11_end_15 {N : Nat} {ρ : Nat → Nat → Nat} {this : Nat} {a1 : Int32} {r : Int32} {σr : St} (σ : St) (hf : f_X11_end_15 N ρ this a1 σ = some (r, σr)) : Ag (fun p => p = ρ this 0) σ σr := by
  unfold f_X11_end_15 at hf
  cases hf
  exact ag_refl
theorem m_X11_end {N : Nat} {ρ : Nat → Nat → Nat} {this : Nat} {a1 : Int32} {r : Int32} {σr : St} {σ : St} (hf : f_X11_end N ρ this a1 σ = some (r, σr)) : Ag (fun p => p = ρ this 0) σ σr := by
  unfold f_X11_end at hf
  rcases ite_some hf with ⟨_, hf⟩ | ⟨_, hf⟩
  · skip
    exact m_X11_end_15 _ hf
  · skip
    rcases ite_some hf with ⟨_, hf⟩ | ⟨_, hf⟩
    · skip
      obtain ⟨σ3, eσ3, hf⟩ := nmd_some hf
      refine ag_I eσ3 rfl ?_
      cases hf
      exact ag_refl
    · skip
      exact m_X11_end_15 _ hf
theorem m_X11_fault {N : Nat} {ρ : Nat → Nat → Nat} {this : Nat} {a1 : Int32} {r : Int32} {σr : St} {σ : St} (hf : f_X11_fault N ρ this a1 σ = some (r, σr)) : Ag (fun p => False) σ σr := by
  unfold f_X11_fault at hf
  rcases ite_some hf with ⟨_, hf⟩ | ⟨_, hf⟩
  · skip
    cases hf
    exact ag_refl
  · skip
    rcases ite_some hf with ⟨_, hf⟩ | ⟨_, hf⟩
    · skip
      cases hf
      exact ag_refl
    · skip
      cases hf
      exact ag_refl
theorem m_X11_hearth_124 {N : Nat} {ρ : Nat → Nat → Nat} {this : Nat} {a1 : Int32} {a2 : Int32} {r : Int32} {σr : St} (s0 : Int32) (σ : St) (hf : f_X11_hearth_124 N ρ this a1 a2 s0 σ = some (r, σr)) : Ag (fun p => False) σ σr := by
  unfold f_X11_hearth_124 at hf
  cases hf
  exact ag_refl
theorem m_X11_hearth {N : Nat} {ρ : Nat → Nat → Nat} {this : Nat} {a1 : Int32} {a2 : Int32} {r : Int32} {σr : St} {σ : St} (hf : f_X11_hearth N ρ this a1 a2 σ = some (r, σr)) : Ag (fun p => False) σ σr := by
  unfold f_X11_hearth at hf
  obtain ⟨_, σ2, q1, hf⟩ := bnd_some hf
  refine ag_call (m_X0_hasHearth q1) (fun _ h => h.elim) ?_
  rcases ite_some hf with ⟨_, hf⟩ | ⟨_, hf⟩
  · skip
    cases hf
    exact ag_refl
  · skip
    rcases ite_some hf with ⟨_, hf⟩ | ⟨_, hf⟩
    · skip
      obtain ⟨_, hf⟩ := gd_some hf
      cases hf
      exact ag_refl
    · skip
      rcases ite_some hf with ⟨_, hf⟩ | ⟨_, hf⟩
      · skip
        obtain ⟨_, hf⟩ := gd_some hf
        cases hf
        exact ag_refl
      · skip
        rcases ite_some hf with ⟨_, hf⟩ | ⟨_, hf⟩
        · skip
          obtain ⟨_, hf⟩ := gd_some hf
          cases hf
          exact ag_refl
        · skip
          rcases ite_some hf with ⟨_, hf⟩ | ⟨_, hf⟩
          · skip
            obtain ⟨_, hf⟩ := gd_some hf
            cases hf
            exact ag_refl
          · skip
            rcases ite_some hf with ⟨_, hf⟩ | ⟨_, hf⟩
            · skip
              obtain ⟨_, σ15, q2, hf⟩ := bnd_some hf
              refine ag_call (m_X9_setAt q2) (fun _ h => h.elim) ?_
              cases hf
              exact ag_refl
            · skip
              rcases ite_some hf with ⟨_, hf⟩ | ⟨_, hf⟩
              · skip
                obtain ⟨_, σ19, q3, hf⟩ := bnd_some hf
                refine ag_call (m_X9_setAt q3) (fun _ h => h.elim) ?_
                obtain ⟨_, σ22, q4, hf⟩ := bnd_some hf
                refine ag_call (m_X0_quarrelIn q4) (fun _ h => h.elim) ?_
                rcases ite_some hf with ⟨_, hf⟩ | ⟨_, hf⟩
                · skip
                  exact m_X11_hearth_124 _ _ hf
                · skip
                  exact m_X11_hearth_124 _ _ hf
              · skip
                cases hf
                exact ag_refl
theorem m_X11_stool_136 {N : Nat} {ρ : Nat → Nat → Nat} {this : Nat} {a1 : Int32} {a2 : Int32} {r : Int32} {σr : St} (s0 : Int32) (σ : St) (hf : f_X11_stool_136 N ρ this a1 a2 s0 σ = some (r, σr)) : Ag (fun p => False) σ σr := by
  unfold f_X11_stool_136 at hf
  cases hf
  exact ag_refl
theorem m_X11_stool {N : Nat} {ρ : Nat → Nat → Nat} {this : Nat} {a1 : Int32} {a2 : Int32} {r : Int32} {σr : St} {σ : St} (hf : f_X11_stool N ρ this a1 a2 σ = some (r, σr)) : Ag (fun p => False) σ σr := by
  unfold f_X11_stool at hf
  obtain ⟨_, σ2, q1, hf⟩ := bnd_some hf
  refine ag_call (m_X0_hasStool q1) (fun _ h => h.elim) ?_
  rcases ite_some hf with ⟨_, hf⟩ | ⟨_, hf⟩
  · skip
    cases hf
    exact ag_refl
  · skip
    rcases ite_some hf with ⟨_, hf⟩ | ⟨_, hf⟩
    · skip
      obtain ⟨_, hf⟩ := gd_some hf
      cases hf
      exact ag_refl
    · skip
      rcases ite_some hf with ⟨_, hf⟩ | ⟨_, hf⟩
      · skip
        obtain ⟨_, hf⟩ := gd_some hf
        cases hf
        exact ag_refl
      · skip
        rcases ite_some hf with ⟨_, hf⟩ | ⟨_, hf⟩
        · skip
          obtain ⟨_, hf⟩ := gd_some hf
          cases hf
          exact ag_refl
        · skip
          rcases ite_some hf with ⟨_, hf⟩ | ⟨_, hf⟩
          · skip
            obtain ⟨_, hf⟩ := gd_some hf
            cases hf
            exact ag_refl
          · skip
            rcases ite_some hf with ⟨_, hf⟩ | ⟨_, hf⟩
            · skip
              obtain ⟨_, hf⟩ := gd_some hf
              cases hf
              exact ag_refl
            · skip
              rcases ite_some hf with ⟨_, hf⟩ | ⟨_, hf⟩
              · skip
                obtain ⟨_, hf⟩ := gd_some hf
                cases hf
                exact ag_refl
              · skip
                rcases ite_some hf with ⟨_, hf⟩ | ⟨_, hf⟩
                · skip
                  obtain ⟨_, σ19, q2, hf⟩ := bnd_some hf
                  refine ag_call (m_X9_isSaved q2) (fun _ h => h.elim) ?_
                  rcases ite_some hf with ⟨_, hf⟩ | ⟨_, hf⟩
                  · skip
                    exact m_X11_stool_136 _ _ hf
                  · skip
                    exact m_X11_stool_136 _ _ hf
                · skip
                  cases hf
                  exact ag_refl
theorem m_X11_isSent_35 {N : Nat} {ρ : Nat → Nat → Nat} {this : Nat} {a1 : Int32} {r : Int32} {σr : St} (s0 : Int32) (σ : St) (hf : f_X11_isSent_35 N ρ this a1 s0 σ = some (r, σr)) : Ag (fun p => False) σ σr := by
  unfold f_X11_isSent_35 at hf
  obtain ⟨_, hf⟩ := gd_some hf
  cases hf
  exact ag_refl
theorem m_X11_isSent_34 {N : Nat} {ρ : Nat → Nat → Nat} {this : Nat} {a1 : Int32} {r : Int32} {σr : St} (σ : St) (hf : f_X11_isSent_34 N ρ this a1 σ = some (r, σr)) : Ag (fun p => False) σ σr := by
  unfold f_X11_isSent_34 at hf
  exact m_X11_isSent_35 _ _ hf
theorem m_X11_isSent {N : Nat} {ρ : Nat → Nat → Nat} {this : Nat} {a1 : Int32} {r : Int32} {σr : St} {σ : St} (hf : f_X11_isSent N ρ this a1 σ = some (r, σr)) : Ag (fun p => False) σ σr := by
  unfold f_X11_isSent at hf
  obtain ⟨_, σ3, q1, hf⟩ := bnd_some hf
  refine ag_call (m_X0_hasStool q1) (fun _ h => h.elim) ?_
  rcases ite_some hf with ⟨_, hf⟩ | ⟨_, hf⟩
  · skip
    exact m_X11_isSent_34 _ hf
  · skip
    obtain ⟨_, hf⟩ := gd_some hf
    obtain ⟨_, σ8, q2, hf⟩ := bnd_some hf
    refine ag_call (m_X0_hasHearth q2) (fun _ h => h.elim) ?_
    rcases ite_some hf with ⟨_, hf⟩ | ⟨_, hf⟩
    · skip
      exact m_X11_isSent_34 _ hf
    · skip
      exact m_X11_isSent_35 _ _ hf
theorem m_X11_load {N : Nat} {ρ : Nat → Nat → Nat} {this : Nat} {a1 : Int32} {r : Int32} {σr : St} {σ : St} (hf : f_X11_load N ρ this a1 σ = some (r, σr)) : Ag (fun p => p = ρ (ρ this 2) 10 ∨ p = ρ (ρ (ρ this 2) 8) 1) σ σr := by
  unfold f_X11_load at hf
  obtain ⟨_, σ2, q1, hf⟩ := bnd_some hf
  refine ag_call (m_X11_isSent q1) (fun _ h => h.elim) ?_
  rcases ite_some hf with ⟨_, hf⟩ | ⟨_, hf⟩
  · skip
    cases hf
    exact ag_refl
  · skip
    obtain ⟨_, hf⟩ := gd_some hf
    obtain ⟨y6, ey6, hf⟩ := nmd_some hf
    obtain ⟨_, σ8, q2, hf⟩ := bnd_some hf
    refine ag_call (m_X9_setAt q2) (fun _ h => h.elim) ?_
    obtain ⟨_, σ11, q3, hf⟩ := bnd_some hf
    refine ag_call (m_J6_bitCount_0f7a4 q3) (fun _ h => h.elim) ?_
    obtain ⟨_, σ14, q4, hf⟩ := bnd_some hf
    refine ag_call (m_X0_loadOf q4) (fun _ h => by
          rcases h with h | h
          · exact (Or.inl h)
          · exact (Or.inr h)) ?_
    cases hf
    exact ag_refl
theorem m_X11_tonight {N : Nat} {ρ : Nat → Nat → Nat} {this : Nat} {a1 : Int32} {r : Int32} {σr : St} {σ : St} (hf : f_X11_tonight N ρ this a1 σ = some (r, σr)) : Ag (fun p => p = ρ (ρ this 2) 10 ∨ p = ρ (ρ (ρ this 2) 8) 1) σ σr := by
  unfold f_X11_tonight at hf
  rcases ite_some hf with ⟨_, hf⟩ | ⟨_, hf⟩
  · skip
    obtain ⟨_, σ3, q1, hf⟩ := bnd_some hf
    refine ag_call (m_X9_counting q1) (fun _ h => by
          rcases h with h | h
          · exact (Or.inl h)
          · exact (Or.inr h)) ?_
    cases hf
    exact ag_refl
  · skip
    rcases ite_some hf with ⟨_, hf⟩ | ⟨_, hf⟩
    · skip
      obtain ⟨_, σ7, q2, hf⟩ := bnd_some hf
      refine ag_call (m_X9_breaking q2) (fun _ h => by
            rcases h with h | h
            · exact (Or.inl h)
            · exact (Or.inr h)) ?_
      cases hf
      exact ag_refl
    · skip
      rcases ite_some hf with ⟨_, hf⟩ | ⟨_, hf⟩
      · skip
        obtain ⟨_, σ11, q3, hf⟩ := bnd_some hf
        refine ag_call (m_X9_quarrelling q3) (fun _ h => h.elim) ?_
        cases hf
        exact ag_refl
      · skip
        cases hf
        exact ag_refl
theorem m_X11_walk_43 {N : Nat} {ρ : Nat → Nat → Nat} {this : Nat} {r : Int32} {σr : St} (rec4 : Int32 → Int32 → St → Option (Int32 × St)) (hrec4 : ∀ (x1 : Int32) (x2 : Int32) (σ : St), rec4 x1 x2 σ = some (r, σr) → Ag (fun p => False) σ σr) (x1 : Int32) (x2 : Int32) (σ : St) (hf : f_X11_walk_43 N ρ this rec4 x1 x2 σ = some (r, σr)) : Ag (fun p => False) σ σr := by
  unfold f_X11_walk_43 at hf
  exact hrec4 _ _ _ hf
theorem k_X11_walk_4 {N : Nat} {ρ : Nat → Nat → Nat} {this : Nat} {r : Int32} {σr : St} (rec4 : Int32 → Int32 → St → Option (Int32 × St)) (hrec4 : ∀ (x1 : Int32) (x2 : Int32) (σ : St), rec4 x1 x2 σ = some (r, σr) → Ag (fun p => False) σ σr) (x1 : Int32) (x2 : Int32) (σ : St) (hf : b_X11_walk_4 N ρ this rec4 x1 x2 σ = some (r, σr)) : Ag (fun p => False) σ σr := by
  unfold b_X11_walk_4 at hf
  rcases ite_some hf with ⟨_, hf⟩ | ⟨_, hf⟩
  · skip
    cases hf
    exact ag_refl
  · skip
    obtain ⟨_, σ3, q1, hf⟩ := bnd_some hf
    refine ag_call (m_X11_isSent q1) (fun _ h => h.elim) ?_
    rcases ite_some hf with ⟨_, hf⟩ | ⟨_, hf⟩
    · skip
      exact m_X11_walk_43 rec4 hrec4 _ _ _ hf
    · skip
      obtain ⟨_, hf⟩ := gd_some hf
      obtain ⟨_, σ8, q2, hf⟩ := bnd_some hf
      refine ag_call (m_X0_wayOf q2) (fun _ h => h.elim) ?_
      obtain ⟨y10, ey10, hf⟩ := nmd_some hf
      exact m_X11_walk_43 rec4 hrec4 _ _ _ hf
theorem m_X11_walk_4 {N : Nat} {ρ : Nat → Nat → Nat} {this : Nat} {r : Int32} {σr : St} : ∀ (n : Nat) (x1 : Int32) (x2 : Int32) (σ : St), f_X11_walk_4 N ρ this n x1 x2 σ = some (r, σr) → Ag (fun p => False) σ σr := by
  intro n
  induction n with
  | zero => intro x1 x2 σ hf; cases hf
  | succ n ih => intro x1 x2 σ hf; exact k_X11_walk_4 _ ih x1 x2 σ hf
theorem m_X11_walk {N : Nat} {ρ : Nat → Nat → Nat} {this : Nat} {r : Int32} {σr : St} {σ : St} (hf : f_X11_walk N ρ this σ = some (r, σr)) : Ag (fun p => False) σ σr := by
  unfold f_X11_walk at hf
  exact m_X11_walk_4 N _ _ _ hf
theorem m_X11_saved {N : Nat} {ρ : Nat → Nat → Nat} {this : Nat} {r : Int32} {σr : St} {σ : St} (hf : f_X11_saved N ρ this σ = some (r, σr)) : Ag (fun p => False) σ σr := by
  unfold f_X11_saved at hf
  obtain ⟨_, σ2, q1, hf⟩ := bnd_some hf
  refine ag_call (m_X9_savedBits q1) (fun _ h => h.elim) ?_
  cases hf
  exact ag_refl
theorem m_X11_about {N : Nat} {ρ : Nat → Nat → Nat} {this : Nat} {a1 : Int32} {r : Int32} {σr : St} {σ : St} (hf : f_X11_about N ρ this a1 σ = some (r, σr)) : Ag (fun p => False) σ σr := by
  unfold f_X11_about at hf
  rcases ite_some hf with ⟨_, hf⟩ | ⟨_, hf⟩
  · skip
    cases hf
    exact ag_refl
  · skip
    rcases ite_some hf with ⟨_, hf⟩ | ⟨_, hf⟩
    · skip
      cases hf
      exact ag_refl
    · skip
      rcases ite_some hf with ⟨_, hf⟩ | ⟨_, hf⟩
      · skip
        cases hf
        exact ag_refl
      · skip
        rcases ite_some hf with ⟨_, hf⟩ | ⟨_, hf⟩
        · skip
          cases hf
          exact ag_refl
        · skip
          rcases ite_some hf with ⟨_, hf⟩ | ⟨_, hf⟩
          · skip
            cases hf
            exact ag_refl
          · skip
            rcases ite_some hf with ⟨_, hf⟩ | ⟨_, hf⟩
            · skip
              cases hf
              exact ag_refl
            · skip
              rcases ite_some hf with ⟨_, hf⟩ | ⟨_, hf⟩
              · skip
                cases hf
                exact ag_refl
              · skip
                rcases ite_some hf with ⟨_, hf⟩ | ⟨_, hf⟩
                · skip
                  cases hf
                  exact ag_refl
                · skip
                  rcases ite_some hf with ⟨_, hf⟩ | ⟨_, hf⟩
                  · skip
                    cases hf
                    exact ag_refl
                  · skip
                    rcases ite_some hf with ⟨_, hf⟩ | ⟨_, hf⟩
                    · skip
                      cases hf
                      exact ag_refl
                    · skip
                      rcases ite_some hf with ⟨_, hf⟩ | ⟨_, hf⟩
                      · skip
                        cases hf
                        exact ag_refl
                      · skip
                        rcases ite_some hf with ⟨_, hf⟩ | ⟨_, hf⟩
                        · skip
                          cases hf
                          exact ag_refl
                        · skip
                          rcases ite_some hf with ⟨_, hf⟩ | ⟨_, hf⟩
                          · skip
                            cases hf
                            exact ag_refl
                          · skip
                            cases hf
                            exact ag_refl
theorem m_X11_hasRoomNow_28 {N : Nat} {ρ : Nat → Nat → Nat} {this : Nat} {a1 : Int32} {r : Int32} {σr : St} (s0 : Int32) (σ : St) (hf : f_X11_hasRoomNow_28 N ρ this a1 s0 σ = some (r, σr)) : Ag (fun p => False) σ σr := by
  unfold f_X11_hasRoomNow_28 at hf
  obtain ⟨_, hf⟩ := gd_some hf
  cases hf
  exact ag_refl
theorem m_X11_hasRoomNow {N : Nat} {ρ : Nat → Nat → Nat} {this : Nat} {a1 : Int32} {r : Int32} {σr : St} {σ : St} (hf : f_X11_hasRoomNow N ρ this a1 σ = some (r, σr)) : Ag (fun p => False) σ σr := by
  unfold f_X11_hasRoomNow at hf
  obtain ⟨_, σ3, q1, hf⟩ := bnd_some hf
  refine ag_call (m_X9_setAt q1) (fun _ h => h.elim) ?_
  obtain ⟨_, σ6, q2, hf⟩ := bnd_some hf
  refine ag_call (m_J6_bitCount_0f7a4 q2) (fun _ h => h.elim) ?_
  obtain ⟨_, hf⟩ := gd_some hf
  rcases ite_some hf with ⟨_, hf⟩ | ⟨_, hf⟩
  · skip
    exact m_X11_hasRoomNow_28 _ _ hf
  · skip
    exact m_X11_hasRoomNow_28 _ _ hf
theorem m_X11_send_22 {N : Nat} {ρ : Nat → Nat → Nat} {this : Nat} {a1 : Int32} {a2 : Int32} {r : Int32} {σr : St} (σ : St) (hf : f_X11_send_22 N ρ this a1 a2 σ = some (r, σr)) : Ag (fun p => p = ρ (ρ this 4) 3 ∨ p = ρ this 6 ∨ p = ρ (ρ this 6) 0) σ σr := by
  unfold f_X11_send_22 at hf
  cases hf
  exact ag_refl
theorem m_X11_send_48 {N : Nat} {ρ : Nat → Nat → Nat} {this : Nat} {a1 : Int32} {a2 : Int32} {r : Int32} {σr : St} (σ : St) (hf : f_X11_send_48 N ρ this a1 a2 σ = some (r, σr)) : Ag (fun p => p = ρ (ρ this 4) 3 ∨ p = ρ this 6 ∨ p = ρ (ρ this 6) 0) σ σr := by
  unfold f_X11_send_48 at hf
  cases hf
  exact ag_refl
theorem m_X11_send {N : Nat} {ρ : Nat → Nat → Nat} {this : Nat} {a1 : Int32} {a2 : Int32} {r : Int32} {σr : St} {σ : St} (hf : f_X11_send N ρ this a1 a2 σ = some (r, σr)) : Ag (fun p => p = ρ (ρ this 4) 3 ∨ p = ρ this 6 ∨ p = ρ (ρ this 6) 0) σ σr := by
  unfold f_X11_send at hf
  obtain ⟨_, σ2, q1, hf⟩ := bnd_some hf
  refine ag_call (m_X0_hasStool q1) (fun _ h => h.elim) ?_
  rcases ite_some hf with ⟨_, hf⟩ | ⟨_, hf⟩
  · skip
    exact m_X11_send_22 _ hf
  · skip
    obtain ⟨_, σ6, q2, hf⟩ := bnd_some hf
    refine ag_call (m_X0_hasHearth q2) (fun _ h => h.elim) ?_
    rcases ite_some hf with ⟨_, hf⟩ | ⟨_, hf⟩
    · skip
      exact m_X11_send_22 _ hf
    · skip
      obtain ⟨_, hf⟩ := gd_some hf
      obtain ⟨y10, ey10, hf⟩ := nmd_some hf
      rcases ite_some hf with ⟨_, hf⟩ | ⟨_, hf⟩
      · skip
        exact m_X11_send_48 _ hf
      · skip
        obtain ⟨_, σ13, q3, hf⟩ := bnd_some hf
        refine ag_call (m_X11_hasRoomNow q3) (fun _ h => h.elim) ?_
        rcases ite_some hf with ⟨_, hf⟩ | ⟨_, hf⟩
        · skip
          exact m_X11_send_48 _ hf
        · skip
          obtain ⟨_, hf⟩ := gd_some hf
          obtain ⟨σ17, eσ17, hf⟩ := nmd_some hf
          refine ag_I eσ17 (Or.inl rfl) ?_
          obtain ⟨_, σ19, q4, hf⟩ := bnd_some hf
          refine ag_call (m_X4_add q4) (fun _ h => by
                rcases h with h | h
                · exact (Or.inr (Or.inl h))
                · exact (Or.inr (Or.inr h))) ?_
          cases hf
          exact ag_refl
theorem m_X11_call {N : Nat} {ρ : Nat → Nat → Nat} {this : Nat} {a1 : Int32} {r : Int32} {σr : St} {σ : St} (hf : f_X11_call N ρ this a1 σ = some (r, σr)) : Ag (fun p => p = ρ (ρ this 4) 3 ∨ p = ρ this 6 ∨ p = ρ (ρ this 6) 0) σ σr := by
  unfold f_X11_call at hf
  obtain ⟨_, σ2, q1, hf⟩ := bnd_some hf
  refine ag_call (m_X11_isSent q1) (fun _ h => h.elim) ?_
  rcases ite_some hf with ⟨_, hf⟩ | ⟨_, hf⟩
  · skip
    cases hf
    exact ag_refl
  · skip
    obtain ⟨_, hf⟩ := gd_some hf
    obtain ⟨y6, ey6, hf⟩ := nmd_some hf
    obtain ⟨_, hf⟩ := gd_some hf
    obtain ⟨σ8, eσ8, hf⟩ := nmd_some hf
    refine ag_I eσ8 (Or.inl rfl) ?_
    obtain ⟨_, σ10, q2, hf⟩ := bnd_some hf
    refine ag_call (m_X4_add q2) (fun _ h => by
          rcases h with h | h
          · exact (Or.inr (Or.inl h))
          · exact (Or.inr (Or.inr h))) ?_
    cases hf
    exact ag_refl
theorem m_X11_evening {N : Nat} {ρ : Nat → Nat → Nat} {this : Nat} {r : Int32} {σr : St} {σ : St} (hf : f_X11_evening N ρ this σ = some (r, σr)) : Ag (fun p => p = ρ this 4 ∨ p = ρ (ρ this 2) 10 ∨ p = ρ (ρ (ρ this 2) 8) 1 ∨ p = ρ (ρ (ρ this 2) 9) 1 ∨ p = ρ (ρ this 4) 2 ∨ p = ρ (ρ this 4) 1 ∨ p = ρ (ρ this 4) 0 ∨ p = ρ this 6 ∨ p = ρ (ρ this 6) 0) σ σr := by
  unfold f_X11_evening at hf
  rcases ite_some hf with ⟨_, hf⟩ | ⟨_, hf⟩
  · skip
    obtain ⟨_, σ3, q1, hf⟩ := bnd_some hf
    refine ag_call (m_X9_drawCold q1) (fun _ h => (Or.inl h)) ?_
    obtain ⟨_, σ6, q2, hf⟩ := bnd_some hf
    refine ag_call (m_X9_passEvening q2) (fun _ h => by
          rcases h with h | h | h | h | h | h | h
          · exact (Or.inl h)
          · exact (Or.inr (Or.inl h))
          · exact (Or.inr (Or.inr (Or.inl h)))
          · exact (Or.inr (Or.inr (Or.inr (Or.inl h))))
          · exact (Or.inr (Or.inr (Or.inr (Or.inr (Or.inl h)))))
          · exact (Or.inr (Or.inr (Or.inr (Or.inr (Or.inr (Or.inl h))))))
          · exact (Or.inr (Or.inr (Or.inr (Or.inr (Or.inr (Or.inr (Or.inl h)))))))) ?_
    obtain ⟨_, σ9, q3, hf⟩ := bnd_some hf
    refine ag_call (m_X4_add q3) (fun _ h => by
          rcases h with h | h
          · exact (Or.inr (Or.inr (Or.inr (Or.inr (Or.inr (Or.inr (Or.inr (Or.inl h))))))))
          · exact (Or.inr (Or.inr (Or.inr (Or.inr (Or.inr (Or.inr (Or.inr (Or.inr h))))))))) ?_
    cases hf
    exact ag_refl
  · skip
    cases hf
    exact ag_refl
theorem m_X11_undo {N : Nat} {ρ : Nat → Nat → Nat} {this : Nat} {r : Int32} {σr : St} {σ : St} (hf : f_X11_undo N ρ this σ = some (r, σr)) : Ag (fun p => p = ρ this 6 ∨ p = ρ (ρ this 4) 0 ∨ p = ρ (ρ this 4) 1 ∨ p = ρ (ρ this 4) 2 ∨ p = ρ (ρ this 4) 3 ∨ p = ρ this 4) σ σr := by
  unfold f_X11_undo at hf
  obtain ⟨_, σ2, q1, hf⟩ := bnd_some hf
  refine ag_call (m_X4_stepBack q1) (fun _ h => by
        rcases h with h | h | h | h | h | h
        · exact (Or.inl h)
        · exact (Or.inr (Or.inl h))
        · exact (Or.inr (Or.inr (Or.inl h)))
        · exact (Or.inr (Or.inr (Or.inr (Or.inl h))))
        · exact (Or.inr (Or.inr (Or.inr (Or.inr (Or.inl h)))))
        · exact (Or.inr (Or.inr (Or.inr (Or.inr (Or.inr h)))))) ?_
  obtain ⟨_, hf⟩ := gd_some hf
  cases hf
  exact ag_refl
theorem m_X11_redo {N : Nat} {ρ : Nat → Nat → Nat} {this : Nat} {r : Int32} {σr : St} {σ : St} (hf : f_X11_redo N ρ this σ = some (r, σr)) : Ag (fun p => p = ρ this 6 ∨ p = ρ (ρ this 4) 0 ∨ p = ρ (ρ this 4) 1 ∨ p = ρ (ρ this 4) 2 ∨ p = ρ (ρ this 4) 3 ∨ p = ρ this 4) σ σr := by
  unfold f_X11_redo at hf
  obtain ⟨_, σ2, q1, hf⟩ := bnd_some hf
  refine ag_call (m_X4_stepOn q1) (fun _ h => by
        rcases h with h | h | h | h | h | h
        · exact (Or.inl h)
        · exact (Or.inr (Or.inl h))
        · exact (Or.inr (Or.inr (Or.inl h)))
        · exact (Or.inr (Or.inr (Or.inr (Or.inl h))))
        · exact (Or.inr (Or.inr (Or.inr (Or.inr (Or.inl h)))))
        · exact (Or.inr (Or.inr (Or.inr (Or.inr (Or.inr h)))))) ?_
  obtain ⟨_, hf⟩ := gd_some hf
  cases hf
  exact ag_refl
theorem m_X11_image_9 {N : Nat} {ρ : Nat → Nat → Nat} {this : Nat} {a1 : Int32} {r : Int32} {σr : St} (σ : St) (hf : f_X11_image_9 N ρ this a1 σ = some (r, σr)) : Ag (fun p => p = ρ this 7 ∨ p = ρ this 8) σ σr := by
  unfold f_X11_image_9 at hf
  cases hf
  exact ag_refl
theorem m_X11_image {N : Nat} {ρ : Nat → Nat → Nat} {this : Nat} {a1 : Int32} {r : Int32} {σr : St} {σ : St} (hf : f_X11_image N ρ this a1 σ = some (r, σr)) : Ag (fun p => p = ρ this 7 ∨ p = ρ this 8) σ σr := by
  unfold f_X11_image at hf
  rcases ite_some hf with ⟨_, hf⟩ | ⟨_, hf⟩
  · skip
    exact m_X11_image_9 _ hf
  · skip
    rcases ite_some hf with ⟨_, hf⟩ | ⟨_, hf⟩
    · skip
      obtain ⟨_, σ4, q1, hf⟩ := bnd_some hf
      refine ag_call (m_X9_keepIn q1) (fun _ h => (Or.inl h)) ?_
      obtain ⟨_, hf⟩ := gd_some hf
      obtain ⟨σ7, eσ7, hf⟩ := nmd_some hf
      refine ag_I eσ7 (Or.inr rfl) ?_
      cases hf
      exact ag_refl
    · skip
      exact m_X11_image_9 _ hf
theorem m_X11_back_18 {N : Nat} {ρ : Nat → Nat → Nat} {this : Nat} {a1 : Int32} {r : Int32} {σr : St} (σ : St) (hf : f_X11_back_18 N ρ this a1 σ = some (r, σr)) : Ag (fun p => p = ρ (ρ this 4) 0 ∨ p = ρ (ρ this 4) 1 ∨ p = ρ (ρ this 4) 2 ∨ p = ρ (ρ this 4) 3 ∨ p = ρ this 4 ∨ p = ρ this 6 ∨ p = ρ (ρ this 6) 0) σ σr := by
  unfold f_X11_back_18 at hf
  cases hf
  exact ag_refl
theorem m_X11_back {N : Nat} {ρ : Nat → Nat → Nat} {this : Nat} {a1 : Int32} {r : Int32} {σr : St} {σ : St} (hf : f_X11_back N ρ this a1 σ = some (r, σr)) : Ag (fun p => p = ρ (ρ this 4) 0 ∨ p = ρ (ρ this 4) 1 ∨ p = ρ (ρ this 4) 2 ∨ p = ρ (ρ this 4) 3 ∨ p = ρ this 4 ∨ p = ρ this 6 ∨ p = ρ (ρ this 6) 0) σ σr := by
  unfold f_X11_back at hf
  rcases ite_some hf with ⟨_, hf⟩ | ⟨_, hf⟩
  · skip
    exact m_X11_back_18 _ hf
  · skip
    rcases ite_some hf with ⟨_, hf⟩ | ⟨_, hf⟩
    · skip
      exact m_X11_back_18 _ hf
    · skip
      obtain ⟨_, hf⟩ := gd_some hf
      rcases ite_some hf with ⟨_, hf⟩ | ⟨_, hf⟩
      · skip
        exact m_X11_back_18 _ hf
      · skip
        obtain ⟨_, σ6, q1, hf⟩ := bnd_some hf
        refine ag_call (m_X9_takeFrom q1) (fun _ h => by
              rcases h with h | h | h | h | h
              · exact (Or.inl h)
              · exact (Or.inr (Or.inl h))
              · exact (Or.inr (Or.inr (Or.inl h)))
              · exact (Or.inr (Or.inr (Or.inr (Or.inl h))))
              · exact (Or.inr (Or.inr (Or.inr (Or.inr (Or.inl h)))))) ?_
        obtain ⟨_, σ9, q2, hf⟩ := bnd_some hf
        refine ag_call (m_X4_begin q2) (fun _ h => by
              rcases h with h | h
              · exact (Or.inr (Or.inr (Or.inr (Or.inr (Or.inr (Or.inl h))))))
              · exact (Or.inr (Or.inr (Or.inr (Or.inr (Or.inr (Or.inr h))))))) ?_
        cases hf
        exact ag_refl
theorem m_X11_layDownSending {N : Nat} {ρ : Nat → Nat → Nat} {this : Nat} {r : Int32} {σr : St} {σ : St} (hf : f_X11_layDownSending N ρ this σ = some (r, σr)) : Ag (fun p => p = this ∨ p = ρ this 13) σ σr := by
  unfold f_X11_layDownSending at hf
  obtain ⟨σ1, eσ1, hf⟩ := nmd_some hf
  refine ag_I eσ1 (Or.inl rfl) ?_
  obtain ⟨_, hf⟩ := gd_some hf
  obtain ⟨σ3, eσ3, hf⟩ := nmd_some hf
  refine ag_C eσ3 (Or.inr rfl) ?_
  cases hf
  exact ag_refl
theorem m_X11_round_9 {N : Nat} {ρ : Nat → Nat → Nat} {this : Nat} {a1 : Int32} {r : Int32} {σr : St} (σ : St) (hf : f_X11_round_9 N ρ this a1 σ = some (r, σr)) : Ag (fun p => p = ρ (ρ this 9) 4 ∨ p = ρ this 9 ∨ p = ρ (ρ this 9) 2 ∨ p = ρ (ρ this 2) 10 ∨ p = ρ (ρ (ρ this 2) 8) 1 ∨ p = ρ (ρ this 9) 3 ∨ p = ρ (ρ this 9) 0 ∨ p = ρ (ρ this 9) 1 ∨ p = this ∨ p = ρ this 13) σ σr := by
  unfold f_X11_round_9 at hf
  cases hf
  exact ag_refl
theorem m_X11_round_53 {N : Nat} {ρ : Nat → Nat → Nat} {this : Nat} {a1 : Int32} {r : Int32} {σr : St} (s0 : Int32) (σ : St) (hf : f_X11_round_53 N ρ this a1 s0 σ = some (r, σr)) : Ag (fun p => p = ρ (ρ this 9) 4 ∨ p = ρ this 9 ∨ p = ρ (ρ this 9) 2 ∨ p = ρ (ρ this 2) 10 ∨ p = ρ (ρ (ρ this 2) 8) 1 ∨ p = ρ (ρ this 9) 3 ∨ p = ρ (ρ this 9) 0 ∨ p = ρ (ρ this 9) 1 ∨ p = this ∨ p = ρ this 13) σ σr := by
  unfold f_X11_round_53 at hf
  cases hf
  exact ag_refl
theorem m_X11_round {N : Nat} {ρ : Nat → Nat → Nat} {this : Nat} {a1 : Int32} {r : Int32} {σr : St} {σ : St} (hf : f_X11_round N ρ this a1 σ = some (r, σr)) : Ag (fun p => p = ρ (ρ this 9) 4 ∨ p = ρ this 9 ∨ p = ρ (ρ this 9) 2 ∨ p = ρ (ρ this 2) 10 ∨ p = ρ (ρ (ρ this 2) 8) 1 ∨ p = ρ (ρ this 9) 3 ∨ p = ρ (ρ this 9) 0 ∨ p = ρ (ρ this 9) 1 ∨ p = this ∨ p = ρ this 13) σ σr := by
  unfold f_X11_round at hf
  rcases ite_some hf with ⟨_, hf⟩ | ⟨_, hf⟩
  · skip
    exact m_X11_round_9 _ hf
  · skip
    rcases ite_some hf with ⟨_, hf⟩ | ⟨_, hf⟩
    · skip
      obtain ⟨_, σ4, q1, hf⟩ := bnd_some hf
      refine ag_call (m_X8_find q1) (fun _ h => by
            rcases h with h | h | h | h | h | h | h | h
            · exact (Or.inl h)
            · exact (Or.inr (Or.inl h))
            · exact (Or.inr (Or.inr (Or.inl h)))
            · exact (Or.inr (Or.inr (Or.inr (Or.inl h))))
            · exact (Or.inr (Or.inr (Or.inr (Or.inr (Or.inl h)))))
            · exact (Or.inr (Or.inr (Or.inr (Or.inr (Or.inr (Or.inl h))))))
            · exact (Or.inr (Or.inr (Or.inr (Or.inr (Or.inr (Or.inr (Or.inl h)))))))
            · exact (Or.inr (Or.inr (Or.inr (Or.inr (Or.inr (Or.inr (Or.inr (Or.inl h))))))))) ?_
      obtain ⟨_, σ7, q2, hf⟩ := bnd_some hf
      refine ag_call (m_X11_layDownSending q2) (fun _ h => by
            rcases h with h | h
            · exact (Or.inr (Or.inr (Or.inr (Or.inr (Or.inr (Or.inr (Or.inr (Or.inr (Or.inl h)))))))))
            · exact (Or.inr (Or.inr (Or.inr (Or.inr (Or.inr (Or.inr (Or.inr (Or.inr (Or.inr h)))))))))) ?_
      rcases ite_some hf with ⟨_, hf⟩ | ⟨_, hf⟩
      · skip
        exact m_X11_round_53 _ _ hf
      · skip
        exact m_X11_round_53 _ _ hf
    · skip
      exact m_X11_round_9 _ hf
theorem m_X11_service {N : Nat} {ρ : Nat → Nat → Nat} {this : Nat} {r : Int32} {σr : St} {σ : St} (hf : f_X11_service N ρ this σ = some (r, σr)) : Ag (fun p => p = this ∨ p = ρ (ρ this 9) 4 ∨ p = ρ this 9 ∨ p = ρ (ρ this 9) 2 ∨ p = ρ (ρ this 2) 10 ∨ p = ρ (ρ (ρ this 2) 8) 1 ∨ p = ρ (ρ this 9) 3 ∨ p = ρ (ρ this 9) 0 ∨ p = ρ (ρ this 9) 1 ∨ p = ρ this 13) σ σr := by
  unfold f_X11_service at hf
  obtain ⟨σ1, eσ1, hf⟩ := nmd_some hf
  refine ag_I eσ1 (Or.inl rfl) ?_
  obtain ⟨_, σ3, q1, hf⟩ := bnd_some hf
  refine ag_call (m_X8_find q1) (fun _ h => by
        rcases h with h | h | h | h | h | h | h | h
        · exact (Or.inr (Or.inl h))
        · exact (Or.inr (Or.inr (Or.inl h)))
        · exact (Or.inr (Or.inr (Or.inr (Or.inl h))))
        · exact (Or.inr (Or.inr (Or.inr (Or.inr (Or.inl h)))))
        · exact (Or.inr (Or.inr (Or.inr (Or.inr (Or.inr (Or.inl h))))))
        · exact (Or.inr (Or.inr (Or.inr (Or.inr (Or.inr (Or.inr (Or.inl h)))))))
        · exact (Or.inr (Or.inr (Or.inr (Or.inr (Or.inr (Or.inr (Or.inr (Or.inl h))))))))
        · exact (Or.inr (Or.inr (Or.inr (Or.inr (Or.inr (Or.inr (Or.inr (Or.inr (Or.inl h)))))))))) ?_
  rcases ite_some hf with ⟨_, hf⟩ | ⟨_, hf⟩
  · skip
    cases hf
    exact ag_refl
  · skip
    obtain ⟨_, σ7, q2, hf⟩ := bnd_some hf
    refine ag_call (m_X11_layDownSending q2) (fun _ h => by
          rcases h with h | h
          · exact (Or.inl h)
          · exact (Or.inr (Or.inr (Or.inr (Or.inr (Or.inr (Or.inr (Or.inr (Or.inr (Or.inr h)))))))))) ?_
    cases hf
    exact ag_refl
theorem m_X11_wouldAllCount_53 {N : Nat} {ρ : Nat → Nat → Nat} {this : Nat} {a1 : Int32} {a2 : Int32} {r : Int32} {σr : St} (s0 : Int32) (σ : St) (hf : f_X11_wouldAllCount_53 N ρ this a1 a2 s0 σ = some (r, σr)) : Ag (fun p => p = ρ (ρ this 2) 10 ∨ p = ρ (ρ (ρ this 2) 8) 1) σ σr := by
  unfold f_X11_wouldAllCount_53 at hf
  obtain ⟨_, hf⟩ := gd_some hf
  cases hf
  exact ag_refl
theorem m_X11_wouldAllCount_52 {N : Nat} {ρ : Nat → Nat → Nat} {this : Nat} {a1 : Int32} {a2 : Int32} {r : Int32} {σr : St} (σ : St) (hf : f_X11_wouldAllCount_52 N ρ this a1 a2 σ = some (r, σr)) : Ag (fun p => p = ρ (ρ this 2) 10 ∨ p = ρ (ρ (ρ this 2) 8) 1) σ σr := by
  unfold f_X11_wouldAllCount_52 at hf
  exact m_X11_wouldAllCount_53 _ _ hf
theorem m_X11_wouldAllCount {N : Nat} {ρ : Nat → Nat → Nat} {this : Nat} {a1 : Int32} {a2 : Int32} {r : Int32} {σr : St} {σ : St} (hf : f_X11_wouldAllCount N ρ this a1 a2 σ = some (r, σr)) : Ag (fun p => p = ρ (ρ this 2) 10 ∨ p = ρ (ρ (ρ this 2) 8) 1) σ σr := by
  unfold f_X11_wouldAllCount at hf
  obtain ⟨_, σ3, q1, hf⟩ := bnd_some hf
  refine ag_call (m_J6_bitCount_0f7a4 q1) (fun _ h => h.elim) ?_
  obtain ⟨_, hf⟩ := gd_some hf
  rcases ite_some hf with ⟨_, hf⟩ | ⟨_, hf⟩
  · skip
    exact m_X11_wouldAllCount_52 _ hf
  · skip
    obtain ⟨_, σ8, q2, hf⟩ := bnd_some hf
    refine ag_call (m_X0_quarrelIn q2) (fun _ h => h.elim) ?_
    rcases ite_some hf with ⟨_, hf⟩ | ⟨_, hf⟩
    · skip
      obtain ⟨_, σ12, q3, hf⟩ := bnd_some hf
      refine ag_call (m_X0_bearing q3) (fun _ h => by
            rcases h with h | h
            · exact (Or.inl h)
            · exact (Or.inr h)) ?_
      rcases ite_some hf with ⟨_, hf⟩ | ⟨_, hf⟩
      · skip
        exact m_X11_wouldAllCount_53 _ _ hf
      · skip
        exact m_X11_wouldAllCount_52 _ hf
    · skip
      exact m_X11_wouldAllCount_52 _ hf
theorem m_X11_team_20 {N : Nat} {ρ : Nat → Nat → Nat} {this : Nat} {a1 : Int32} {a2 : Int32} {r : Int32} {σr : St} (σ : St) (hf : f_X11_team_20 N ρ this a1 a2 σ = some (r, σr)) : Ag (fun p => p = ρ (ρ this 2) 10 ∨ p = ρ (ρ (ρ this 2) 8) 1) σ σr := by
  unfold f_X11_team_20 at hf
  cases hf
  exact ag_refl
theorem m_X11_team_82 {N : Nat} {ρ : Nat → Nat → Nat} {this : Nat} {a1 : Int32} {a2 : Int32} {r : Int32} {σr : St} (rec27 : Int32 → Int32 → St → Option (Int32 × St)) (hrec27 : ∀ (x3 : Int32) (x4 : Int32) (σ : St), rec27 x3 x4 σ = some (r, σr) → Ag (fun p => p = ρ (ρ this 2) 10 ∨ p = ρ (ρ (ρ this 2) 8) 1) σ σr) (x3 : Int32) (x4 : Int32) (σ : St) (hf : f_X11_team_82 N ρ this a1 a2 rec27 x3 x4 σ = some (r, σr)) : Ag (fun p => p = ρ (ρ this 2) 10 ∨ p = ρ (ρ (ρ this 2) 8) 1) σ σr := by
  unfold f_X11_team_82 at hf
  exact hrec27 _ _ _ hf
theorem m_X11_team_62 {N : Nat} {ρ : Nat → Nat → Nat} {this : Nat} {a1 : Int32} {a2 : Int32} {r : Int32} {σr : St} (rec27 : Int32 → Int32 → St → Option (Int32 × St)) (hrec27 : ∀ (x3 : Int32) (x4 : Int32) (σ : St), rec27 x3 x4 σ = some (r, σr) → Ag (fun p => p = ρ (ρ this 2) 10 ∨ p = ρ (ρ (ρ this 2) 8) 1) σ σr) (x3 : Int32) (x4 : Int32) (s0 : Int32) (σ : St) (hf : f_X11_team_62 N ρ this a1 a2 rec27 x3 x4 s0 σ = some (r, σr)) : Ag (fun p => p = ρ (ρ this 2) 10 ∨ p = ρ (ρ (ρ this 2) 8) 1) σ σr := by
  unfold f_X11_team_62 at hf
  rcases ite_some hf with ⟨_, hf⟩ | ⟨_, hf⟩
  · skip
    exact m_X11_team_82 rec27 hrec27 _ _ _ hf
  · skip
    obtain ⟨_, σ3, q1, hf⟩ := bnd_some hf
    refine ag_call (m_X11_wouldAllCount q1) (fun _ h => by
          rcases h with h | h
          · exact (Or.inl h)
          · exact (Or.inr h)) ?_
    rcases ite_some hf with ⟨_, hf⟩ | ⟨_, hf⟩
    · skip
      exact m_X11_team_82 rec27 hrec27 _ _ _ hf
    · skip
      exact m_X11_team_82 rec27 hrec27 _ _ _ hf
theorem m_X11_team_57 {N : Nat} {ρ : Nat → Nat → Nat} {this : Nat} {a1 : Int32} {a2 : Int32} {r : Int32} {σr : St} (rec27 : Int32 → Int32 → St → Option (Int32 × St)) (hrec27 : ∀ (x3 : Int32) (x4 : Int32) (σ : St), rec27 x3 x4 σ = some (r, σr) → Ag (fun p => p = ρ (ρ this 2) 10 ∨ p = ρ (ρ (ρ this 2) 8) 1) σ σr) (x3 : Int32) (x4 : Int32) (σ : St) (hf : f_X11_team_57 N ρ this a1 a2 rec27 x3 x4 σ = some (r, σr)) : Ag (fun p => p = ρ (ρ this 2) 10 ∨ p = ρ (ρ (ρ this 2) 8) 1) σ σr := by
  unfold f_X11_team_57 at hf
  exact m_X11_team_62 rec27 hrec27 _ _ _ _ hf
theorem m_X11_team_106 {N : Nat} {ρ : Nat → Nat → Nat} {this : Nat} {a1 : Int32} {a2 : Int32} {r : Int32} {σr : St} (s0 : Int32) (σ : St) (hf : f_X11_team_106 N ρ this a1 a2 s0 σ = some (r, σr)) : Ag (fun p => p = ρ (ρ this 2) 10 ∨ p = ρ (ρ (ρ this 2) 8) 1) σ σr := by
  unfold f_X11_team_106 at hf
  cases hf
  exact ag_refl
theorem k_X11_team_27 {N : Nat} {ρ : Nat → Nat → Nat} {this : Nat} {a1 : Int32} {a2 : Int32} {r : Int32} {σr : St} (rec27 : Int32 → Int32 → St → Option (Int32 × St)) (hrec27 : ∀ (x3 : Int32) (x4 : Int32) (σ : St), rec27 x3 x4 σ = some (r, σr) → Ag (fun p => p = ρ (ρ this 2) 10 ∨ p = ρ (ρ (ρ this 2) 8) 1) σ σr) (x3 : Int32) (x4 : Int32) (σ : St) (hf : b_X11_team_27 N ρ this a1 a2 rec27 x3 x4 σ = some (r, σr)) : Ag (fun p => p = ρ (ρ this 2) 10 ∨ p = ρ (ρ (ρ this 2) 8) 1) σ σr := by
  unfold b_X11_team_27 at hf
  rcases ite_some hf with ⟨_, hf⟩ | ⟨_, hf⟩
  · skip
    rcases ite_some hf with ⟨_, hf⟩ | ⟨_, hf⟩
    · skip
      cases hf
      exact ag_refl
    · skip
      rcases ite_some hf with ⟨_, hf⟩ | ⟨_, hf⟩
      · skip
        obtain ⟨_, σ10, q1, hf⟩ := bnd_some hf
        refine ag_call (m_J6_bitCount_0f7a4 q1) (fun _ h => h.elim) ?_
        exact m_X11_team_106 _ _ hf
      · skip
        exact m_X11_team_106 _ _ hf
  · skip
    rcases ite_some hf with ⟨_, hf⟩ | ⟨_, hf⟩
    · skip
      exact m_X11_team_57 rec27 hrec27 _ _ _ hf
    · skip
      obtain ⟨_, σ14, q2, hf⟩ := bnd_some hf
      refine ag_call (m_J6_bitCount_0f7a4 q2) (fun _ h => h.elim) ?_
      obtain ⟨_, σ17, q3, hf⟩ := bnd_some hf
      refine ag_call (m_J6_bitCount_0f7a4 q3) (fun _ h => h.elim) ?_
      rcases ite_some hf with ⟨_, hf⟩ | ⟨_, hf⟩
      · skip
        exact m_X11_team_62 rec27 hrec27 _ _ _ _ hf
      · skip
        exact m_X11_team_57 rec27 hrec27 _ _ _ hf
theorem m_X11_team_27 {N : Nat} {ρ : Nat → Nat → Nat} {this : Nat} {a1 : Int32} {a2 : Int32} {r : Int32} {σr : St} : ∀ (n : Nat) (x3 : Int32) (x4 : Int32) (σ : St), f_X11_team_27 N ρ this a1 a2 n x3 x4 σ = some (r, σr) → Ag (fun p => p = ρ (ρ this 2) 10 ∨ p = ρ (ρ (ρ this 2) 8) 1) σ σr := by
  intro n
  induction n with
  | zero => intro x3 x4 σ hf; cases hf
  | succ n ih => intro x3 x4 σ hf; exact k_X11_team_27 _ ih x3 x4 σ hf
theorem m_X11_team {N : Nat} {ρ : Nat → Nat → Nat} {this : Nat} {a1 : Int32} {a2 : Int32} {r : Int32} {σr : St} {σ : St} (hf : f_X11_team N ρ this a1 a2 σ = some (r, σr)) : Ag (fun p => p = ρ (ρ this 2) 10 ∨ p = ρ (ρ (ρ this 2) 8) 1) σ σr := by
  unfold f_X11_team at hf
  obtain ⟨_, σ21, q1, hf⟩ := bnd_some hf
  refine ag_call (m_X0_hasHearth q1) (fun _ h => h.elim) ?_
  rcases ite_some hf with ⟨_, hf⟩ | ⟨_, hf⟩
  · skip
    exact m_X11_team_20 _ hf
  · skip
    rcases ite_some hf with ⟨_, hf⟩ | ⟨_, hf⟩
    · skip
      exact m_X11_team_20 _ hf
    · skip
      rcases ite_some hf with ⟨_, hf⟩ | ⟨_, hf⟩
      · skip
        exact m_X11_team_27 N _ _ _ hf
      · skip
        exact m_X11_team_20 _ hf
theorem m_X11_countingExchanged {N : Nat} {ρ : Nat → Nat → Nat} {this : Nat} {a1 : Int32} {a2 : Int32} {r : Int32} {σr : St} {σ : St} (hf : f_X11_countingExchanged N ρ this a1 a2 σ = some (r, σr)) : Ag (fun p => p = ρ (ρ this 5) 0 ∨ p = ρ (ρ this 5) 1 ∨ p = ρ (ρ this 5) 2 ∨ p = ρ (ρ this 5) 3 ∨ p = ρ this 5 ∨ p = ρ (ρ this 2) 10 ∨ p = ρ (ρ (ρ this 2) 8) 1) σ σr := by
  unfold f_X11_countingExchanged at hf
  obtain ⟨_, σ2, q1, hf⟩ := bnd_some hf
  refine ag_call (m_X9_copy q1) (fun _ h => by
        rcases h with h | h | h | h | h
        · exact (Or.inl h)
        · exact (Or.inr (Or.inl h))
        · exact (Or.inr (Or.inr (Or.inl h)))
        · exact (Or.inr (Or.inr (Or.inr (Or.inl h))))
        · exact (Or.inr (Or.inr (Or.inr (Or.inr (Or.inl h)))))) ?_
  obtain ⟨_, hf⟩ := gd_some hf
  obtain ⟨_, hf⟩ := gd_some hf
  obtain ⟨σ6, eσ6, hf⟩ := nmd_some hf
  refine ag_I eσ6 (Or.inr (Or.inr (Or.inr (Or.inl rfl)))) ?_
  obtain ⟨_, hf⟩ := gd_some hf
  obtain ⟨_, hf⟩ := gd_some hf
  obtain ⟨σ9, eσ9, hf⟩ := nmd_some hf
  refine ag_I eσ9 (Or.inr (Or.inr (Or.inr (Or.inl rfl)))) ?_
  obtain ⟨_, σ11, q2, hf⟩ := bnd_some hf
  refine ag_call (m_X9_counting q2) (fun _ h => by
        rcases h with h | h
        · exact (Or.inr (Or.inr (Or.inr (Or.inr (Or.inr (Or.inl h))))))
        · exact (Or.inr (Or.inr (Or.inr (Or.inr (Or.inr (Or.inr h))))))) ?_
  obtain ⟨_, σ14, q3, hf⟩ := bnd_some hf
  refine ag_call (m_J6_bitCount_0f7a4 q3) (fun _ h => h.elim) ?_
  cases hf
  exact ag_refl
theorem m_X11_change_9 {N : Nat} {ρ : Nat → Nat → Nat} {this : Nat} {a1 : Int32} {r : Int32} {σr : St} (σ : St) (hf : f_X11_change_9 N ρ this a1 σ = some (r, σr)) : Ag (fun p => p = ρ (ρ this 5) 0 ∨ p = ρ (ρ this 5) 1 ∨ p = ρ (ρ this 5) 2 ∨ p = ρ (ρ this 5) 3 ∨ p = ρ this 5 ∨ p = ρ (ρ this 2) 10 ∨ p = ρ (ρ (ρ this 2) 8) 1) σ σr := by
  unfold f_X11_change_9 at hf
  cases hf
  exact ag_refl
theorem m_X11_change_91 {N : Nat} {ρ : Nat → Nat → Nat} {this : Nat} {a1 : Int32} {r : Int32} {σr : St} (rec35 : Int32 → Int32 → Int32 → Int32 → St → Option (Int32 × St)) (hrec35 : ∀ (x2 : Int32) (x3 : Int32) (x4 : Int32) (x5 : Int32) (σ : St), rec35 x2 x3 x4 x5 σ = some (r, σr) → Ag (fun p => p = ρ (ρ this 5) 0 ∨ p = ρ (ρ this 5) 1 ∨ p = ρ (ρ this 5) 2 ∨ p = ρ (ρ this 5) 3 ∨ p = ρ this 5 ∨ p = ρ (ρ this 2) 10 ∨ p = ρ (ρ (ρ this 2) 8) 1) σ σr) (rec53 : Int32 → Int32 → Int32 → Int32 → Int32 → St → Option (Int32 × St)) (hrec53 : ∀ (x2 : Int32) (x3 : Int32) (x4 : Int32) (x5 : Int32) (x6 : Int32) (σ : St), rec53 x2 x3 x4 x5 x6 σ = some (r, σr) → Ag (fun p => p = ρ (ρ this 5) 0 ∨ p = ρ (ρ this 5) 1 ∨ p = ρ (ρ this 5) 2 ∨ p = ρ (ρ this 5) 3 ∨ p = ρ this 5 ∨ p = ρ (ρ this 2) 10 ∨ p = ρ (ρ (ρ this 2) 8) 1) σ σr) (x2 : Int32) (x3 : Int32) (x4 : Int32) (x5 : Int32) (x6 : Int32) (σ : St) (hf : f_X11_change_91 N ρ this a1 rec35 rec53 x2 x3 x4 x5 x6 σ = some (r, σr)) : Ag (fun p => p = ρ (ρ this 5) 0 ∨ p = ρ (ρ this 5) 1 ∨ p = ρ (ρ this 5) 2 ∨ p = ρ (ρ this 5) 3 ∨ p = ρ this 5 ∨ p = ρ (ρ this 2) 10 ∨ p = ρ (ρ (ρ this 2) 8) 1) σ σr := by
  unfold f_X11_change_91 at hf
  exact hrec53 _ _ _ _ _ _ hf
theorem k_X11_change_53 {N : Nat} {ρ : Nat → Nat → Nat} {this : Nat} {a1 : Int32} {r : Int32} {σr : St} (rec35 : Int32 → Int32 → Int32 → Int32 → St → Option (Int32 × St)) (hrec35 : ∀ (x2 : Int32) (x3 : Int32) (x4 : Int32) (x5 : Int32) (σ : St), rec35 x2 x3 x4 x5 σ = some (r, σr) → Ag (fun p => p = ρ (ρ this 5) 0 ∨ p = ρ (ρ this 5) 1 ∨ p = ρ (ρ this 5) 2 ∨ p = ρ (ρ this 5) 3 ∨ p = ρ this 5 ∨ p = ρ (ρ this 2) 10 ∨ p = ρ (ρ (ρ this 2) 8) 1) σ σr) (rec53 : Int32 → Int32 → Int32 → Int32 → Int32 → St → Option (Int32 × St)) (hrec53 : ∀ (x2 : Int32) (x3 : Int32) (x4 : Int32) (x5 : Int32) (x6 : Int32) (σ : St), rec53 x2 x3 x4 x5 x6 σ = some (r, σr) → Ag (fun p => p = ρ (ρ this 5) 0 ∨ p = ρ (ρ this 5) 1 ∨ p = ρ (ρ this 5) 2 ∨ p = ρ (ρ this 5) 3 ∨ p = ρ this 5 ∨ p = ρ (ρ this 2) 10 ∨ p = ρ (ρ (ρ this 2) 8) 1) σ σr) (x2 : Int32) (x3 : Int32) (x4 : Int32) (x5 : Int32) (x6 : Int32) (σ : St) (hf : b_X11_change_53 N ρ this a1 rec35 rec53 x2 x3 x4 x5 x6 σ = some (r, σr)) : Ag (fun p => p = ρ (ρ this 5) 0 ∨ p = ρ (ρ this 5) 1 ∨ p = ρ (ρ this 5) 2 ∨ p = ρ (ρ this 5) 3 ∨ p = ρ this 5 ∨ p = ρ (ρ this 2) 10 ∨ p = ρ (ρ (ρ this 2) 8) 1) σ σr := by
  unfold b_X11_change_53 at hf
  rcases ite_some hf with ⟨_, hf⟩ | ⟨_, hf⟩
  · skip
    exact hrec35 _ _ _ _ _ hf
  · skip
    obtain ⟨_, σ3, q1, hf⟩ := bnd_some hf
    refine ag_call (m_X11_countingExchanged q1) (fun _ h => by
          rcases h with h | h | h | h | h | h | h
          · exact (Or.inl h)
          · exact (Or.inr (Or.inl h))
          · exact (Or.inr (Or.inr (Or.inl h)))
          · exact (Or.inr (Or.inr (Or.inr (Or.inl h))))
          · exact (Or.inr (Or.inr (Or.inr (Or.inr (Or.inl h)))))
          · exact (Or.inr (Or.inr (Or.inr (Or.inr (Or.inr (Or.inl h))))))
          · exact (Or.inr (Or.inr (Or.inr (Or.inr (Or.inr (Or.inr h))))))) ?_
    rcases ite_some hf with ⟨_, hf⟩ | ⟨_, hf⟩
    · skip
      exact m_X11_change_91 rec35 hrec35 rec53 hrec53 _ _ _ _ _ _ hf
    · skip
      exact m_X11_change_91 rec35 hrec35 rec53 hrec53 _ _ _ _ _ _ hf
theorem m_X11_change_53 {N : Nat} {ρ : Nat → Nat → Nat} {this : Nat} {a1 : Int32} {r : Int32} {σr : St} (rec35 : Int32 → Int32 → Int32 → Int32 → St → Option (Int32 × St)) (hrec35 : ∀ (x2 : Int32) (x3 : Int32) (x4 : Int32) (x5 : Int32) (σ : St), rec35 x2 x3 x4 x5 σ = some (r, σr) → Ag (fun p => p = ρ (ρ this 5) 0 ∨ p = ρ (ρ this 5) 1 ∨ p = ρ (ρ this 5) 2 ∨ p = ρ (ρ this 5) 3 ∨ p = ρ this 5 ∨ p = ρ (ρ this 2) 10 ∨ p = ρ (ρ (ρ this 2) 8) 1) σ σr) : ∀ (n : Nat) (x2 : Int32) (x3 : Int32) (x4 : Int32) (x5 : Int32) (x6 : Int32) (σ : St), f_X11_change_53 N ρ this a1 rec35 n x2 x3 x4 x5 x6 σ = some (r, σr) → Ag (fun p => p = ρ (ρ this 5) 0 ∨ p = ρ (ρ this 5) 1 ∨ p = ρ (ρ this 5) 2 ∨ p = ρ (ρ this 5) 3 ∨ p = ρ this 5 ∨ p = ρ (ρ this 2) 10 ∨ p = ρ (ρ (ρ this 2) 8) 1) σ σr := by
  intro n
  induction n with
  | zero => intro x2 x3 x4 x5 x6 σ hf; cases hf
  | succ n ih => intro x2 x3 x4 x5 x6 σ hf; exact k_X11_change_53 rec35 hrec35 _ ih x2 x3 x4 x5 x6 σ hf
theorem m_X11_change_112 {N : Nat} {ρ : Nat → Nat → Nat} {this : Nat} {a1 : Int32} {r : Int32} {σr : St} (x3 : Int32) (σ : St) (hf : f_X11_change_112 N ρ this a1 x3 σ = some (r, σr)) : Ag (fun p => p = ρ (ρ this 5) 0 ∨ p = ρ (ρ this 5) 1 ∨ p = ρ (ρ this 5) 2 ∨ p = ρ (ρ this 5) 3 ∨ p = ρ this 5 ∨ p = ρ (ρ this 2) 10 ∨ p = ρ (ρ (ρ this 2) 8) 1) σ σr := by
  unfold f_X11_change_112 at hf
  cases hf
  exact ag_refl
theorem m_X11_change_125 {N : Nat} {ρ : Nat → Nat → Nat} {this : Nat} {a1 : Int32} {r : Int32} {σr : St} (s0 : Int32) (σ : St) (hf : f_X11_change_125 N ρ this a1 s0 σ = some (r, σr)) : Ag (fun p => p = ρ (ρ this 5) 0 ∨ p = ρ (ρ this 5) 1 ∨ p = ρ (ρ this 5) 2 ∨ p = ρ (ρ this 5) 3 ∨ p = ρ this 5 ∨ p = ρ (ρ this 2) 10 ∨ p = ρ (ρ (ρ this 2) 8) 1) σ σr := by
  unfold f_X11_change_125 at hf
  cases hf
  exact ag_refl
theorem k_X11_change_35 {N : Nat} {ρ : Nat → Nat → Nat} {this : Nat} {a1 : Int32} {r : Int32} {σr : St} (rec35 : Int32 → Int32 → Int32 → Int32 → St → Option (Int32 × St)) (hrec35 : ∀ (x2 : Int32) (x3 : Int32) (x4 : Int32) (x5 : Int32) (σ : St), rec35 x2 x3 x4 x5 σ = some (r, σr) → Ag (fun p => p = ρ (ρ this 5) 0 ∨ p = ρ (ρ this 5) 1 ∨ p = ρ (ρ this 5) 2 ∨ p = ρ (ρ this 5) 3 ∨ p = ρ this 5 ∨ p = ρ (ρ this 2) 10 ∨ p = ρ (ρ (ρ this 2) 8) 1) σ σr) (x2 : Int32) (x3 : Int32) (x4 : Int32) (x5 : Int32) (σ : St) (hf : b_X11_change_35 N ρ this a1 rec35 x2 x3 x4 x5 σ = some (r, σr)) : Ag (fun p => p = ρ (ρ this 5) 0 ∨ p = ρ (ρ this 5) 1 ∨ p = ρ (ρ this 5) 2 ∨ p = ρ (ρ this 5) 3 ∨ p = ρ this 5 ∨ p = ρ (ρ this 2) 10 ∨ p = ρ (ρ (ρ this 2) 8) 1) σ σr := by
  unfold b_X11_change_35 at hf
  rcases ite_some hf with ⟨_, hf⟩ | ⟨_, hf⟩
  · skip
    rcases ite_some hf with ⟨_, hf⟩ | ⟨_, hf⟩
    · skip
      exact m_X11_change_112 _ _ hf
    · skip
      rcases ite_some hf with ⟨_, hf⟩ | ⟨_, hf⟩
      · skip
        exact m_X11_change_112 _ _ hf
      · skip
        rcases ite_some hf with ⟨_, hf⟩ | ⟨_, hf⟩
        · skip
          exact m_X11_change_125 _ _ hf
        · skip
          exact m_X11_change_125 _ _ hf
  · skip
    obtain ⟨y10, ey10, hf⟩ := nmd_some hf
    exact m_X11_change_53 rec35 hrec35 N _ _ _ _ _ _ hf
theorem m_X11_change_35 {N : Nat} {ρ : Nat → Nat → Nat} {this : Nat} {a1 : Int32} {r : Int32} {σr : St} : ∀ (n : Nat) (x2 : Int32) (x3 : Int32) (x4 : Int32) (x5 : Int32) (σ : St), f_X11_change_35 N ρ this a1 n x2 x3 x4 x5 σ = some (r, σr) → Ag (fun p => p = ρ (ρ this 5) 0 ∨ p = ρ (ρ this 5) 1 ∨ p = ρ (ρ this 5) 2 ∨ p = ρ (ρ this 5) 3 ∨ p = ρ this 5 ∨ p = ρ (ρ this 2) 10 ∨ p = ρ (ρ (ρ this 2) 8) 1) σ σr := by
  intro n
  induction n with
  | zero => intro x2 x3 x4 x5 σ hf; cases hf
  | succ n ih => intro x2 x3 x4 x5 σ hf; exact k_X11_change_35 _ ih x2 x3 x4 x5 σ hf
theorem m_X11_change {N : Nat} {ρ : Nat → Nat → Nat} {this : Nat} {a1 : Int32} {r : Int32} {σr : St} {σ : St} (hf : f_X11_change N ρ this a1 σ = some (r, σr)) : Ag (fun p => p = ρ (ρ this 5) 0 ∨ p = ρ (ρ this 5) 1 ∨ p = ρ (ρ this 5) 2 ∨ p = ρ (ρ this 5) 3 ∨ p = ρ this 5 ∨ p = ρ (ρ this 2) 10 ∨ p = ρ (ρ (ρ this 2) 8) 1) σ σr := by
  unfold f_X11_change at hf
  rcases ite_some hf with ⟨_, hf⟩ | ⟨_, hf⟩
  · skip
    exact m_X11_change_9 _ hf
  · skip
    rcases ite_some hf with ⟨_, hf⟩ | ⟨_, hf⟩
    · skip
      obtain ⟨_, σ14, q1, hf⟩ := bnd_some hf
      refine ag_call (m_X9_counting q1) (fun _ h => by
            rcases h with h | h
            · exact (Or.inr (Or.inr (Or.inr (Or.inr (Or.inr (Or.inl h))))))
            · exact (Or.inr (Or.inr (Or.inr (Or.inr (Or.inr (Or.inr h))))))) ?_
      obtain ⟨_, σ17, q2, hf⟩ := bnd_some hf
      refine ag_call (m_J6_bitCount_0f7a4 q2) (fun _ h => h.elim) ?_
      exact m_X11_change_35 N _ _ _ _ _ hf
    · skip
      exact m_X11_change_9 _ hf
theorem m_X11_guests_42 {N : Nat} {ρ : Nat → Nat → Nat} {this : Nat} {a1 : Int32} {a2 : Int32} {r : Int32} {σr : St} (σ : St) (hf : f_X11_guests_42 N ρ this a1 a2 σ = some (r, σr)) : Ag (fun p => p = this ∨ p = ρ this 10 ∨ (∃ j, p = ρ (ρ (ρ this 10) 0) j) ∨ (∃ j, p = ρ (ρ (ρ this 10) 1) j) ∨ p = ρ (ρ this 2) 10 ∨ p = ρ (ρ (ρ this 2) 8) 1 ∨ p = ρ this 13) σ σr := by
  unfold f_X11_guests_42 at hf
  cases hf
  exact ag_refl
theorem m_X11_guests_97 {N : Nat} {ρ : Nat → Nat → Nat} {this : Nat} {a1 : Int32} {a2 : Int32} {r : Int32} {σr : St} (x3 : Int32) (σ : St) (hf : f_X11_guests_97 N ρ this a1 a2 x3 σ = some (r, σr)) : Ag (fun p => p = this ∨ p = ρ this 10 ∨ (∃ j, p = ρ (ρ (ρ this 10) 0) j) ∨ (∃ j, p = ρ (ρ (ρ this 10) 1) j) ∨ p = ρ (ρ this 2) 10 ∨ p = ρ (ρ (ρ this 2) 8) 1 ∨ p = ρ this 13) σ σr := by
  unfold f_X11_guests_97 at hf
  cases hf
  exact ag_refl
theorem m_X11_guests {N : Nat} {ρ : Nat → Nat → Nat} {this : Nat} {a1 : Int32} {a2 : Int32} {r : Int32} {σr : St} {σ : St} (hf : f_X11_guests N ρ this a1 a2 σ = some (r, σr)) : Ag (fun p => p = this ∨ p = ρ this 10 ∨ (∃ j, p = ρ (ρ (ρ this 10) 0) j) ∨ (∃ j, p = ρ (ρ (ρ this 10) 1) j) ∨ p = ρ (ρ this 2) 10 ∨ p = ρ (ρ (ρ this 2) 8) 1 ∨ p = ρ this 13) σ σr := by
  unfold f_X11_guests at hf
  obtain ⟨σ1, eσ1, hf⟩ := nmd_some hf
  refine ag_I eσ1 (Or.inl rfl) ?_
  obtain ⟨_, σ3, q1, hf⟩ := bnd_some hf
  refine ag_call (m_X0_hasStool q1) (fun _ h => h.elim) ?_
  rcases ite_some hf with ⟨_, hf⟩ | ⟨_, hf⟩
  · skip
    exact m_X11_guests_42 _ hf
  · skip
    obtain ⟨_, σ7, q2, hf⟩ := bnd_some hf
    refine ag_call (m_X0_hasStool q2) (fun _ h => h.elim) ?_
    rcases ite_some hf with ⟨_, hf⟩ | ⟨_, hf⟩
    · skip
      exact m_X11_guests_42 _ hf
    · skip
      rcases ite_some hf with ⟨_, hf⟩ | ⟨_, hf⟩
      · skip
        exact m_X11_guests_42 _ hf
      · skip
        rcases ite_some hf with ⟨_, hf⟩ | ⟨_, hf⟩
        · skip
          exact m_X11_guests_42 _ hf
        · skip
          obtain ⟨_, σ13, q3, hf⟩ := bnd_some hf
          refine ag_call (m_X3_findRests q3) (fun _ h => by
                rcases h with h | h | h | h | h
                · exact (Or.inr (Or.inl h))
                · exact (Or.inr (Or.inr (Or.inl h)))
                · exact (Or.inr (Or.inr (Or.inr (Or.inl h))))
                · exact (Or.inr (Or.inr (Or.inr (Or.inr (Or.inl h)))))
                · exact (Or.inr (Or.inr (Or.inr (Or.inr (Or.inr (Or.inl h))))))) ?_
          rcases ite_some hf with ⟨_, hf⟩ | ⟨_, hf⟩
          · skip
            exact m_X11_guests_97 _ _ hf
          · skip
            obtain ⟨_, hf⟩ := gd_some hf
            obtain ⟨σ17, eσ17, hf⟩ := nmd_some hf
            refine ag_I eσ17 (Or.inr (Or.inr (Or.inr (Or.inr (Or.inr (Or.inr rfl)))))) ?_
            obtain ⟨_, hf⟩ := gd_some hf
            obtain ⟨σ19, eσ19, hf⟩ := nmd_some hf
            refine ag_I eσ19 (Or.inr (Or.inr (Or.inr (Or.inr (Or.inr (Or.inr rfl)))))) ?_
            obtain ⟨σ20, eσ20, hf⟩ := nmd_some hf
            refine ag_I eσ20 (Or.inl rfl) ?_
            exact m_X11_guests_97 _ _ hf
theorem m_X11_lies_23 {N : Nat} {ρ : Nat → Nat → Nat} {this : Nat} {a1 : Int32} {r : Int32} {σr : St} (s0 : Int32) (σ : St) (hf : f_X11_lies_23 N ρ this a1 s0 σ = some (r, σr)) : Ag (fun p => False) σ σr := by
  unfold f_X11_lies_23 at hf
  cases hf
  exact ag_refl
theorem m_X11_lies_21 {N : Nat} {ρ : Nat → Nat → Nat} {this : Nat} {a1 : Int32} {r : Int32} {σr : St} (σ : St) (hf : f_X11_lies_21 N ρ this a1 σ = some (r, σr)) : Ag (fun p => False) σ σr := by
  unfold f_X11_lies_21 at hf
  exact m_X11_lies_23 _ _ hf
theorem m_X11_lies {N : Nat} {ρ : Nat → Nat → Nat} {this : Nat} {a1 : Int32} {r : Int32} {σr : St} {σ : St} (hf : f_X11_lies N ρ this a1 σ = some (r, σr)) : Ag (fun p => False) σ σr := by
  unfold f_X11_lies at hf
  rcases ite_some hf with ⟨_, hf⟩ | ⟨_, hf⟩
  · skip
    exact m_X11_lies_21 _ hf
  · skip
    rcases ite_some hf with ⟨_, hf⟩ | ⟨_, hf⟩
    · skip
      exact m_X11_lies_21 _ hf
    · skip
      obtain ⟨_, hf⟩ := gd_some hf
      exact m_X11_lies_23 _ _ hf
theorem m_X11_coversAll_35 {N : Nat} {ρ : Nat → Nat → Nat} {this : Nat} {a1 : Int32} {r : Int32} {σr : St} (rec2 : Int32 → St → Option (Int32 × St)) (hrec2 : ∀ (x2 : Int32) (σ : St), rec2 x2 σ = some (r, σr) → Ag (fun p => False) σ σr) (x2 : Int32) (σ : St) (hf : f_X11_coversAll_35 N ρ this a1 rec2 x2 σ = some (r, σr)) : Ag (fun p => False) σ σr := by
  unfold f_X11_coversAll_35 at hf
  exact hrec2 _ _ hf
theorem k_X11_coversAll_2 {N : Nat} {ρ : Nat → Nat → Nat} {this : Nat} {a1 : Int32} {r : Int32} {σr : St} (rec2 : Int32 → St → Option (Int32 × St)) (hrec2 : ∀ (x2 : Int32) (σ : St), rec2 x2 σ = some (r, σr) → Ag (fun p => False) σ σr) (x2 : Int32) (σ : St) (hf : b_X11_coversAll_2 N ρ this a1 rec2 x2 σ = some (r, σr)) : Ag (fun p => False) σ σr := by
  unfold b_X11_coversAll_2 at hf
  rcases ite_some hf with ⟨_, hf⟩ | ⟨_, hf⟩
  · skip
    cases hf
    exact ag_refl
  · skip
    obtain ⟨_, hf⟩ := gd_some hf
    rcases ite_some hf with ⟨_, hf⟩ | ⟨_, hf⟩
    · skip
      exact m_X11_coversAll_35 rec2 hrec2 _ _ hf
    · skip
      obtain ⟨_, hf⟩ := gd_some hf
      rcases ite_some hf with ⟨_, hf⟩ | ⟨_, hf⟩
      · skip
        cases hf
        exact ag_refl
      · skip
        exact m_X11_coversAll_35 rec2 hrec2 _ _ hf
theorem m_X11_coversAll_2 {N : Nat} {ρ : Nat → Nat → Nat} {this : Nat} {a1 : Int32} {r : Int32} {σr : St} : ∀ (n : Nat) (x2 : Int32) (σ : St), f_X11_coversAll_2 N ρ this a1 n x2 σ = some (r, σr) → Ag (fun p => False) σ σr := by
  intro n
  induction n with
  | zero => intro x2 σ hf; cases hf
  | succ n ih => intro x2 σ hf; exact k_X11_coversAll_2 _ ih x2 σ hf
theorem m_X11_coversAll {N : Nat} {ρ : Nat → Nat → Nat} {this : Nat} {a1 : Int32} {r : Int32} {σr : St} {σ : St} (hf : f_X11_coversAll N ρ this a1 σ = some (r, σr)) : Ag (fun p => False) σ σr := by
  unfold f_X11_coversAll at hf
  exact m_X11_coversAll_2 N _ _ hf
theorem m_X11_findWhereEachCould_65 {N : Nat} {ρ : Nat → Nat → Nat} {this : Nat} {r : Int32} {σr : St} (rec2 : Int32 → St → Option (Int32 × St)) (hrec2 : ∀ (x1 : Int32) (σ : St), rec2 x1 σ = some (r, σr) → Ag (fun p => p = ρ (ρ this 2) 10 ∨ p = ρ (ρ (ρ this 2) 8) 1 ∨ p = ρ this 12) σ σr) (rec22 : Int32 → Int32 → St → Option (Int32 × St)) (hrec22 : ∀ (x1 : Int32) (x2 : Int32) (σ : St), rec22 x1 x2 σ = some (r, σr) → Ag (fun p => p = ρ (ρ this 2) 10 ∨ p = ρ (ρ (ρ this 2) 8) 1 ∨ p = ρ this 12) σ σr) (x1 : Int32) (x2 : Int32) (σ : St) (hf : f_X11_findWhereEachCould_65 N ρ this rec2 rec22 x1 x2 σ = some (r, σr)) : Ag (fun p => p = ρ (ρ this 2) 10 ∨ p = ρ (ρ (ρ this 2) 8) 1 ∨ p = ρ this 12) σ σr := by
  unfold f_X11_findWhereEachCould_65 at hf
  exact hrec22 _ _ _ hf
theorem k_X11_findWhereEachCould_22 {N : Nat} {ρ : Nat → Nat → Nat} {this : Nat} {r : Int32} {σr : St} (rec2 : Int32 → St → Option (Int32 × St)) (hrec2 : ∀ (x1 : Int32) (σ : St), rec2 x1 σ = some (r, σr) → Ag (fun p => p = ρ (ρ this 2) 10 ∨ p = ρ (ρ (ρ this 2) 8) 1 ∨ p = ρ this 12) σ σr) (rec22 : Int32 → Int32 → St → Option (Int32 × St)) (hrec22 : ∀ (x1 : Int32) (x2 : Int32) (σ : St), rec22 x1 x2 σ = some (r, σr) → Ag (fun p => p = ρ (ρ this 2) 10 ∨ p = ρ (ρ (ρ this 2) 8) 1 ∨ p = ρ this 12) σ σr) (x1 : Int32) (x2 : Int32) (σ : St) (hf : b_X11_findWhereEachCould_22 N ρ this rec2 rec22 x1 x2 σ = some (r, σr)) : Ag (fun p => p = ρ (ρ this 2) 10 ∨ p = ρ (ρ (ρ this 2) 8) 1 ∨ p = ρ this 12) σ σr := by
  unfold b_X11_findWhereEachCould_22 at hf
  rcases ite_some hf with ⟨_, hf⟩ | ⟨_, hf⟩
  · skip
    exact hrec2 _ _ hf
  · skip
    obtain ⟨_, σ3, q1, hf⟩ := bnd_some hf
    refine ag_call (m_X0_bearing q1) (fun _ h => by
          rcases h with h | h
          · exact (Or.inl h)
          · exact (Or.inr (Or.inl h))) ?_
    rcases ite_some hf with ⟨_, hf⟩ | ⟨_, hf⟩
    · skip
      exact m_X11_findWhereEachCould_65 rec2 hrec2 rec22 hrec22 _ _ _ hf
    · skip
      obtain ⟨_, hf⟩ := gd_some hf
      obtain ⟨_, hf⟩ := gd_some hf
      obtain ⟨σ8, eσ8, hf⟩ := nmd_some hf
      refine ag_I eσ8 (Or.inr (Or.inr rfl)) ?_
      exact m_X11_findWhereEachCould_65 rec2 hrec2 rec22 hrec22 _ _ _ hf
theorem m_X11_findWhereEachCould_22 {N : Nat} {ρ : Nat → Nat → Nat} {this : Nat} {r : Int32} {σr : St} (rec2 : Int32 → St → Option (Int32 × St)) (hrec2 : ∀ (x1 : Int32) (σ : St), rec2 x1 σ = some (r, σr) → Ag (fun p => p = ρ (ρ this 2) 10 ∨ p = ρ (ρ (ρ this 2) 8) 1 ∨ p = ρ this 12) σ σr) : ∀ (n : Nat) (x1 : Int32) (x2 : Int32) (σ : St), f_X11_findWhereEachCould_22 N ρ this rec2 n x1 x2 σ = some (r, σr) → Ag (fun p => p = ρ (ρ this 2) 10 ∨ p = ρ (ρ (ρ this 2) 8) 1 ∨ p = ρ this 12) σ σr := by
  intro n
  induction n with
  | zero => intro x1 x2 σ hf; cases hf
  | succ n ih => intro x1 x2 σ hf; exact k_X11_findWhereEachCould_22 rec2 hrec2 _ ih x1 x2 σ hf
theorem k_X11_findWhereEachCould_2 {N : Nat} {ρ : Nat → Nat → Nat} {this : Nat} {r : Int32} {σr : St} (rec2 : Int32 → St → Option (Int32 × St)) (hrec2 : ∀ (x1 : Int32) (σ : St), rec2 x1 σ = some (r, σr) → Ag (fun p => p = ρ (ρ this 2) 10 ∨ p = ρ (ρ (ρ this 2) 8) 1 ∨ p = ρ this 12) σ σr) (x1 : Int32) (σ : St) (hf : b_X11_findWhereEachCould_2 N ρ this rec2 x1 σ = some (r, σr)) : Ag (fun p => p = ρ (ρ this 2) 10 ∨ p = ρ (ρ (ρ this 2) 8) 1 ∨ p = ρ this 12) σ σr := by
  unfold b_X11_findWhereEachCould_2 at hf
  rcases ite_some hf with ⟨_, hf⟩ | ⟨_, hf⟩
  · skip
    cases hf
    exact ag_refl
  · skip
    obtain ⟨_, hf⟩ := gd_some hf
    obtain ⟨σ11, eσ11, hf⟩ := nmd_some hf
    refine ag_I eσ11 (Or.inr (Or.inr rfl)) ?_
    exact m_X11_findWhereEachCould_22 rec2 hrec2 N _ _ _ hf
theorem m_X11_findWhereEachCould_2 {N : Nat} {ρ : Nat → Nat → Nat} {this : Nat} {r : Int32} {σr : St} : ∀ (n : Nat) (x1 : Int32) (σ : St), f_X11_findWhereEachCould_2 N ρ this n x1 σ = some (r, σr) → Ag (fun p => p = ρ (ρ this 2) 10 ∨ p = ρ (ρ (ρ this 2) 8) 1 ∨ p = ρ this 12) σ σr := by
  intro n
  induction n with
  | zero => intro x1 σ hf; cases hf
  | succ n ih => intro x1 σ hf; exact k_X11_findWhereEachCould_2 _ ih x1 σ hf
theorem m_X11_findWhereEachCould {N : Nat} {ρ : Nat → Nat → Nat} {this : Nat} {r : Int32} {σr : St} {σ : St} (hf : f_X11_findWhereEachCould N ρ this σ = some (r, σr)) : Ag (fun p => p = ρ (ρ this 2) 10 ∨ p = ρ (ρ (ρ this 2) 8) 1 ∨ p = ρ this 12) σ σr := by
  unfold f_X11_findWhereEachCould at hf
  exact m_X11_findWhereEachCould_2 N _ _ hf
theorem m_X11_cover_9 {N : Nat} {ρ : Nat → Nat → Nat} {this : Nat} {a1 : Int32} {r : Int32} {σr : St} (σ : St) (hf : f_X11_cover_9 N ρ this a1 σ = some (r, σr)) : Ag (fun p => p = ρ (ρ this 2) 10 ∨ p = ρ (ρ (ρ this 2) 8) 1 ∨ p = ρ this 12) σ σr := by
  unfold f_X11_cover_9 at hf
  cases hf
  exact ag_refl
theorem m_X11_cover_63 {N : Nat} {ρ : Nat → Nat → Nat} {this : Nat} {a1 : Int32} {r : Int32} {σr : St} (rec29 : Int32 → Int32 → St → Option (Int32 × St)) (hrec29 : ∀ (x2 : Int32) (x3 : Int32) (σ : St), rec29 x2 x3 σ = some (r, σr) → Ag (fun p => p = ρ (ρ this 2) 10 ∨ p = ρ (ρ (ρ this 2) 8) 1 ∨ p = ρ this 12) σ σr) (x2 : Int32) (x3 : Int32) (σ : St) (hf : f_X11_cover_63 N ρ this a1 rec29 x2 x3 σ = some (r, σr)) : Ag (fun p => p = ρ (ρ this 2) 10 ∨ p = ρ (ρ (ρ this 2) 8) 1 ∨ p = ρ this 12) σ σr := by
  unfold f_X11_cover_63 at hf
  exact hrec29 _ _ _ hf
theorem m_X11_cover_81 {N : Nat} {ρ : Nat → Nat → Nat} {this : Nat} {a1 : Int32} {r : Int32} {σr : St} (s0 : Int32) (σ : St) (hf : f_X11_cover_81 N ρ this a1 s0 σ = some (r, σr)) : Ag (fun p => p = ρ (ρ this 2) 10 ∨ p = ρ (ρ (ρ this 2) 8) 1 ∨ p = ρ this 12) σ σr := by
  unfold f_X11_cover_81 at hf
  cases hf
  exact ag_refl
theorem k_X11_cover_29 {N : Nat} {ρ : Nat → Nat → Nat} {this : Nat} {a1 : Int32} {r : Int32} {σr : St} (rec29 : Int32 → Int32 → St → Option (Int32 × St)) (hrec29 : ∀ (x2 : Int32) (x3 : Int32) (σ : St), rec29 x2 x3 σ = some (r, σr) → Ag (fun p => p = ρ (ρ this 2) 10 ∨ p = ρ (ρ (ρ this 2) 8) 1 ∨ p = ρ this 12) σ σr) (x2 : Int32) (x3 : Int32) (σ : St) (hf : b_X11_cover_29 N ρ this a1 rec29 x2 x3 σ = some (r, σr)) : Ag (fun p => p = ρ (ρ this 2) 10 ∨ p = ρ (ρ (ρ this 2) 8) 1 ∨ p = ρ this 12) σ σr := by
  unfold b_X11_cover_29 at hf
  rcases ite_some hf with ⟨_, hf⟩ | ⟨_, hf⟩
  · skip
    rcases ite_some hf with ⟨_, hf⟩ | ⟨_, hf⟩
    · skip
      obtain ⟨_, σ4, q1, hf⟩ := bnd_some hf
      refine ag_call (m_J6_bitCount_0f7a4 q1) (fun _ h => h.elim) ?_
      exact m_X11_cover_81 _ _ hf
    · skip
      exact m_X11_cover_81 _ _ hf
  · skip
    obtain ⟨_, σ7, q2, hf⟩ := bnd_some hf
    refine ag_call (m_J6_bitCount_0f7a4 q2) (fun _ h => h.elim) ?_
    obtain ⟨_, σ10, q3, hf⟩ := bnd_some hf
    refine ag_call (m_J6_bitCount_0f7a4 q3) (fun _ h => h.elim) ?_
    rcases ite_some hf with ⟨_, hf⟩ | ⟨_, hf⟩
    · skip
      exact m_X11_cover_63 rec29 hrec29 _ _ _ hf
    · skip
      obtain ⟨_, σ14, q4, hf⟩ := bnd_some hf
      refine ag_call (m_X11_coversAll q4) (fun _ h => h.elim) ?_
      rcases ite_some hf with ⟨_, hf⟩ | ⟨_, hf⟩
      · skip
        exact m_X11_cover_63 rec29 hrec29 _ _ _ hf
      · skip
        exact m_X11_cover_63 rec29 hrec29 _ _ _ hf
theorem m_X11_cover_29 {N : Nat} {ρ : Nat → Nat → Nat} {this : Nat} {a1 : Int32} {r : Int32} {σr : St} : ∀ (n : Nat) (x2 : Int32) (x3 : Int32) (σ : St), f_X11_cover_29 N ρ this a1 n x2 x3 σ = some (r, σr) → Ag (fun p => p = ρ (ρ this 2) 10 ∨ p = ρ (ρ (ρ this 2) 8) 1 ∨ p = ρ this 12) σ σr := by
  intro n
  induction n with
  | zero => intro x2 x3 σ hf; cases hf
  | succ n ih => intro x2 x3 σ hf; exact k_X11_cover_29 _ ih x2 x3 σ hf
theorem m_X11_cover {N : Nat} {ρ : Nat → Nat → Nat} {this : Nat} {a1 : Int32} {r : Int32} {σr : St} {σ : St} (hf : f_X11_cover N ρ this a1 σ = some (r, σr)) : Ag (fun p => p = ρ (ρ this 2) 10 ∨ p = ρ (ρ (ρ this 2) 8) 1 ∨ p = ρ this 12) σ σr := by
  unfold f_X11_cover at hf
  rcases ite_some hf with ⟨_, hf⟩ | ⟨_, hf⟩
  · skip
    exact m_X11_cover_9 _ hf
  · skip
    rcases ite_some hf with ⟨_, hf⟩ | ⟨_, hf⟩
    · skip
      obtain ⟨_, σ20, q1, hf⟩ := bnd_some hf
      refine ag_call (m_X11_findWhereEachCould q1) (fun _ h => by
            rcases h with h | h | h
            · exact (Or.inl h)
            · exact (Or.inr (Or.inl h))
            · exact (Or.inr (Or.inr h))) ?_
      obtain ⟨y22, ey22, hf⟩ := nmd_some hf
      exact m_X11_cover_29 N _ _ _ hf
    · skip
      exact m_X11_cover_9 _ hf
theorem m_X11_easiest_81 {N : Nat} {ρ : Nat → Nat → Nat} {this : Nat} {a1 : Int32} {r : Int32} {σr : St} (rec20 : Int32 → Int32 → Int32 → St → Option (Int32 × St)) (hrec20 : ∀ (x2 : Int32) (x3 : Int32) (x4 : Int32) (σ : St), rec20 x2 x3 x4 σ = some (r, σr) → Ag (fun p => p = ρ (ρ this 2) 10 ∨ p = ρ (ρ (ρ this 2) 8) 1) σ σr) (x2 : Int32) (x3 : Int32) (x4 : Int32) (σ : St) (hf : f_X11_easiest_81 N ρ this a1 rec20 x2 x3 x4 σ = some (r, σr)) : Ag (fun p => p = ρ (ρ this 2) 10 ∨ p = ρ (ρ (ρ this 2) 8) 1) σ σr := by
  unfold f_X11_easiest_81 at hf
  exact hrec20 _ _ _ _ hf
theorem m_X11_easiest_75 {N : Nat} {ρ : Nat → Nat → Nat} {this : Nat} {a1 : Int32} {r : Int32} {σr : St} (rec20 : Int32 → Int32 → Int32 → St → Option (Int32 × St)) (hrec20 : ∀ (x2 : Int32) (x3 : Int32) (x4 : Int32) (σ : St), rec20 x2 x3 x4 σ = some (r, σr) → Ag (fun p => p = ρ (ρ this 2) 10 ∨ p = ρ (ρ (ρ this 2) 8) 1) σ σr) (x4 : Int32) (x5 : Int32) (σ : St) (hf : f_X11_easiest_75 N ρ this a1 rec20 x4 x5 σ = some (r, σr)) : Ag (fun p => p = ρ (ρ this 2) 10 ∨ p = ρ (ρ (ρ this 2) 8) 1) σ σr := by
  unfold f_X11_easiest_75 at hf
  exact m_X11_easiest_81 rec20 hrec20 _ _ _ _ hf
theorem k_X11_easiest_20 {N : Nat} {ρ : Nat → Nat → Nat} {this : Nat} {a1 : Int32} {r : Int32} {σr : St} (rec20 : Int32 → Int32 → Int32 → St → Option (Int32 × St)) (hrec20 : ∀ (x2 : Int32) (x3 : Int32) (x4 : Int32) (σ : St), rec20 x2 x3 x4 σ = some (r, σr) → Ag (fun p => p = ρ (ρ this 2) 10 ∨ p = ρ (ρ (ρ this 2) 8) 1) σ σr) (x2 : Int32) (x3 : Int32) (x4 : Int32) (σ : St) (hf : b_X11_easiest_20 N ρ this a1 rec20 x2 x3 x4 σ = some (r, σr)) : Ag (fun p => p = ρ (ρ this 2) 10 ∨ p = ρ (ρ (ρ this 2) 8) 1) σ σr := by
  unfold b_X11_easiest_20 at hf
  rcases ite_some hf with ⟨_, hf⟩ | ⟨_, hf⟩
  · skip
    cases hf
    exact ag_refl
  · skip
    obtain ⟨_, σ3, q1, hf⟩ := bnd_some hf
    refine ag_call (m_X0_loadOf q1) (fun _ h => by
          rcases h with h | h
          · exact (Or.inl h)
          · exact (Or.inr h)) ?_
    obtain ⟨_, hf⟩ := gd_some hf
    rcases ite_some hf with ⟨_, hf⟩ | ⟨_, hf⟩
    · skip
      exact m_X11_easiest_81 rec20 hrec20 _ _ _ _ hf
    · skip
      rcases ite_some hf with ⟨_, hf⟩ | ⟨_, hf⟩
      · skip
        exact m_X11_easiest_75 rec20 hrec20 _ _ _ hf
      · skip
        rcases ite_some hf with ⟨_, hf⟩ | ⟨_, hf⟩
        · skip
          exact m_X11_easiest_81 rec20 hrec20 _ _ _ _ hf
        · skip
          exact m_X11_easiest_75 rec20 hrec20 _ _ _ hf
theorem m_X11_easiest_20 {N : Nat} {ρ : Nat → Nat → Nat} {this : Nat} {a1 : Int32} {r : Int32} {σr : St} : ∀ (n : Nat) (x2 : Int32) (x3 : Int32) (x4 : Int32) (σ : St), f_X11_easiest_20 N ρ this a1 n x2 x3 x4 σ = some (r, σr) → Ag (fun p => p = ρ (ρ this 2) 10 ∨ p = ρ (ρ (ρ this 2) 8) 1) σ σr := by
  intro n
  induction n with
  | zero => intro x2 x3 x4 σ hf; cases hf
  | succ n ih => intro x2 x3 x4 σ hf; exact k_X11_easiest_20 _ ih x2 x3 x4 σ hf
theorem m_X11_easiest {N : Nat} {ρ : Nat → Nat → Nat} {this : Nat} {a1 : Int32} {r : Int32} {σr : St} {σ : St} (hf : f_X11_easiest N ρ this a1 σ = some (r, σr)) : Ag (fun p => p = ρ (ρ this 2) 10 ∨ p = ρ (ρ (ρ this 2) 8) 1) σ σr := by
  unfold f_X11_easiest at hf
  obtain ⟨_, σ10, q1, hf⟩ := bnd_some hf
  refine ag_call (m_X0_hasStool q1) (fun _ h => h.elim) ?_
  rcases ite_some hf with ⟨_, hf⟩ | ⟨_, hf⟩
  · skip
    cases hf
    exact ag_refl
  · skip
    exact m_X11_easiest_20 N _ _ _ _ hf
theorem m_X11_forlorn_45 {N : Nat} {ρ : Nat → Nat → Nat} {this : Nat} {r : Int32} {σr : St} (rec4 : Int32 → Int32 → St → Option (Int32 × St)) (hrec4 : ∀ (x1 : Int32) (x2 : Int32) (σ : St), rec4 x1 x2 σ = some (r, σr) → Ag (fun p => p = ρ (ρ this 2) 10 ∨ p = ρ (ρ (ρ this 2) 8) 1) σ σr) (x1 : Int32) (x2 : Int32) (σ : St) (hf : f_X11_forlorn_45 N ρ this rec4 x1 x2 σ = some (r, σr)) : Ag (fun p => p = ρ (ρ this 2) 10 ∨ p = ρ (ρ (ρ this 2) 8) 1) σ σr := by
  unfold f_X11_forlorn_45 at hf
  exact hrec4 _ _ _ hf
theorem k_X11_forlorn_4 {N : Nat} {ρ : Nat → Nat → Nat} {this : Nat} {r : Int32} {σr : St} (rec4 : Int32 → Int32 → St → Option (Int32 × St)) (hrec4 : ∀ (x1 : Int32) (x2 : Int32) (σ : St), rec4 x1 x2 σ = some (r, σr) → Ag (fun p => p = ρ (ρ this 2) 10 ∨ p = ρ (ρ (ρ this 2) 8) 1) σ σr) (x1 : Int32) (x2 : Int32) (σ : St) (hf : b_X11_forlorn_4 N ρ this rec4 x1 x2 σ = some (r, σr)) : Ag (fun p => p = ρ (ρ this 2) 10 ∨ p = ρ (ρ (ρ this 2) 8) 1) σ σr := by
  unfold b_X11_forlorn_4 at hf
  rcases ite_some hf with ⟨_, hf⟩ | ⟨_, hf⟩
  · skip
    cases hf
    exact ag_refl
  · skip
    obtain ⟨_, σ3, q1, hf⟩ := bnd_some hf
    refine ag_call (m_X0_allStools q1) (fun _ h => h.elim) ?_
    obtain ⟨_, σ6, q2, hf⟩ := bnd_some hf
    refine ag_call (m_X0_bearing q2) (fun _ h => by
          rcases h with h | h
          · exact (Or.inl h)
          · exact (Or.inr h)) ?_
    rcases ite_some hf with ⟨_, hf⟩ | ⟨_, hf⟩
    · skip
      obtain ⟨y9, ey9, hf⟩ := nmd_some hf
      exact m_X11_forlorn_45 rec4 hrec4 _ _ _ hf
    · skip
      exact m_X11_forlorn_45 rec4 hrec4 _ _ _ hf
theorem m_X11_forlorn_4 {N : Nat} {ρ : Nat → Nat → Nat} {this : Nat} {r : Int32} {σr : St} : ∀ (n : Nat) (x1 : Int32) (x2 : Int32) (σ : St), f_X11_forlorn_4 N ρ this n x1 x2 σ = some (r, σr) → Ag (fun p => p = ρ (ρ this 2) 10 ∨ p = ρ (ρ (ρ this 2) 8) 1) σ σr := by
  intro n
  induction n with
  | zero => intro x1 x2 σ hf; cases hf
  | succ n ih => intro x1 x2 σ hf; exact k_X11_forlorn_4 _ ih x1 x2 σ hf
theorem m_X11_forlorn {N : Nat} {ρ : Nat → Nat → Nat} {this : Nat} {r : Int32} {σr : St} {σ : St} (hf : f_X11_forlorn N ρ this σ = some (r, σr)) : Ag (fun p => p = ρ (ρ this 2) 10 ∨ p = ρ (ρ (ρ this 2) 8) 1) σ σr := by
  unfold f_X11_forlorn at hf
  exact m_X11_forlorn_4 N _ _ _ hf
theorem m_X11_nearest_76 {N : Nat} {ρ : Nat → Nat → Nat} {this : Nat} {a1 : Int32} {r : Int32} {σr : St} (rec17 : Int32 → Int32 → St → Option (Int32 × St)) (hrec17 : ∀ (x2 : Int32) (x3 : Int32) (σ : St), rec17 x2 x3 σ = some (r, σr) → Ag (fun p => False) σ σr) (x2 : Int32) (x3 : Int32) (σ : St) (hf : f_X11_nearest_76 N ρ this a1 rec17 x2 x3 σ = some (r, σr)) : Ag (fun p => False) σ σr := by
  unfold f_X11_nearest_76 at hf
  exact hrec17 _ _ _ hf
theorem m_X11_nearest_59 {N : Nat} {ρ : Nat → Nat → Nat} {this : Nat} {a1 : Int32} {r : Int32} {σr : St} (rec17 : Int32 → Int32 → St → Option (Int32 × St)) (hrec17 : ∀ (x2 : Int32) (x3 : Int32) (σ : St), rec17 x2 x3 σ = some (r, σr) → Ag (fun p => False) σ σr) (x2 : Int32) (x3 : Int32) (s0 : Int32) (σ : St) (hf : f_X11_nearest_59 N ρ this a1 rec17 x2 x3 s0 σ = some (r, σr)) : Ag (fun p => False) σ σr := by
  unfold f_X11_nearest_59 at hf
  rcases ite_some hf with ⟨_, hf⟩ | ⟨_, hf⟩
  · skip
    exact m_X11_nearest_76 rec17 hrec17 _ _ _ hf
  · skip
    obtain ⟨_, σ3, q1, hf⟩ := bnd_some hf
    refine ag_call (m_X11_hasRoomNow q1) (fun _ h => h.elim) ?_
    rcases ite_some hf with ⟨_, hf⟩ | ⟨_, hf⟩
    · skip
      exact m_X11_nearest_76 rec17 hrec17 _ _ _ hf
    · skip
      exact m_X11_nearest_76 rec17 hrec17 _ _ _ hf
theorem m_X11_nearest_54 {N : Nat} {ρ : Nat → Nat → Nat} {this : Nat} {a1 : Int32} {r : Int32} {σr : St} (rec17 : Int32 → Int32 → St → Option (Int32 × St)) (hrec17 : ∀ (x2 : Int32) (x3 : Int32) (σ : St), rec17 x2 x3 σ = some (r, σr) → Ag (fun p => False) σ σr) (x2 : Int32) (x3 : Int32) (σ : St) (hf : f_X11_nearest_54 N ρ this a1 rec17 x2 x3 σ = some (r, σr)) : Ag (fun p => False) σ σr := by
  unfold f_X11_nearest_54 at hf
  exact m_X11_nearest_59 rec17 hrec17 _ _ _ _ hf
theorem k_X11_nearest_17 {N : Nat} {ρ : Nat → Nat → Nat} {this : Nat} {a1 : Int32} {r : Int32} {σr : St} (rec17 : Int32 → Int32 → St → Option (Int32 × St)) (hrec17 : ∀ (x2 : Int32) (x3 : Int32) (σ : St), rec17 x2 x3 σ = some (r, σr) → Ag (fun p => False) σ σr) (x2 : Int32) (x3 : Int32) (σ : St) (hf : b_X11_nearest_17 N ρ this a1 rec17 x2 x3 σ = some (r, σr)) : Ag (fun p => False) σ σr := by
  unfold b_X11_nearest_17 at hf
  rcases ite_some hf with ⟨_, hf⟩ | ⟨_, hf⟩
  · skip
    cases hf
    exact ag_refl
  · skip
    rcases ite_some hf with ⟨_, hf⟩ | ⟨_, hf⟩
    · skip
      exact m_X11_nearest_54 rec17 hrec17 _ _ _ hf
    · skip
      obtain ⟨_, σ9, q1, hf⟩ := bnd_some hf
      refine ag_call (m_X0_wayOf q1) (fun _ h => h.elim) ?_
      obtain ⟨_, σ12, q2, hf⟩ := bnd_some hf
      refine ag_call (m_X0_wayOf q2) (fun _ h => h.elim) ?_
      rcases ite_some hf with ⟨_, hf⟩ | ⟨_, hf⟩
      · skip
        exact m_X11_nearest_59 rec17 hrec17 _ _ _ _ hf
      · skip
        exact m_X11_nearest_54 rec17 hrec17 _ _ _ hf
theorem m_X11_nearest_17 {N : Nat} {ρ : Nat → Nat → Nat} {this : Nat} {a1 : Int32} {r : Int32} {σr : St} : ∀ (n : Nat) (x2 : Int32) (x3 : Int32) (σ : St), f_X11_nearest_17 N ρ this a1 n x2 x3 σ = some (r, σr) → Ag (fun p => False) σ σr := by
  intro n
  induction n with
  | zero => intro x2 x3 σ hf; cases hf
  | succ n ih => intro x2 x3 σ hf; exact k_X11_nearest_17 _ ih x2 x3 σ hf
theorem m_X11_nearest {N : Nat} {ρ : Nat → Nat → Nat} {this : Nat} {a1 : Int32} {r : Int32} {σr : St} {σ : St} (hf : f_X11_nearest N ρ this a1 σ = some (r, σr)) : Ag (fun p => False) σ σr := by
  unfold f_X11_nearest at hf
  obtain ⟨_, σ16, q1, hf⟩ := bnd_some hf
  refine ag_call (m_X0_hasStool q1) (fun _ h => h.elim) ?_
  rcases ite_some hf with ⟨_, hf⟩ | ⟨_, hf⟩
  · skip
    cases hf
    exact ag_refl
  · skip
    exact m_X11_nearest_17 N _ _ _ hf
theorem k_X11_pilgrim_48 {N : Nat} {ρ : Nat → Nat → Nat} {this : Nat} {a1 : Int32} {r : Int32} {σr : St} (rec48 : Int32 → Int32 → Int32 → St → Option (Int32 × St)) (hrec48 : ∀ (x2 : Int32) (x3 : Int32) (x4 : Int32) (σ : St), rec48 x2 x3 x4 σ = some (r, σr) → Ag (fun p => False) σ σr) (x2 : Int32) (x3 : Int32) (x4 : Int32) (σ : St) (hf : b_X11_pilgrim_48 N ρ this a1 rec48 x2 x3 x4 σ = some (r, σr)) : Ag (fun p => False) σ σr := by
  unfold b_X11_pilgrim_48 at hf
  rcases ite_some hf with ⟨_, hf⟩ | ⟨_, hf⟩
  · skip
    obtain ⟨_, hf⟩ := gd_some hf
    obtain ⟨y3, ey3, hf⟩ := nmd_some hf
    cases hf
    exact ag_refl
  · skip
    obtain ⟨_, hf⟩ := gd_some hf
    obtain ⟨y5, ey5, hf⟩ := nmd_some hf
    obtain ⟨_, hf⟩ := gd_some hf
    obtain ⟨y7, ey7, hf⟩ := nmd_some hf
    exact hrec48 _ _ _ _ hf
theorem m_X11_pilgrim_48 {N : Nat} {ρ : Nat → Nat → Nat} {this : Nat} {a1 : Int32} {r : Int32} {σr : St} : ∀ (n : Nat) (x2 : Int32) (x3 : Int32) (x4 : Int32) (σ : St), f_X11_pilgrim_48 N ρ this a1 n x2 x3 x4 σ = some (r, σr) → Ag (fun p => False) σ σr := by
  intro n
  induction n with
  | zero => intro x2 x3 x4 σ hf; cases hf
  | succ n ih => intro x2 x3 x4 σ hf; exact k_X11_pilgrim_48 _ ih x2 x3 x4 σ hf
theorem m_X11_pilgrim {N : Nat} {ρ : Nat → Nat → Nat} {this : Nat} {a1 : Int32} {r : Int32} {σr : St} {σ : St} (hf : f_X11_pilgrim N ρ this a1 σ = some (r, σr)) : Ag (fun p => False) σ σr := by
  unfold f_X11_pilgrim at hf
  obtain ⟨_, σ9, q1, hf⟩ := bnd_some hf
  refine ag_call (m_X0_hasStool q1) (fun _ h => h.elim) ?_
  rcases ite_some hf with ⟨_, hf⟩ | ⟨_, hf⟩
  · skip
    cases hf
    exact ag_refl
  · skip
    rcases ite_some hf with ⟨_, hf⟩ | ⟨_, hf⟩
    · skip
      cases hf
      exact ag_refl
    · skip
      obtain ⟨_, hf⟩ := gd_some hf
      obtain ⟨y14, ey14, hf⟩ := nmd_some hf
      obtain ⟨_, hf⟩ := gd_some hf
      obtain ⟨y16, ey16, hf⟩ := nmd_some hf
      exact m_X11_pilgrim_48 N _ _ _ _ hf
theorem m_X11_law_12 {N : Nat} {ρ : Nat → Nat → Nat} {this : Nat} {a1 : Int32} {r : Int32} {σr : St} (σ : St) (hf : f_X11_law_12 N ρ this a1 σ = some (r, σr)) : Ag (fun p => p = ρ (ρ this 2) 10 ∨ p = ρ (ρ (ρ this 2) 8) 1) σ σr := by
  unfold f_X11_law_12 at hf
  cases hf
  exact ag_refl
theorem m_X11_law {N : Nat} {ρ : Nat → Nat → Nat} {this : Nat} {a1 : Int32} {r : Int32} {σr : St} {σ : St} (hf : f_X11_law N ρ this a1 σ = some (r, σr)) : Ag (fun p => p = ρ (ρ this 2) 10 ∨ p = ρ (ρ (ρ this 2) 8) 1) σ σr := by
  unfold f_X11_law at hf
  rcases ite_some hf with ⟨_, hf⟩ | ⟨_, hf⟩
  · skip
    exact m_X11_law_12 _ hf
  · skip
    rcases ite_some hf with ⟨_, hf⟩ | ⟨_, hf⟩
    · skip
      obtain ⟨_, σ4, q1, hf⟩ := bnd_some hf
      refine ag_call (m_X9_counting q1) (fun _ h => by
            rcases h with h | h
            · exact (Or.inl h)
            · exact (Or.inr h)) ?_
      obtain ⟨_, σ7, q2, hf⟩ := bnd_some hf
      refine ag_call (m_J6_bitCount_0f7a4 q2) (fun _ h => h.elim) ?_
      cases hf
      exact ag_refl
    · skip
      exact m_X11_law_12 _ hf
theorem m_X11_schisms_54 {N : Nat} {ρ : Nat → Nat → Nat} {this : Nat} {r : Int32} {σr : St} (rec4 : Int32 → Int32 → St → Option (Int32 × St)) (hrec4 : ∀ (x1 : Int32) (x2 : Int32) (σ : St), rec4 x1 x2 σ = some (r, σr) → Ag (fun p => False) σ σr) (rec19 : Int32 → Int32 → Int32 → St → Option (Int32 × St)) (hrec19 : ∀ (x1 : Int32) (x2 : Int32) (x3 : Int32) (σ : St), rec19 x1 x2 x3 σ = some (r, σr) → Ag (fun p => False) σ σr) (x1 : Int32) (x2 : Int32) (x3 : Int32) (σ : St) (hf : f_X11_schisms_54 N ρ this rec4 rec19 x1 x2 x3 σ = some (r, σr)) : Ag (fun p => False) σ σr := by
  unfold f_X11_schisms_54 at hf
  exact hrec19 _ _ _ _ hf
theorem k_X11_schisms_19 {N : Nat} {ρ : Nat → Nat → Nat} {this : Nat} {r : Int32} {σr : St} (rec4 : Int32 → Int32 → St → Option (Int32 × St)) (hrec4 : ∀ (x1 : Int32) (x2 : Int32) (σ : St), rec4 x1 x2 σ = some (r, σr) → Ag (fun p => False) σ σr) (rec19 : Int32 → Int32 → Int32 → St → Option (Int32 × St)) (hrec19 : ∀ (x1 : Int32) (x2 : Int32) (x3 : Int32) (σ : St), rec19 x1 x2 x3 σ = some (r, σr) → Ag (fun p => False) σ σr) (x1 : Int32) (x2 : Int32) (x3 : Int32) (σ : St) (hf : b_X11_schisms_19 N ρ this rec4 rec19 x1 x2 x3 σ = some (r, σr)) : Ag (fun p => False) σ σr := by
  unfold b_X11_schisms_19 at hf
  rcases ite_some hf with ⟨_, hf⟩ | ⟨_, hf⟩
  · skip
    exact hrec4 _ _ _ hf
  · skip
    obtain ⟨_, hf⟩ := gd_some hf
    obtain ⟨_, hf⟩ := gd_some hf
    rcases ite_some hf with ⟨_, hf⟩ | ⟨_, hf⟩
    · skip
      exact m_X11_schisms_54 rec4 hrec4 rec19 hrec19 _ _ _ _ hf
    · skip
      exact m_X11_schisms_54 rec4 hrec4 rec19 hrec19 _ _ _ _ hf
theorem m_X11_schisms_19 {N : Nat} {ρ : Nat → Nat → Nat} {this : Nat} {r : Int32} {σr : St} (rec4 : Int32 → Int32 → St → Option (Int32 × St)) (hrec4 : ∀ (x1 : Int32) (x2 : Int32) (σ : St), rec4 x1 x2 σ = some (r, σr) → Ag (fun p => False) σ σr) : ∀ (n : Nat) (x1 : Int32) (x2 : Int32) (x3 : Int32) (σ : St), f_X11_schisms_19 N ρ this rec4 n x1 x2 x3 σ = some (r, σr) → Ag (fun p => False) σ σr := by
  intro n
  induction n with
  | zero => intro x1 x2 x3 σ hf; cases hf
  | succ n ih => intro x1 x2 x3 σ hf; exact k_X11_schisms_19 rec4 hrec4 _ ih x1 x2 x3 σ hf
theorem k_X11_schisms_4 {N : Nat} {ρ : Nat → Nat → Nat} {this : Nat} {r : Int32} {σr : St} (rec4 : Int32 → Int32 → St → Option (Int32 × St)) (hrec4 : ∀ (x1 : Int32) (x2 : Int32) (σ : St), rec4 x1 x2 σ = some (r, σr) → Ag (fun p => False) σ σr) (x1 : Int32) (x2 : Int32) (σ : St) (hf : b_X11_schisms_4 N ρ this rec4 x1 x2 σ = some (r, σr)) : Ag (fun p => False) σ σr := by
  unfold b_X11_schisms_4 at hf
  rcases ite_some hf with ⟨_, hf⟩ | ⟨_, hf⟩
  · skip
    cases hf
    exact ag_refl
  · skip
    obtain ⟨y6, ey6, hf⟩ := nmd_some hf
    exact m_X11_schisms_19 rec4 hrec4 N _ _ _ _ hf
theorem m_X11_schisms_4 {N : Nat} {ρ : Nat → Nat → Nat} {this : Nat} {r : Int32} {σr : St} : ∀ (n : Nat) (x1 : Int32) (x2 : Int32) (σ : St), f_X11_schisms_4 N ρ this n x1 x2 σ = some (r, σr) → Ag (fun p => False) σ σr := by
  intro n
  induction n with
  | zero => intro x1 x2 σ hf; cases hf
  | succ n ih => intro x1 x2 σ hf; exact k_X11_schisms_4 _ ih x1 x2 σ hf
theorem m_X11_schisms {N : Nat} {ρ : Nat → Nat → Nat} {this : Nat} {r : Int32} {σr : St} {σ : St} (hf : f_X11_schisms N ρ this σ = some (r, σr)) : Ag (fun p => False) σ σr := by
  unfold f_X11_schisms at hf
  exact m_X11_schisms_4 N _ _ _ hf
theorem m_X11_commonDivisor_34 {N : Nat} {ρ : Nat → Nat → Nat} {a1 : Int32} {a2 : Int32} {r : Int32} {σr : St} (x2 : Int32) (σ : St) (hf : f_X11_commonDivisor_34 N ρ a1 a2 x2 σ = some (r, σr)) : Ag (fun p => False) σ σr := by
  unfold f_X11_commonDivisor_34 at hf
  cases hf
  exact ag_refl
theorem k_X11_commonDivisor_7 {N : Nat} {ρ : Nat → Nat → Nat} {a1 : Int32} {a2 : Int32} {r : Int32} {σr : St} (rec7 : Int32 → Int32 → Int32 → St → Option (Int32 × St)) (hrec7 : ∀ (x2 : Int32) (x3 : Int32) (x4 : Int32) (σ : St), rec7 x2 x3 x4 σ = some (r, σr) → Ag (fun p => False) σ σr) (x2 : Int32) (x3 : Int32) (x4 : Int32) (σ : St) (hf : b_X11_commonDivisor_7 N ρ a1 a2 rec7 x2 x3 x4 σ = some (r, σr)) : Ag (fun p => False) σ σr := by
  unfold b_X11_commonDivisor_7 at hf
  rcases ite_some hf with ⟨_, hf⟩ | ⟨_, hf⟩
  · skip
    exact m_X11_commonDivisor_34 _ _ hf
  · skip
    rcases ite_some hf with ⟨_, hf⟩ | ⟨_, hf⟩
    · skip
      exact m_X11_commonDivisor_34 _ _ hf
    · skip
      obtain ⟨_, hf⟩ := gd_some hf
      obtain ⟨y4, ey4, hf⟩ := nmd_some hf
      exact hrec7 _ _ _ _ hf
theorem m_X11_commonDivisor_7 {N : Nat} {ρ : Nat → Nat → Nat} {a1 : Int32} {a2 : Int32} {r : Int32} {σr : St} : ∀ (n : Nat) (x2 : Int32) (x3 : Int32) (x4 : Int32) (σ : St), f_X11_commonDivisor_7 N ρ a1 a2 n x2 x3 x4 σ = some (r, σr) → Ag (fun p => False) σ σr := by
  intro n
  induction n with
  | zero => intro x2 x3 x4 σ hf; cases hf
  | succ n ih => intro x2 x3 x4 σ hf; exact k_X11_commonDivisor_7 _ ih x2 x3 x4 σ hf
theorem m_X11_commonDivisor {N : Nat} {ρ : Nat → Nat → Nat} {a1 : Int32} {a2 : Int32} {r : Int32} {σr : St} {σ : St} (hf : f_X11_commonDivisor N ρ a1 a2 σ = some (r, σr)) : Ag (fun p => False) σ σr := by
  unfold f_X11_commonDivisor at hf
  exact m_X11_commonDivisor_7 N _ _ _ _ hf
theorem m_X11_odds_18 {N : Nat} {ρ : Nat → Nat → Nat} {this : Nat} {a1 : Int32} {a2 : Int32} {r : Int32} {σr : St} (σ : St) (hf : f_X11_odds_18 N ρ this a1 a2 σ = some (r, σr)) : Ag (fun p => False) σ σr := by
  unfold f_X11_odds_18 at hf
  cases hf
  exact ag_refl
theorem m_X11_odds_85 {N : Nat} {ρ : Nat → Nat → Nat} {this : Nat} {a1 : Int32} {a2 : Int32} {r : Int32} {σr : St} (x5 : Int32) (s0 : Int32) (σ : St) (hf : f_X11_odds_85 N ρ this a1 a2 x5 s0 σ = some (r, σr)) : Ag (fun p => False) σ σr := by
  unfold f_X11_odds_85 at hf
  obtain ⟨_, hf⟩ := gd_some hf
  cases hf
  exact ag_refl
theorem k_X11_odds_28 {N : Nat} {ρ : Nat → Nat → Nat} {this : Nat} {a1 : Int32} {a2 : Int32} {r : Int32} {σr : St} (rec28 : Int32 → Int32 → Int32 → St → Option (Int32 × St)) (hrec28 : ∀ (x3 : Int32) (x4 : Int32) (x5 : Int32) (σ : St), rec28 x3 x4 x5 σ = some (r, σr) → Ag (fun p => False) σ σr) (x3 : Int32) (x4 : Int32) (x5 : Int32) (σ : St) (hf : b_X11_odds_28 N ρ this a1 a2 rec28 x3 x4 x5 σ = some (r, σr)) : Ag (fun p => False) σ σr := by
  unfold b_X11_odds_28 at hf
  rcases ite_some hf with ⟨_, hf⟩ | ⟨_, hf⟩
  · skip
    obtain ⟨_, σ4, q1, hf⟩ := bnd_some hf
    refine ag_call (m_X11_commonDivisor q1) (fun _ h => h.elim) ?_
    rcases ite_some hf with ⟨_, hf⟩ | ⟨_, hf⟩
    · skip
      cases hf
      exact ag_refl
    · skip
      rcases ite_some hf with ⟨_, hf⟩ | ⟨_, hf⟩
      · skip
        exact m_X11_odds_85 _ _ _ hf
      · skip
        exact m_X11_odds_85 _ _ _ hf
  · skip
    obtain ⟨y8, ey8, hf⟩ := nmd_some hf
    obtain ⟨y9, ey9, hf⟩ := nmd_some hf
    exact hrec28 _ _ _ _ hf
theorem m_X11_odds_28 {N : Nat} {ρ : Nat → Nat → Nat} {this : Nat} {a1 : Int32} {a2 : Int32} {r : Int32} {σr : St} : ∀ (n : Nat) (x3 : Int32) (x4 : Int32) (x5 : Int32) (σ : St), f_X11_odds_28 N ρ this a1 a2 n x3 x4 x5 σ = some (r, σr) → Ag (fun p => False) σ σr := by
  intro n
  induction n with
  | zero => intro x3 x4 x5 σ hf; cases hf
  | succ n ih => intro x3 x4 x5 σ hf; exact k_X11_odds_28 _ ih x3 x4 x5 σ hf
theorem m_X11_odds {N : Nat} {ρ : Nat → Nat → Nat} {this : Nat} {a1 : Int32} {a2 : Int32} {r : Int32} {σr : St} {σ : St} (hf : f_X11_odds N ρ this a1 a2 σ = some (r, σr)) : Ag (fun p => False) σ σr := by
  unfold f_X11_odds at hf
  rcases ite_some hf with ⟨_, hf⟩ | ⟨_, hf⟩
  · skip
    exact m_X11_odds_18 _ hf
  · skip
    rcases ite_some hf with ⟨_, hf⟩ | ⟨_, hf⟩
    · skip
      exact m_X11_odds_18 _ hf
    · skip
      rcases ite_some hf with ⟨_, hf⟩ | ⟨_, hf⟩
      · skip
        exact m_X11_odds_18 _ hf
      · skip
        rcases ite_some hf with ⟨_, hf⟩ | ⟨_, hf⟩
        · skip
          exact m_X11_odds_28 N _ _ _ _ hf
        · skip
          exact m_X11_odds_18 _ hf
theorem m_X11_lasts_22 {N : Nat} {ρ : Nat → Nat → Nat} {this : Nat} {a1 : Int32} {a2 : Int32} {r : Int32} {σr : St} (σ : St) (hf : f_X11_lasts_22 N ρ this a1 a2 σ = some (r, σr)) : Ag (fun p => p = ρ (ρ this 2) 10 ∨ p = ρ (ρ (ρ this 2) 8) 1 ∨ p = ρ (ρ (ρ this 2) 9) 1 ∨ p = ρ (ρ this 5) 2 ∨ p = ρ (ρ this 5) 1 ∨ p = ρ (ρ this 5) 0 ∨ p = ρ this 5 ∨ p = ρ (ρ this 5) 3) σ σr := by
  unfold f_X11_lasts_22 at hf
  cases hf
  exact ag_refl
theorem k_X11_lasts_37 {N : Nat} {ρ : Nat → Nat → Nat} {this : Nat} {a1 : Int32} {a2 : Int32} {r : Int32} {σr : St} (rec37 : Int32 → St → Option (Int32 × St)) (hrec37 : ∀ (x3 : Int32) (σ : St), rec37 x3 σ = some (r, σr) → Ag (fun p => p = ρ (ρ this 2) 10 ∨ p = ρ (ρ (ρ this 2) 8) 1 ∨ p = ρ (ρ (ρ this 2) 9) 1 ∨ p = ρ (ρ this 5) 2 ∨ p = ρ (ρ this 5) 1 ∨ p = ρ (ρ this 5) 0 ∨ p = ρ this 5 ∨ p = ρ (ρ this 5) 3) σ σr) (x3 : Int32) (σ : St) (hf : b_X11_lasts_37 N ρ this a1 a2 rec37 x3 σ = some (r, σr)) : Ag (fun p => p = ρ (ρ this 2) 10 ∨ p = ρ (ρ (ρ this 2) 8) 1 ∨ p = ρ (ρ (ρ this 2) 9) 1 ∨ p = ρ (ρ this 5) 2 ∨ p = ρ (ρ this 5) 1 ∨ p = ρ (ρ this 5) 0 ∨ p = ρ this 5 ∨ p = ρ (ρ this 5) 3) σ σr := by
  unfold b_X11_lasts_37 at hf
  rcases ite_some hf with ⟨_, hf⟩ | ⟨_, hf⟩
  · skip
    cases hf
    exact ag_refl
  · skip
    obtain ⟨_, σ3, q1, hf⟩ := bnd_some hf
    refine ag_call (m_X9_kneel q1) (fun _ h => by
          rcases h with h | h | h | h | h | h
          · exact (Or.inl h)
          · exact (Or.inr (Or.inl h))
          · exact (Or.inr (Or.inr (Or.inl h)))
          · exact (Or.inr (Or.inr (Or.inr (Or.inl h))))
          · exact (Or.inr (Or.inr (Or.inr (Or.inr (Or.inl h)))))
          · exact (Or.inr (Or.inr (Or.inr (Or.inr (Or.inr (Or.inl h))))))) ?_
    rcases ite_some hf with ⟨_, hf⟩ | ⟨_, hf⟩
    · skip
      cases hf
      exact ag_refl
    · skip
      obtain ⟨σ6, eσ6, hf⟩ := nmd_some hf
      refine ag_I eσ6 (Or.inr (Or.inr (Or.inr (Or.inr (Or.inr (Or.inr (Or.inl rfl))))))) ?_
      exact hrec37 _ _ hf
theorem m_X11_lasts_37 {N : Nat} {ρ : Nat → Nat → Nat} {this : Nat} {a1 : Int32} {a2 : Int32} {r : Int32} {σr : St} : ∀ (n : Nat) (x3 : Int32) (σ : St), f_X11_lasts_37 N ρ this a1 a2 n x3 σ = some (r, σr) → Ag (fun p => p = ρ (ρ this 2) 10 ∨ p = ρ (ρ (ρ this 2) 8) 1 ∨ p = ρ (ρ (ρ this 2) 9) 1 ∨ p = ρ (ρ this 5) 2 ∨ p = ρ (ρ this 5) 1 ∨ p = ρ (ρ this 5) 0 ∨ p = ρ this 5 ∨ p = ρ (ρ this 5) 3) σ σr := by
  intro n
  induction n with
  | zero => intro x3 σ hf; cases hf
  | succ n ih => intro x3 σ hf; exact k_X11_lasts_37 _ ih x3 σ hf
theorem m_X11_lasts {N : Nat} {ρ : Nat → Nat → Nat} {this : Nat} {a1 : Int32} {a2 : Int32} {r : Int32} {σr : St} {σ : St} (hf : f_X11_lasts N ρ this a1 a2 σ = some (r, σr)) : Ag (fun p => p = ρ (ρ this 2) 10 ∨ p = ρ (ρ (ρ this 2) 8) 1 ∨ p = ρ (ρ (ρ this 2) 9) 1 ∨ p = ρ (ρ this 5) 2 ∨ p = ρ (ρ this 5) 1 ∨ p = ρ (ρ this 5) 0 ∨ p = ρ this 5 ∨ p = ρ (ρ this 5) 3) σ σr := by
  unfold f_X11_lasts at hf
  obtain ⟨_, σ8, q1, hf⟩ := bnd_some hf
  refine ag_call (m_X0_hasStool q1) (fun _ h => h.elim) ?_
  rcases ite_some hf with ⟨_, hf⟩ | ⟨_, hf⟩
  · skip
    exact m_X11_lasts_22 _ hf
  · skip
    obtain ⟨_, σ12, q2, hf⟩ := bnd_some hf
    refine ag_call (m_X0_hasHearth q2) (fun _ h => h.elim) ?_
    rcases ite_some hf with ⟨_, hf⟩ | ⟨_, hf⟩
    · skip
      exact m_X11_lasts_22 _ hf
    · skip
      obtain ⟨_, σ16, q3, hf⟩ := bnd_some hf
      refine ag_call (m_X9_copy q3) (fun _ h => by
            rcases h with h | h | h | h | h
            · exact (Or.inr (Or.inr (Or.inr (Or.inr (Or.inr (Or.inl h))))))
            · exact (Or.inr (Or.inr (Or.inr (Or.inr (Or.inl h)))))
            · exact (Or.inr (Or.inr (Or.inr (Or.inl h))))
            · exact (Or.inr (Or.inr (Or.inr (Or.inr (Or.inr (Or.inr (Or.inr h)))))))
            · exact (Or.inr (Or.inr (Or.inr (Or.inr (Or.inr (Or.inr (Or.inl h)))))))) ?_
      exact m_X11_lasts_37 N _ _ hf
theorem m_X11_soon_22 {N : Nat} {ρ : Nat → Nat → Nat} {this : Nat} {a1 : Int32} {a2 : Int32} {r : Int32} {σr : St} (σ : St) (hf : f_X11_soon_22 N ρ this a1 a2 σ = some (r, σr)) : Ag (fun p => p = ρ (ρ this 2) 10 ∨ p = ρ (ρ (ρ this 2) 8) 1 ∨ p = ρ (ρ (ρ this 2) 9) 1 ∨ p = ρ (ρ this 5) 2 ∨ p = ρ (ρ this 5) 1 ∨ p = ρ (ρ this 5) 0 ∨ p = ρ this 5 ∨ p = ρ (ρ this 5) 3) σ σr := by
  unfold f_X11_soon_22 at hf
  cases hf
  exact ag_refl
theorem k_X11_soon_37 {N : Nat} {ρ : Nat → Nat → Nat} {this : Nat} {a1 : Int32} {a2 : Int32} {r : Int32} {σr : St} (rec37 : Int32 → St → Option (Int32 × St)) (hrec37 : ∀ (x3 : Int32) (σ : St), rec37 x3 σ = some (r, σr) → Ag (fun p => p = ρ (ρ this 2) 10 ∨ p = ρ (ρ (ρ this 2) 8) 1 ∨ p = ρ (ρ (ρ this 2) 9) 1 ∨ p = ρ (ρ this 5) 2 ∨ p = ρ (ρ this 5) 1 ∨ p = ρ (ρ this 5) 0 ∨ p = ρ this 5 ∨ p = ρ (ρ this 5) 3) σ σr) (x3 : Int32) (σ : St) (hf : b_X11_soon_37 N ρ this a1 a2 rec37 x3 σ = some (r, σr)) : Ag (fun p => p = ρ (ρ this 2) 10 ∨ p = ρ (ρ (ρ this 2) 8) 1 ∨ p = ρ (ρ (ρ this 2) 9) 1 ∨ p = ρ (ρ this 5) 2 ∨ p = ρ (ρ this 5) 1 ∨ p = ρ (ρ this 5) 0 ∨ p = ρ this 5 ∨ p = ρ (ρ this 5) 3) σ σr := by
  unfold b_X11_soon_37 at hf
  rcases ite_some hf with ⟨_, hf⟩ | ⟨_, hf⟩
  · skip
    cases hf
    exact ag_refl
  · skip
    obtain ⟨_, σ3, q1, hf⟩ := bnd_some hf
    refine ag_call (m_X9_isSaved q1) (fun _ h => h.elim) ?_
    rcases ite_some hf with ⟨_, hf⟩ | ⟨_, hf⟩
    · skip
      obtain ⟨_, σ7, q2, hf⟩ := bnd_some hf
      refine ag_call (m_X9_kneel q2) (fun _ h => by
            rcases h with h | h | h | h | h | h
            · exact (Or.inl h)
            · exact (Or.inr (Or.inl h))
            · exact (Or.inr (Or.inr (Or.inl h)))
            · exact (Or.inr (Or.inr (Or.inr (Or.inl h))))
            · exact (Or.inr (Or.inr (Or.inr (Or.inr (Or.inl h)))))
            · exact (Or.inr (Or.inr (Or.inr (Or.inr (Or.inr (Or.inl h))))))) ?_
      obtain ⟨σ9, eσ9, hf⟩ := nmd_some hf
      refine ag_I eσ9 (Or.inr (Or.inr (Or.inr (Or.inr (Or.inr (Or.inr (Or.inl rfl))))))) ?_
      exact hrec37 _ _ hf
    · skip
      cases hf
      exact ag_refl
theorem m_X11_soon_37 {N : Nat} {ρ : Nat → Nat → Nat} {this : Nat} {a1 : Int32} {a2 : Int32} {r : Int32} {σr : St} : ∀ (n : Nat) (x3 : Int32) (σ : St), f_X11_soon_37 N ρ this a1 a2 n x3 σ = some (r, σr) → Ag (fun p => p = ρ (ρ this 2) 10 ∨ p = ρ (ρ (ρ this 2) 8) 1 ∨ p = ρ (ρ (ρ this 2) 9) 1 ∨ p = ρ (ρ this 5) 2 ∨ p = ρ (ρ this 5) 1 ∨ p = ρ (ρ this 5) 0 ∨ p = ρ this 5 ∨ p = ρ (ρ this 5) 3) σ σr := by
  intro n
  induction n with
  | zero => intro x3 σ hf; cases hf
  | succ n ih => intro x3 σ hf; exact k_X11_soon_37 _ ih x3 σ hf
theorem m_X11_soon {N : Nat} {ρ : Nat → Nat → Nat} {this : Nat} {a1 : Int32} {a2 : Int32} {r : Int32} {σr : St} {σ : St} (hf : f_X11_soon N ρ this a1 a2 σ = some (r, σr)) : Ag (fun p => p = ρ (ρ this 2) 10 ∨ p = ρ (ρ (ρ this 2) 8) 1 ∨ p = ρ (ρ (ρ this 2) 9) 1 ∨ p = ρ (ρ this 5) 2 ∨ p = ρ (ρ this 5) 1 ∨ p = ρ (ρ this 5) 0 ∨ p = ρ this 5 ∨ p = ρ (ρ this 5) 3) σ σr := by
  unfold f_X11_soon at hf
  obtain ⟨_, σ11, q1, hf⟩ := bnd_some hf
  refine ag_call (m_X0_hasStool q1) (fun _ h => h.elim) ?_
  rcases ite_some hf with ⟨_, hf⟩ | ⟨_, hf⟩
  · skip
    exact m_X11_soon_22 _ hf
  · skip
    obtain ⟨_, σ15, q2, hf⟩ := bnd_some hf
    refine ag_call (m_X0_hasHearth q2) (fun _ h => h.elim) ?_
    rcases ite_some hf with ⟨_, hf⟩ | ⟨_, hf⟩
    · skip
      exact m_X11_soon_22 _ hf
    · skip
      obtain ⟨_, σ19, q3, hf⟩ := bnd_some hf
      refine ag_call (m_X9_copy q3) (fun _ h => by
            rcases h with h | h | h | h | h
            · exact (Or.inr (Or.inr (Or.inr (Or.inr (Or.inr (Or.inl h))))))
            · exact (Or.inr (Or.inr (Or.inr (Or.inr (Or.inl h)))))
            · exact (Or.inr (Or.inr (Or.inr (Or.inl h))))
            · exact (Or.inr (Or.inr (Or.inr (Or.inr (Or.inr (Or.inr (Or.inr h)))))))
            · exact (Or.inr (Or.inr (Or.inr (Or.inr (Or.inr (Or.inr (Or.inl h)))))))) ?_
      exact m_X11_soon_37 N _ _ hf
theorem m_X11_isAhead_15 {N : Nat} {ρ : Nat → Nat → Nat} {this : Nat} {a1 : Int32} {r : Int32} {σr : St} (s0 : Int32) (σ : St) (hf : f_X11_isAhead_15 N ρ this a1 s0 σ = some (r, σr)) : Ag (fun p => False) σ σr := by
  unfold f_X11_isAhead_15 at hf
  obtain ⟨_, hf⟩ := gd_some hf
  cases hf
  exact ag_refl
theorem m_X11_isAhead_14 {N : Nat} {ρ : Nat → Nat → Nat} {this : Nat} {a1 : Int32} {r : Int32} {σr : St} (σ : St) (hf : f_X11_isAhead_14 N ρ this a1 σ = some (r, σr)) : Ag (fun p => False) σ σr := by
  unfold f_X11_isAhead_14 at hf
  exact m_X11_isAhead_15 _ _ hf
theorem m_X11_isAhead {N : Nat} {ρ : Nat → Nat → Nat} {this : Nat} {a1 : Int32} {r : Int32} {σr : St} {σ : St} (hf : f_X11_isAhead N ρ this a1 σ = some (r, σr)) : Ag (fun p => False) σ σr := by
  unfold f_X11_isAhead at hf
  rcases ite_some hf with ⟨_, hf⟩ | ⟨_, hf⟩
  · skip
    exact m_X11_isAhead_14 _ hf
  · skip
    rcases ite_some hf with ⟨_, hf⟩ | ⟨_, hf⟩
    · skip
      exact m_X11_isAhead_14 _ hf
    · skip
      exact m_X11_isAhead_15 _ _ hf
theorem m_X11_will_19 {N : Nat} {ρ : Nat → Nat → Nat} {this : Nat} {a1 : Int32} {a2 : Int32} {r : Int32} {σr : St} (σ : St) (hf : f_X11_will_19 N ρ this a1 a2 σ = some (r, σr)) : Ag (fun p => p = ρ this 5 ∨ p = ρ (ρ this 2) 10 ∨ p = ρ (ρ (ρ this 2) 8) 1 ∨ p = ρ (ρ (ρ this 2) 9) 1 ∨ p = ρ (ρ this 5) 2 ∨ p = ρ (ρ this 5) 1 ∨ p = ρ (ρ this 5) 0 ∨ p = ρ (ρ this 5) 3) σ σr := by
  unfold f_X11_will_19 at hf
  cases hf
  exact ag_refl
theorem k_X11_will_34 {N : Nat} {ρ : Nat → Nat → Nat} {this : Nat} {a1 : Int32} {a2 : Int32} {r : Int32} {σr : St} (rec34 : Int32 → St → Option (Int32 × St)) (hrec34 : ∀ (x3 : Int32) (σ : St), rec34 x3 σ = some (r, σr) → Ag (fun p => p = ρ this 5 ∨ p = ρ (ρ this 2) 10 ∨ p = ρ (ρ (ρ this 2) 8) 1 ∨ p = ρ (ρ (ρ this 2) 9) 1 ∨ p = ρ (ρ this 5) 2 ∨ p = ρ (ρ this 5) 1 ∨ p = ρ (ρ this 5) 0 ∨ p = ρ (ρ this 5) 3) σ σr) (x3 : Int32) (σ : St) (hf : b_X11_will_34 N ρ this a1 a2 rec34 x3 σ = some (r, σr)) : Ag (fun p => p = ρ this 5 ∨ p = ρ (ρ this 2) 10 ∨ p = ρ (ρ (ρ this 2) 8) 1 ∨ p = ρ (ρ (ρ this 2) 9) 1 ∨ p = ρ (ρ this 5) 2 ∨ p = ρ (ρ this 5) 1 ∨ p = ρ (ρ this 5) 0 ∨ p = ρ (ρ this 5) 3) σ σr := by
  unfold b_X11_will_34 at hf
  rcases ite_some hf with ⟨_, hf⟩ | ⟨_, hf⟩
  · skip
    obtain ⟨_, hf⟩ := gd_some hf
    cases hf
    exact ag_refl
  · skip
    obtain ⟨_, σ4, q1, hf⟩ := bnd_some hf
    refine ag_call (m_X9_drawCold q1) (fun _ h => (Or.inl h)) ?_
    obtain ⟨_, σ7, q2, hf⟩ := bnd_some hf
    refine ag_call (m_X9_passEvening q2) (fun _ h => by
          rcases h with h | h | h | h | h | h | h
          · exact (Or.inl h)
          · exact (Or.inr (Or.inl h))
          · exact (Or.inr (Or.inr (Or.inl h)))
          · exact (Or.inr (Or.inr (Or.inr (Or.inl h))))
          · exact (Or.inr (Or.inr (Or.inr (Or.inr (Or.inl h)))))
          · exact (Or.inr (Or.inr (Or.inr (Or.inr (Or.inr (Or.inl h))))))
          · exact (Or.inr (Or.inr (Or.inr (Or.inr (Or.inr (Or.inr (Or.inl h)))))))) ?_
    exact hrec34 _ _ hf
theorem m_X11_will_34 {N : Nat} {ρ : Nat → Nat → Nat} {this : Nat} {a1 : Int32} {a2 : Int32} {r : Int32} {σr : St} : ∀ (n : Nat) (x3 : Int32) (σ : St), f_X11_will_34 N ρ this a1 a2 n x3 σ = some (r, σr) → Ag (fun p => p = ρ this 5 ∨ p = ρ (ρ this 2) 10 ∨ p = ρ (ρ (ρ this 2) 8) 1 ∨ p = ρ (ρ (ρ this 2) 9) 1 ∨ p = ρ (ρ this 5) 2 ∨ p = ρ (ρ this 5) 1 ∨ p = ρ (ρ this 5) 0 ∨ p = ρ (ρ this 5) 3) σ σr := by
  intro n
  induction n with
  | zero => intro x3 σ hf; cases hf
  | succ n ih => intro x3 σ hf; exact k_X11_will_34 _ ih x3 σ hf
theorem m_X11_will {N : Nat} {ρ : Nat → Nat → Nat} {this : Nat} {a1 : Int32} {a2 : Int32} {r : Int32} {σr : St} {σ : St} (hf : f_X11_will N ρ this a1 a2 σ = some (r, σr)) : Ag (fun p => p = ρ this 5 ∨ p = ρ (ρ this 2) 10 ∨ p = ρ (ρ (ρ this 2) 8) 1 ∨ p = ρ (ρ (ρ this 2) 9) 1 ∨ p = ρ (ρ this 5) 2 ∨ p = ρ (ρ this 5) 1 ∨ p = ρ (ρ this 5) 0 ∨ p = ρ (ρ this 5) 3) σ σr := by
  unfold f_X11_will at hf
  obtain ⟨_, σ10, q1, hf⟩ := bnd_some hf
  refine ag_call (m_X0_hasStool q1) (fun _ h => h.elim) ?_
  rcases ite_some hf with ⟨_, hf⟩ | ⟨_, hf⟩
  · skip
    exact m_X11_will_19 _ hf
  · skip
    obtain ⟨_, σ14, q2, hf⟩ := bnd_some hf
    refine ag_call (m_X11_isAhead q2) (fun _ h => h.elim) ?_
    rcases ite_some hf with ⟨_, hf⟩ | ⟨_, hf⟩
    · skip
      exact m_X11_will_19 _ hf
    · skip
      obtain ⟨_, σ18, q3, hf⟩ := bnd_some hf
      refine ag_call (m_X9_copy q3) (fun _ h => by
            rcases h with h | h | h | h | h
            · exact (Or.inr (Or.inr (Or.inr (Or.inr (Or.inr (Or.inr (Or.inl h)))))))
            · exact (Or.inr (Or.inr (Or.inr (Or.inr (Or.inr (Or.inl h))))))
            · exact (Or.inr (Or.inr (Or.inr (Or.inr (Or.inl h)))))
            · exact (Or.inr (Or.inr (Or.inr (Or.inr (Or.inr (Or.inr (Or.inr h)))))))
            · exact (Or.inl h)) ?_
      exact m_X11_will_34 N _ _ hf
theorem m_X11_strength_19 {N : Nat} {ρ : Nat → Nat → Nat} {this : Nat} {a1 : Int32} {a2 : Int32} {r : Int32} {σr : St} (σ : St) (hf : f_X11_strength_19 N ρ this a1 a2 σ = some (r, σr)) : Ag (fun p => p = ρ this 5 ∨ p = ρ (ρ this 2) 10 ∨ p = ρ (ρ (ρ this 2) 8) 1 ∨ p = ρ (ρ (ρ this 2) 9) 1 ∨ p = ρ (ρ this 5) 2 ∨ p = ρ (ρ this 5) 1 ∨ p = ρ (ρ this 5) 0 ∨ p = ρ (ρ this 5) 3) σ σr := by
  unfold f_X11_strength_19 at hf
  cases hf
  exact ag_refl
theorem k_X11_strength_34 {N : Nat} {ρ : Nat → Nat → Nat} {this : Nat} {a1 : Int32} {a2 : Int32} {r : Int32} {σr : St} (rec34 : Int32 → St → Option (Int32 × St)) (hrec34 : ∀ (x3 : Int32) (σ : St), rec34 x3 σ = some (r, σr) → Ag (fun p => p = ρ this 5 ∨ p = ρ (ρ this 2) 10 ∨ p = ρ (ρ (ρ this 2) 8) 1 ∨ p = ρ (ρ (ρ this 2) 9) 1 ∨ p = ρ (ρ this 5) 2 ∨ p = ρ (ρ this 5) 1 ∨ p = ρ (ρ this 5) 0 ∨ p = ρ (ρ this 5) 3) σ σr) (x3 : Int32) (σ : St) (hf : b_X11_strength_34 N ρ this a1 a2 rec34 x3 σ = some (r, σr)) : Ag (fun p => p = ρ this 5 ∨ p = ρ (ρ this 2) 10 ∨ p = ρ (ρ (ρ this 2) 8) 1 ∨ p = ρ (ρ (ρ this 2) 9) 1 ∨ p = ρ (ρ this 5) 2 ∨ p = ρ (ρ this 5) 1 ∨ p = ρ (ρ this 5) 0 ∨ p = ρ (ρ this 5) 3) σ σr := by
  unfold b_X11_strength_34 at hf
  rcases ite_some hf with ⟨_, hf⟩ | ⟨_, hf⟩
  · skip
    obtain ⟨_, hf⟩ := gd_some hf
    cases hf
    exact ag_refl
  · skip
    obtain ⟨_, σ4, q1, hf⟩ := bnd_some hf
    refine ag_call (m_X9_passEvening q1) (fun _ h => by
          rcases h with h | h | h | h | h | h | h
          · exact (Or.inl h)
          · exact (Or.inr (Or.inl h))
          · exact (Or.inr (Or.inr (Or.inl h)))
          · exact (Or.inr (Or.inr (Or.inr (Or.inl h))))
          · exact (Or.inr (Or.inr (Or.inr (Or.inr (Or.inl h)))))
          · exact (Or.inr (Or.inr (Or.inr (Or.inr (Or.inr (Or.inl h))))))
          · exact (Or.inr (Or.inr (Or.inr (Or.inr (Or.inr (Or.inr (Or.inl h)))))))) ?_
    exact hrec34 _ _ hf
theorem m_X11_strength_34 {N : Nat} {ρ : Nat → Nat → Nat} {this : Nat} {a1 : Int32} {a2 : Int32} {r : Int32} {σr : St} : ∀ (n : Nat) (x3 : Int32) (σ : St), f_X11_strength_34 N ρ this a1 a2 n x3 σ = some (r, σr) → Ag (fun p => p = ρ this 5 ∨ p = ρ (ρ this 2) 10 ∨ p = ρ (ρ (ρ this 2) 8) 1 ∨ p = ρ (ρ (ρ this 2) 9) 1 ∨ p = ρ (ρ this 5) 2 ∨ p = ρ (ρ this 5) 1 ∨ p = ρ (ρ this 5) 0 ∨ p = ρ (ρ this 5) 3) σ σr := by
  intro n
  induction n with
  | zero => intro x3 σ hf; cases hf
  | succ n ih => intro x3 σ hf; exact k_X11_strength_34 _ ih x3 σ hf
theorem m_X11_strength {N : Nat} {ρ : Nat → Nat → Nat} {this : Nat} {a1 : Int32} {a2 : Int32} {r : Int32} {σr : St} {σ : St} (hf : f_X11_strength N ρ this a1 a2 σ = some (r, σr)) : Ag (fun p => p = ρ this 5 ∨ p = ρ (ρ this 2) 10 ∨ p = ρ (ρ (ρ this 2) 8) 1 ∨ p = ρ (ρ (ρ this 2) 9) 1 ∨ p = ρ (ρ this 5) 2 ∨ p = ρ (ρ this 5) 1 ∨ p = ρ (ρ this 5) 0 ∨ p = ρ (ρ this 5) 3) σ σr := by
  unfold f_X11_strength at hf
  obtain ⟨_, σ7, q1, hf⟩ := bnd_some hf
  refine ag_call (m_X0_hasStool q1) (fun _ h => h.elim) ?_
  rcases ite_some hf with ⟨_, hf⟩ | ⟨_, hf⟩
  · skip
    exact m_X11_strength_19 _ hf
  · skip
    obtain ⟨_, σ11, q2, hf⟩ := bnd_some hf
    refine ag_call (m_X11_isAhead q2) (fun _ h => h.elim) ?_
    rcases ite_some hf with ⟨_, hf⟩ | ⟨_, hf⟩
    · skip
      exact m_X11_strength_19 _ hf
    · skip
      obtain ⟨_, σ15, q3, hf⟩ := bnd_some hf
      refine ag_call (m_X9_copy q3) (fun _ h => by
            rcases h with h | h | h | h | h
            · exact (Or.inr (Or.inr (Or.inr (Or.inr (Or.inr (Or.inr (Or.inl h)))))))
            · exact (Or.inr (Or.inr (Or.inr (Or.inr (Or.inr (Or.inl h))))))
            · exact (Or.inr (Or.inr (Or.inr (Or.inr (Or.inl h)))))
            · exact (Or.inr (Or.inr (Or.inr (Or.inr (Or.inr (Or.inr (Or.inr h)))))))
            · exact (Or.inl h)) ?_
      exact m_X11_strength_34 N _ _ hf
theorem k_X11_grace_13 {N : Nat} {ρ : Nat → Nat → Nat} {this : Nat} {r : Int32} {σr : St} (rec13 : Int32 → St → Option (Int32 × St)) (hrec13 : ∀ (x1 : Int32) (σ : St), rec13 x1 σ = some (r, σr) → Ag (fun p => p = ρ this 5 ∨ p = ρ (ρ this 2) 10 ∨ p = ρ (ρ (ρ this 2) 8) 1 ∨ p = ρ (ρ (ρ this 2) 9) 1 ∨ p = ρ (ρ this 5) 2 ∨ p = ρ (ρ this 5) 1 ∨ p = ρ (ρ this 5) 0 ∨ p = ρ (ρ this 5) 3) σ σr) (x1 : Int32) (σ : St) (hf : b_X11_grace_13 N ρ this rec13 x1 σ = some (r, σr)) : Ag (fun p => p = ρ this 5 ∨ p = ρ (ρ this 2) 10 ∨ p = ρ (ρ (ρ this 2) 8) 1 ∨ p = ρ (ρ (ρ this 2) 9) 1 ∨ p = ρ (ρ this 5) 2 ∨ p = ρ (ρ this 5) 1 ∨ p = ρ (ρ this 5) 0 ∨ p = ρ (ρ this 5) 3) σ σr := by
  unfold b_X11_grace_13 at hf
  rcases ite_some hf with ⟨_, hf⟩ | ⟨_, hf⟩
  · skip
    cases hf
    exact ag_refl
  · skip
    obtain ⟨_, σ3, q1, hf⟩ := bnd_some hf
    refine ag_call (m_X9_savedBits q1) (fun _ h => h.elim) ?_
    obtain ⟨_, σ6, q2, hf⟩ := bnd_some hf
    refine ag_call (m_X0_allStools q2) (fun _ h => h.elim) ?_
    rcases ite_some hf with ⟨_, hf⟩ | ⟨_, hf⟩
    · skip
      cases hf
      exact ag_refl
    · skip
      obtain ⟨_, σ10, q3, hf⟩ := bnd_some hf
      refine ag_call (m_X9_passEvening q3) (fun _ h => by
            rcases h with h | h | h | h | h | h | h
            · exact (Or.inl h)
            · exact (Or.inr (Or.inl h))
            · exact (Or.inr (Or.inr (Or.inl h)))
            · exact (Or.inr (Or.inr (Or.inr (Or.inl h))))
            · exact (Or.inr (Or.inr (Or.inr (Or.inr (Or.inl h)))))
            · exact (Or.inr (Or.inr (Or.inr (Or.inr (Or.inr (Or.inl h))))))
            · exact (Or.inr (Or.inr (Or.inr (Or.inr (Or.inr (Or.inr (Or.inl h)))))))) ?_
      exact hrec13 _ _ hf
theorem m_X11_grace_13 {N : Nat} {ρ : Nat → Nat → Nat} {this : Nat} {r : Int32} {σr : St} : ∀ (n : Nat) (x1 : Int32) (σ : St), f_X11_grace_13 N ρ this n x1 σ = some (r, σr) → Ag (fun p => p = ρ this 5 ∨ p = ρ (ρ this 2) 10 ∨ p = ρ (ρ (ρ this 2) 8) 1 ∨ p = ρ (ρ (ρ this 2) 9) 1 ∨ p = ρ (ρ this 5) 2 ∨ p = ρ (ρ this 5) 1 ∨ p = ρ (ρ this 5) 0 ∨ p = ρ (ρ this 5) 3) σ σr := by
  intro n
  induction n with
  | zero => intro x1 σ hf; cases hf
  | succ n ih => intro x1 σ hf; exact k_X11_grace_13 _ ih x1 σ hf
theorem m_X11_grace {N : Nat} {ρ : Nat → Nat → Nat} {this : Nat} {r : Int32} {σr : St} {σ : St} (hf : f_X11_grace N ρ this σ = some (r, σr)) : Ag (fun p => p = ρ this 5 ∨ p = ρ (ρ this 2) 10 ∨ p = ρ (ρ (ρ this 2) 8) 1 ∨ p = ρ (ρ (ρ this 2) 9) 1 ∨ p = ρ (ρ this 5) 2 ∨ p = ρ (ρ this 5) 1 ∨ p = ρ (ρ this 5) 0 ∨ p = ρ (ρ this 5) 3) σ σr := by
  unfold f_X11_grace at hf
  obtain ⟨_, σ13, q1, hf⟩ := bnd_some hf
  refine ag_call (m_X9_copy q1) (fun _ h => by
        rcases h with h | h | h | h | h
        · exact (Or.inr (Or.inr (Or.inr (Or.inr (Or.inr (Or.inr (Or.inl h)))))))
        · exact (Or.inr (Or.inr (Or.inr (Or.inr (Or.inr (Or.inl h))))))
        · exact (Or.inr (Or.inr (Or.inr (Or.inr (Or.inl h)))))
        · exact (Or.inr (Or.inr (Or.inr (Or.inr (Or.inr (Or.inr (Or.inr h)))))))
        · exact (Or.inl h)) ?_
  exact m_X11_grace_13 N _ _ hf
theorem m_X11_dented_25 {N : Nat} {ρ : Nat → Nat → Nat} {this : Nat} {a1 : Int32} {a2 : Int32} {a3 : Int32} {r : Int32} {σr : St} (s0 : Int32) (σ : St) (hf : f_X11_dented_25 N ρ this a1 a2 a3 s0 σ = some (r, σr)) : Ag (fun p => p = ρ (ρ this 11) 0 ∨ p = ρ (ρ this 11) 1 ∨ p = ρ (ρ this 11) 2 ∨ p = ρ (ρ this 11) 3 ∨ p = ρ (ρ this 11) 4 ∨ p = ρ (ρ this 11) 5 ∨ p = ρ this 11) σ σr := by
  unfold f_X11_dented_25 at hf
  cases hf
  exact ag_refl
theorem m_X11_dented {N : Nat} {ρ : Nat → Nat → Nat} {this : Nat} {a1 : Int32} {a2 : Int32} {a3 : Int32} {r : Int32} {σr : St} {σ : St} (hf : f_X11_dented N ρ this a1 a2 a3 σ = some (r, σr)) : Ag (fun p => p = ρ (ρ this 11) 0 ∨ p = ρ (ρ this 11) 1 ∨ p = ρ (ρ this 11) 2 ∨ p = ρ (ρ this 11) 3 ∨ p = ρ (ρ this 11) 4 ∨ p = ρ (ρ this 11) 5 ∨ p = ρ this 11) σ σr := by
  unfold f_X11_dented at hf
  rcases ite_some hf with ⟨_, hf⟩ | ⟨_, hf⟩
  · skip
    exact m_X11_dented_25 _ _ hf
  · skip
    obtain ⟨_, σ3, q1, hf⟩ := bnd_some hf
    refine ag_call (m_X6_tell q1) (fun _ h => by
          rcases h with h | h | h | h | h | h | h
          · exact (Or.inl h)
          · exact (Or.inr (Or.inl h))
          · exact (Or.inr (Or.inr (Or.inl h)))
          · exact (Or.inr (Or.inr (Or.inr (Or.inl h))))
          · exact (Or.inr (Or.inr (Or.inr (Or.inr (Or.inl h)))))
          · exact (Or.inr (Or.inr (Or.inr (Or.inr (Or.inr (Or.inl h))))))
          · exact (Or.inr (Or.inr (Or.inr (Or.inr (Or.inr (Or.inr h))))))) ?_
    exact m_X11_dented_25 _ _ hf
theorem m_X11_held_25 {N : Nat} {ρ : Nat → Nat → Nat} {this : Nat} {a1 : Int32} {a2 : Int32} {a3 : Int32} {r : Int32} {σr : St} (s0 : Int32) (σ : St) (hf : f_X11_held_25 N ρ this a1 a2 a3 s0 σ = some (r, σr)) : Ag (fun p => p = ρ (ρ this 11) 0 ∨ p = ρ (ρ this 11) 1 ∨ p = ρ (ρ this 11) 2 ∨ p = ρ (ρ this 11) 3 ∨ p = ρ (ρ this 11) 4 ∨ p = ρ (ρ this 11) 5 ∨ p = ρ this 11) σ σr := by
  unfold f_X11_held_25 at hf
  cases hf
  exact ag_refl
theorem m_X11_held {N : Nat} {ρ : Nat → Nat → Nat} {this : Nat} {a1 : Int32} {a2 : Int32} {a3 : Int32} {r : Int32} {σr : St} {σ : St} (hf : f_X11_held N ρ this a1 a2 a3 σ = some (r, σr)) : Ag (fun p => p = ρ (ρ this 11) 0 ∨ p = ρ (ρ this 11) 1 ∨ p = ρ (ρ this 11) 2 ∨ p = ρ (ρ this 11) 3 ∨ p = ρ (ρ this 11) 4 ∨ p = ρ (ρ this 11) 5 ∨ p = ρ this 11) σ σr := by
  unfold f_X11_held at hf
  rcases ite_some hf with ⟨_, hf⟩ | ⟨_, hf⟩
  · skip
    exact m_X11_held_25 _ _ hf
  · skip
    obtain ⟨_, σ3, q1, hf⟩ := bnd_some hf
    refine ag_call (m_X6_tell q1) (fun _ h => by
          rcases h with h | h | h | h | h | h | h
          · exact (Or.inl h)
          · exact (Or.inr (Or.inl h))
          · exact (Or.inr (Or.inr (Or.inl h)))
          · exact (Or.inr (Or.inr (Or.inr (Or.inl h))))
          · exact (Or.inr (Or.inr (Or.inr (Or.inr (Or.inl h)))))
          · exact (Or.inr (Or.inr (Or.inr (Or.inr (Or.inr (Or.inl h))))))
          · exact (Or.inr (Or.inr (Or.inr (Or.inr (Or.inr (Or.inr h))))))) ?_
    exact m_X11_held_25 _ _ hf
theorem m_X11_untell {N : Nat} {ρ : Nat → Nat → Nat} {this : Nat} {a1 : Int32} {r : Int32} {σr : St} {σ : St} (hf : f_X11_untell N ρ this a1 σ = some (r, σr)) : Ag (fun p => p = ρ (ρ this 11) 5) σ σr := by
  unfold f_X11_untell at hf
  obtain ⟨_, σ2, q1, hf⟩ := bnd_some hf
  refine ag_call (m_X6_takeBack q1) (fun _ h => h) ?_
  obtain ⟨_, hf⟩ := gd_some hf
  cases hf
  exact ag_refl
theorem m_X11_later {N : Nat} {ρ : Nat → Nat → Nat} {this : Nat} {a1 : Int32} {r : Int32} {σr : St} {σ : St} (hf : f_X11_later N ρ this a1 σ = some (r, σr)) : Ag (fun p => p = ρ this 11) σ σr := by
  unfold f_X11_later at hf
  obtain ⟨_, σ2, q1, hf⟩ := bnd_some hf
  refine ag_call (m_X6_goOn q1) (fun _ h => h) ?_
  cases hf
  exact ag_refl
theorem m_X11_rows {N : Nat} {ρ : Nat → Nat → Nat} {this : Nat} {a1 : Int32} {r : Int32} {σr : St} {σ : St} (hf : f_X11_rows N ρ this a1 σ = some (r, σr)) : Ag (fun p => p = ρ (ρ (ρ this 11) 13) 0 ∨ p = ρ (ρ (ρ this 11) 13) 1 ∨ p = ρ (ρ (ρ this 11) 13) 2 ∨ p = ρ (ρ (ρ this 11) 13) 3 ∨ p = ρ (ρ this 11) 13 ∨ (∃ j, p = ρ (ρ (ρ this 11) 12) j) ∨ p = ρ (ρ this 2) 10 ∨ p = ρ (ρ (ρ this 2) 8) 1 ∨ p = ρ (ρ (ρ this 2) 9) 1 ∨ p = ρ (ρ this 11) 11 ∨ p = ρ (ρ this 11) 10 ∨ p = ρ (ρ this 11) 9 ∨ p = ρ (ρ this 11) 8) σ σr := by
  unfold f_X11_rows at hf
  obtain ⟨_, σ2, q1, hf⟩ := bnd_some hf
  refine ag_call (m_X6_tallyRows q1) (fun _ h => by
        rcases h with h | h | h | h | h | h | h | h | h | h | h | h | h
        · exact (Or.inl h)
        · exact (Or.inr (Or.inl h))
        · exact (Or.inr (Or.inr (Or.inl h)))
        · exact (Or.inr (Or.inr (Or.inr (Or.inl h))))
        · exact (Or.inr (Or.inr (Or.inr (Or.inr (Or.inl h)))))
        · exact (Or.inr (Or.inr (Or.inr (Or.inr (Or.inr (Or.inl h))))))
        · exact (Or.inr (Or.inr (Or.inr (Or.inr (Or.inr (Or.inr (Or.inl h)))))))
        · exact (Or.inr (Or.inr (Or.inr (Or.inr (Or.inr (Or.inr (Or.inr (Or.inl h))))))))
        · exact (Or.inr (Or.inr (Or.inr (Or.inr (Or.inr (Or.inr (Or.inr (Or.inr (Or.inl h)))))))))
        · exact (Or.inr (Or.inr (Or.inr (Or.inr (Or.inr (Or.inr (Or.inr (Or.inr (Or.inr (Or.inl h))))))))))
        · exact (Or.inr (Or.inr (Or.inr (Or.inr (Or.inr (Or.inr (Or.inr (Or.inr (Or.inr (Or.inr (Or.inl h)))))))))))
        · exact (Or.inr (Or.inr (Or.inr (Or.inr (Or.inr (Or.inr (Or.inr (Or.inr (Or.inr (Or.inr (Or.inr (Or.inl h))))))))))))
        · exact (Or.inr (Or.inr (Or.inr (Or.inr (Or.inr (Or.inr (Or.inr (Or.inr (Or.inr (Or.inr (Or.inr (Or.inr h))))))))))))) ?_
  cases hf
  exact ag_refl
theorem m_X11_sure_10 {N : Nat} {ρ : Nat → Nat → Nat} {this : Nat} {a1 : Int32} {a2 : Int32} {r : Int32} {σr : St} (σ : St) (hf : f_X11_sure_10 N ρ this a1 a2 σ = some (r, σr)) : Ag (fun p => p = ρ (ρ (ρ this 11) 13) 0 ∨ p = ρ (ρ (ρ this 11) 13) 1 ∨ p = ρ (ρ (ρ this 11) 13) 2 ∨ p = ρ (ρ (ρ this 11) 13) 3 ∨ p = ρ (ρ this 11) 13 ∨ (∃ j, p = ρ (ρ (ρ this 11) 12) j) ∨ p = ρ (ρ this 2) 10 ∨ p = ρ (ρ (ρ this 2) 8) 1 ∨ p = ρ (ρ (ρ this 2) 9) 1 ∨ p = ρ (ρ this 11) 11 ∨ p = ρ (ρ this 11) 10 ∨ p = ρ (ρ this 11) 9 ∨ p = ρ (ρ this 11) 8) σ σr := by
  unfold f_X11_sure_10 at hf
  cases hf
  exact ag_refl
theorem m_X11_sure_84 {N : Nat} {ρ : Nat → Nat → Nat} {this : Nat} {a1 : Int32} {a2 : Int32} {r : Int32} {σr : St} (s0 : Int32) (σ : St) (hf : f_X11_sure_84 N ρ this a1 a2 s0 σ = some (r, σr)) : Ag (fun p => p = ρ (ρ (ρ this 11) 13) 0 ∨ p = ρ (ρ (ρ this 11) 13) 1 ∨ p = ρ (ρ (ρ this 11) 13) 2 ∨ p = ρ (ρ (ρ this 11) 13) 3 ∨ p = ρ (ρ this 11) 13 ∨ (∃ j, p = ρ (ρ (ρ this 11) 12) j) ∨ p = ρ (ρ this 2) 10 ∨ p = ρ (ρ (ρ this 2) 8) 1 ∨ p = ρ (ρ (ρ this 2) 9) 1 ∨ p = ρ (ρ this 11) 11 ∨ p = ρ (ρ this 11) 10 ∨ p = ρ (ρ this 11) 9 ∨ p = ρ (ρ this 11) 8) σ σr := by
  unfold f_X11_sure_84 at hf
  cases hf
  exact ag_refl
theorem k_X11_sure_36 {N : Nat} {ρ : Nat → Nat → Nat} {this : Nat} {a1 : Int32} {a2 : Int32} {r : Int32} {σr : St} (rec36 : Int32 → Int32 → St → Option (Int32 × St)) (hrec36 : ∀ (x3 : Int32) (x4 : Int32) (σ : St), rec36 x3 x4 σ = some (r, σr) → Ag (fun p => p = ρ (ρ (ρ this 11) 13) 0 ∨ p = ρ (ρ (ρ this 11) 13) 1 ∨ p = ρ (ρ (ρ this 11) 13) 2 ∨ p = ρ (ρ (ρ this 11) 13) 3 ∨ p = ρ (ρ this 11) 13 ∨ (∃ j, p = ρ (ρ (ρ this 11) 12) j) ∨ p = ρ (ρ this 2) 10 ∨ p = ρ (ρ (ρ this 2) 8) 1 ∨ p = ρ (ρ (ρ this 2) 9) 1 ∨ p = ρ (ρ this 11) 11 ∨ p = ρ (ρ this 11) 10 ∨ p = ρ (ρ this 11) 9 ∨ p = ρ (ρ this 11) 8) σ σr) (x3 : Int32) (x4 : Int32) (σ : St) (hf : b_X11_sure_36 N ρ this a1 a2 rec36 x3 x4 σ = some (r, σr)) : Ag (fun p => p = ρ (ρ (ρ this 11) 13) 0 ∨ p = ρ (ρ (ρ this 11) 13) 1 ∨ p = ρ (ρ (ρ this 11) 13) 2 ∨ p = ρ (ρ (ρ this 11) 13) 3 ∨ p = ρ (ρ this 11) 13 ∨ (∃ j, p = ρ (ρ (ρ this 11) 12) j) ∨ p = ρ (ρ this 2) 10 ∨ p = ρ (ρ (ρ this 2) 8) 1 ∨ p = ρ (ρ (ρ this 2) 9) 1 ∨ p = ρ (ρ this 11) 11 ∨ p = ρ (ρ this 11) 10 ∨ p = ρ (ρ this 11) 9 ∨ p = ρ (ρ this 11) 8) σ σr := by
  unfold b_X11_sure_36 at hf
  rcases ite_some hf with ⟨_, hf⟩ | ⟨_, hf⟩
  · skip
    cases hf
    exact ag_refl
  · skip
    obtain ⟨_, hf⟩ := gd_some hf
    obtain ⟨_, hf⟩ := gd_some hf
    rcases ite_some hf with ⟨_, hf⟩ | ⟨_, hf⟩
    · skip
      rcases ite_some hf with ⟨_, hf⟩ | ⟨_, hf⟩
      · skip
        exact m_X11_sure_84 _ _ hf
      · skip
        exact m_X11_sure_84 _ _ hf
    · skip
      exact hrec36 _ _ _ hf
theorem m_X11_sure_36 {N : Nat} {ρ : Nat → Nat → Nat} {this : Nat} {a1 : Int32} {a2 : Int32} {r : Int32} {σr : St} : ∀ (n : Nat) (x3 : Int32) (x4 : Int32) (σ : St), f_X11_sure_36 N ρ this a1 a2 n x3 x4 σ = some (r, σr) → Ag (fun p => p = ρ (ρ (ρ this 11) 13) 0 ∨ p = ρ (ρ (ρ this 11) 13) 1 ∨ p = ρ (ρ (ρ this 11) 13) 2 ∨ p = ρ (ρ (ρ this 11) 13) 3 ∨ p = ρ (ρ this 11) 13 ∨ (∃ j, p = ρ (ρ (ρ this 11) 12) j) ∨ p = ρ (ρ this 2) 10 ∨ p = ρ (ρ (ρ this 2) 8) 1 ∨ p = ρ (ρ (ρ this 2) 9) 1 ∨ p = ρ (ρ this 11) 11 ∨ p = ρ (ρ this 11) 10 ∨ p = ρ (ρ this 11) 9 ∨ p = ρ (ρ this 11) 8) σ σr := by
  intro n
  induction n with
  | zero => intro x3 x4 σ hf; cases hf
  | succ n ih => intro x3 x4 σ hf; exact k_X11_sure_36 _ ih x3 x4 σ hf
theorem m_X11_sure {N : Nat} {ρ : Nat → Nat → Nat} {this : Nat} {a1 : Int32} {a2 : Int32} {r : Int32} {σr : St} {σ : St} (hf : f_X11_sure N ρ this a1 a2 σ = some (r, σr)) : Ag (fun p => p = ρ (ρ (ρ this 11) 13) 0 ∨ p = ρ (ρ (ρ this 11) 13) 1 ∨ p = ρ (ρ (ρ this 11) 13) 2 ∨ p = ρ (ρ (ρ this 11) 13) 3 ∨ p = ρ (ρ this 11) 13 ∨ (∃ j, p = ρ (ρ (ρ this 11) 12) j) ∨ p = ρ (ρ this 2) 10 ∨ p = ρ (ρ (ρ this 2) 8) 1 ∨ p = ρ (ρ (ρ this 2) 9) 1 ∨ p = ρ (ρ this 11) 11 ∨ p = ρ (ρ this 11) 10 ∨ p = ρ (ρ this 11) 9 ∨ p = ρ (ρ this 11) 8) σ σr := by
  unfold f_X11_sure at hf
  rcases ite_some hf with ⟨_, hf⟩ | ⟨_, hf⟩
  · skip
    exact m_X11_sure_10 _ hf
  · skip
    rcases ite_some hf with ⟨_, hf⟩ | ⟨_, hf⟩
    · skip
      obtain ⟨_, σ9, q1, hf⟩ := bnd_some hf
      refine ag_call (m_X6_tallyRows q1) (fun _ h => by
            rcases h with h | h | h | h | h | h | h | h | h | h | h | h | h
            · exact (Or.inl h)
            · exact (Or.inr (Or.inl h))
            · exact (Or.inr (Or.inr (Or.inl h)))
            · exact (Or.inr (Or.inr (Or.inr (Or.inl h))))
            · exact (Or.inr (Or.inr (Or.inr (Or.inr (Or.inl h)))))
            · exact (Or.inr (Or.inr (Or.inr (Or.inr (Or.inr (Or.inl h))))))
            · exact (Or.inr (Or.inr (Or.inr (Or.inr (Or.inr (Or.inr (Or.inl h)))))))
            · exact (Or.inr (Or.inr (Or.inr (Or.inr (Or.inr (Or.inr (Or.inr (Or.inl h))))))))
            · exact (Or.inr (Or.inr (Or.inr (Or.inr (Or.inr (Or.inr (Or.inr (Or.inr (Or.inl h)))))))))
            · exact (Or.inr (Or.inr (Or.inr (Or.inr (Or.inr (Or.inr (Or.inr (Or.inr (Or.inr (Or.inl h))))))))))
            · exact (Or.inr (Or.inr (Or.inr (Or.inr (Or.inr (Or.inr (Or.inr (Or.inr (Or.inr (Or.inr (Or.inl h)))))))))))
            · exact (Or.inr (Or.inr (Or.inr (Or.inr (Or.inr (Or.inr (Or.inr (Or.inr (Or.inr (Or.inr (Or.inr (Or.inl h))))))))))))
            · exact (Or.inr (Or.inr (Or.inr (Or.inr (Or.inr (Or.inr (Or.inr (Or.inr (Or.inr (Or.inr (Or.inr (Or.inr h))))))))))))) ?_
      rcases ite_some hf with ⟨_, hf⟩ | ⟨_, hf⟩
      · skip
        cases hf
        exact ag_refl
      · skip
        exact m_X11_sure_36 N _ _ _ hf
    · skip
      exact m_X11_sure_10 _ hf
theorem m_X11_ask_24 {N : Nat} {ρ : Nat → Nat → Nat} {this : Nat} {a1 : Int32} {a2 : Int32} {r : Int32} {σr : St} (σ : St) (hf : f_X11_ask_24 N ρ this a1 a2 σ = some (r, σr)) : Ag (fun p => p = ρ (ρ (ρ this 11) 13) 0 ∨ p = ρ (ρ (ρ this 11) 13) 1 ∨ p = ρ (ρ (ρ this 11) 13) 2 ∨ p = ρ (ρ (ρ this 11) 13) 3 ∨ p = ρ (ρ this 11) 13 ∨ (∃ j, p = ρ (ρ (ρ this 11) 12) j) ∨ p = ρ (ρ this 2) 10 ∨ p = ρ (ρ (ρ this 2) 8) 1 ∨ p = ρ (ρ (ρ this 2) 9) 1 ∨ p = ρ (ρ this 11) 11 ∨ p = ρ (ρ this 11) 10 ∨ p = ρ (ρ this 11) 9 ∨ p = ρ (ρ this 11) 8) σ σr := by
  unfold f_X11_ask_24 at hf
  cases hf
  exact ag_refl
theorem m_X11_ask_60 {N : Nat} {ρ : Nat → Nat → Nat} {this : Nat} {a1 : Int32} {a2 : Int32} {r : Int32} {σr : St} (rec31 : Int32 → Int32 → St → Option (Int32 × St)) (hrec31 : ∀ (x3 : Int32) (x4 : Int32) (σ : St), rec31 x3 x4 σ = some (r, σr) → Ag (fun p => p = ρ (ρ (ρ this 11) 13) 0 ∨ p = ρ (ρ (ρ this 11) 13) 1 ∨ p = ρ (ρ (ρ this 11) 13) 2 ∨ p = ρ (ρ (ρ this 11) 13) 3 ∨ p = ρ (ρ this 11) 13 ∨ (∃ j, p = ρ (ρ (ρ this 11) 12) j) ∨ p = ρ (ρ this 2) 10 ∨ p = ρ (ρ (ρ this 2) 8) 1 ∨ p = ρ (ρ (ρ this 2) 9) 1 ∨ p = ρ (ρ this 11) 11 ∨ p = ρ (ρ this 11) 10 ∨ p = ρ (ρ this 11) 9 ∨ p = ρ (ρ this 11) 8) σ σr) (x3 : Int32) (x4 : Int32) (σ : St) (hf : f_X11_ask_60 N ρ this a1 a2 rec31 x3 x4 σ = some (r, σr)) : Ag (fun p => p = ρ (ρ (ρ this 11) 13) 0 ∨ p = ρ (ρ (ρ this 11) 13) 1 ∨ p = ρ (ρ (ρ this 11) 13) 2 ∨ p = ρ (ρ (ρ this 11) 13) 3 ∨ p = ρ (ρ this 11) 13 ∨ (∃ j, p = ρ (ρ (ρ this 11) 12) j) ∨ p = ρ (ρ this 2) 10 ∨ p = ρ (ρ (ρ this 2) 8) 1 ∨ p = ρ (ρ (ρ this 2) 9) 1 ∨ p = ρ (ρ this 11) 11 ∨ p = ρ (ρ this 11) 10 ∨ p = ρ (ρ this 11) 9 ∨ p = ρ (ρ this 11) 8) σ σr := by
  unfold f_X11_ask_60 at hf
  exact hrec31 _ _ _ hf
theorem m_X11_ask_82 {N : Nat} {ρ : Nat → Nat → Nat} {this : Nat} {a1 : Int32} {a2 : Int32} {r : Int32} {σr : St} (s0 : Int32) (σ : St) (hf : f_X11_ask_82 N ρ this a1 a2 s0 σ = some (r, σr)) : Ag (fun p => p = ρ (ρ (ρ this 11) 13) 0 ∨ p = ρ (ρ (ρ this 11) 13) 1 ∨ p = ρ (ρ (ρ this 11) 13) 2 ∨ p = ρ (ρ (ρ this 11) 13) 3 ∨ p = ρ (ρ this 11) 13 ∨ (∃ j, p = ρ (ρ (ρ this 11) 12) j) ∨ p = ρ (ρ this 2) 10 ∨ p = ρ (ρ (ρ this 2) 8) 1 ∨ p = ρ (ρ (ρ this 2) 9) 1 ∨ p = ρ (ρ this 11) 11 ∨ p = ρ (ρ this 11) 10 ∨ p = ρ (ρ this 11) 9 ∨ p = ρ (ρ this 11) 8) σ σr := by
  unfold f_X11_ask_82 at hf
  cases hf
  exact ag_refl
theorem k_X11_ask_31 {N : Nat} {ρ : Nat → Nat → Nat} {this : Nat} {a1 : Int32} {a2 : Int32} {r : Int32} {σr : St} (rec31 : Int32 → Int32 → St → Option (Int32 × St)) (hrec31 : ∀ (x3 : Int32) (x4 : Int32) (σ : St), rec31 x3 x4 σ = some (r, σr) → Ag (fun p => p = ρ (ρ (ρ this 11) 13) 0 ∨ p = ρ (ρ (ρ this 11) 13) 1 ∨ p = ρ (ρ (ρ this 11) 13) 2 ∨ p = ρ (ρ (ρ this 11) 13) 3 ∨ p = ρ (ρ this 11) 13 ∨ (∃ j, p = ρ (ρ (ρ this 11) 12) j) ∨ p = ρ (ρ this 2) 10 ∨ p = ρ (ρ (ρ this 2) 8) 1 ∨ p = ρ (ρ (ρ this 2) 9) 1 ∨ p = ρ (ρ this 11) 11 ∨ p = ρ (ρ this 11) 10 ∨ p = ρ (ρ this 11) 9 ∨ p = ρ (ρ this 11) 8) σ σr) (x3 : Int32) (x4 : Int32) (σ : St) (hf : b_X11_ask_31 N ρ this a1 a2 rec31 x3 x4 σ = some (r, σr)) : Ag (fun p => p = ρ (ρ (ρ this 11) 13) 0 ∨ p = ρ (ρ (ρ this 11) 13) 1 ∨ p = ρ (ρ (ρ this 11) 13) 2 ∨ p = ρ (ρ (ρ this 11) 13) 3 ∨ p = ρ (ρ this 11) 13 ∨ (∃ j, p = ρ (ρ (ρ this 11) 12) j) ∨ p = ρ (ρ this 2) 10 ∨ p = ρ (ρ (ρ this 2) 8) 1 ∨ p = ρ (ρ (ρ this 2) 9) 1 ∨ p = ρ (ρ this 11) 11 ∨ p = ρ (ρ this 11) 10 ∨ p = ρ (ρ this 11) 9 ∨ p = ρ (ρ this 11) 8) σ σr := by
  unfold b_X11_ask_31 at hf
  rcases ite_some hf with ⟨_, hf⟩ | ⟨_, hf⟩
  · skip
    rcases ite_some hf with ⟨_, hf⟩ | ⟨_, hf⟩
    · skip
      exact m_X11_ask_82 _ _ hf
    · skip
      obtain ⟨_, σ4, q1, hf⟩ := bnd_some hf
      refine ag_call (m_X6_mostLeft q1) (fun _ h => h.elim) ?_
      exact m_X11_ask_82 _ _ hf
  · skip
    obtain ⟨_, σ7, q2, hf⟩ := bnd_some hf
    refine ag_call (m_X6_mostLeft q2) (fun _ h => h.elim) ?_
    obtain ⟨_, σ10, q3, hf⟩ := bnd_some hf
    refine ag_call (m_X6_mostLeft q3) (fun _ h => h.elim) ?_
    rcases ite_some hf with ⟨_, hf⟩ | ⟨_, hf⟩
    · skip
      exact m_X11_ask_60 rec31 hrec31 _ _ _ hf
    · skip
      exact m_X11_ask_60 rec31 hrec31 _ _ _ hf
theorem m_X11_ask_31 {N : Nat} {ρ : Nat → Nat → Nat} {this : Nat} {a1 : Int32} {a2 : Int32} {r : Int32} {σr : St} : ∀ (n : Nat) (x3 : Int32) (x4 : Int32) (σ : St), f_X11_ask_31 N ρ this a1 a2 n x3 x4 σ = some (r, σr) → Ag (fun p => p = ρ (ρ (ρ this 11) 13) 0 ∨ p = ρ (ρ (ρ this 11) 13) 1 ∨ p = ρ (ρ (ρ this 11) 13) 2 ∨ p = ρ (ρ (ρ this 11) 13) 3 ∨ p = ρ (ρ this 11) 13 ∨ (∃ j, p = ρ (ρ (ρ this 11) 12) j) ∨ p = ρ (ρ this 2) 10 ∨ p = ρ (ρ (ρ this 2) 8) 1 ∨ p = ρ (ρ (ρ this 2) 9) 1 ∨ p = ρ (ρ this 11) 11 ∨ p = ρ (ρ this 11) 10 ∨ p = ρ (ρ this 11) 9 ∨ p = ρ (ρ this 11) 8) σ σr := by
  intro n
  induction n with
  | zero => intro x3 x4 σ hf; cases hf
  | succ n ih => intro x3 x4 σ hf; exact k_X11_ask_31 _ ih x3 x4 σ hf
theorem m_X11_ask {N : Nat} {ρ : Nat → Nat → Nat} {this : Nat} {a1 : Int32} {a2 : Int32} {r : Int32} {σr : St} {σ : St} (hf : f_X11_ask N ρ this a1 a2 σ = some (r, σr)) : Ag (fun p => p = ρ (ρ (ρ this 11) 13) 0 ∨ p = ρ (ρ (ρ this 11) 13) 1 ∨ p = ρ (ρ (ρ this 11) 13) 2 ∨ p = ρ (ρ (ρ this 11) 13) 3 ∨ p = ρ (ρ this 11) 13 ∨ (∃ j, p = ρ (ρ (ρ this 11) 12) j) ∨ p = ρ (ρ this 2) 10 ∨ p = ρ (ρ (ρ this 2) 8) 1 ∨ p = ρ (ρ (ρ this 2) 9) 1 ∨ p = ρ (ρ this 11) 11 ∨ p = ρ (ρ this 11) 10 ∨ p = ρ (ρ this 11) 9 ∨ p = ρ (ρ this 11) 8) σ σr := by
  unfold f_X11_ask at hf
  rcases ite_some hf with ⟨_, hf⟩ | ⟨_, hf⟩
  · skip
    exact m_X11_ask_24 _ hf
  · skip
    rcases ite_some hf with ⟨_, hf⟩ | ⟨_, hf⟩
    · skip
      exact m_X11_ask_24 _ hf
    · skip
      obtain ⟨_, σ16, q1, hf⟩ := bnd_some hf
      refine ag_call (m_X6_tallyRows q1) (fun _ h => by
            rcases h with h | h | h | h | h | h | h | h | h | h | h | h | h
            · exact (Or.inl h)
            · exact (Or.inr (Or.inl h))
            · exact (Or.inr (Or.inr (Or.inl h)))
            · exact (Or.inr (Or.inr (Or.inr (Or.inl h))))
            · exact (Or.inr (Or.inr (Or.inr (Or.inr (Or.inl h)))))
            · exact (Or.inr (Or.inr (Or.inr (Or.inr (Or.inr (Or.inl h))))))
            · exact (Or.inr (Or.inr (Or.inr (Or.inr (Or.inr (Or.inr (Or.inl h)))))))
            · exact (Or.inr (Or.inr (Or.inr (Or.inr (Or.inr (Or.inr (Or.inr (Or.inl h))))))))
            · exact (Or.inr (Or.inr (Or.inr (Or.inr (Or.inr (Or.inr (Or.inr (Or.inr (Or.inl h)))))))))
            · exact (Or.inr (Or.inr (Or.inr (Or.inr (Or.inr (Or.inr (Or.inr (Or.inr (Or.inr (Or.inl h))))))))))
            · exact (Or.inr (Or.inr (Or.inr (Or.inr (Or.inr (Or.inr (Or.inr (Or.inr (Or.inr (Or.inr (Or.inl h)))))))))))
            · exact (Or.inr (Or.inr (Or.inr (Or.inr (Or.inr (Or.inr (Or.inr (Or.inr (Or.inr (Or.inr (Or.inr (Or.inl h))))))))))))
            · exact (Or.inr (Or.inr (Or.inr (Or.inr (Or.inr (Or.inr (Or.inr (Or.inr (Or.inr (Or.inr (Or.inr (Or.inr h))))))))))))) ?_
      rcases ite_some hf with ⟨_, hf⟩ | ⟨_, hf⟩
      · skip
        exact m_X11_ask_24 _ hf
      · skip
        exact m_X11_ask_31 N _ _ _ hf
