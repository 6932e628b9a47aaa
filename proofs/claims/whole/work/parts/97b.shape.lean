/-! THE REFERENCES LEAD WHERE THEY SHOULD -/
theorem xH_set (W : Nat → Int64) : xH W = (xH (fun _ => 0)).set 6 (.inl (3, 20, .inr (.inl W))) := rfl
theorem rho_W (W : Nat → Int64) : rhoOf (xH W) = rhoOf (xH (fun _ => 0)) := by
  funext p j
  by_cases h : p = 6
  · subst h; rfl
  · unfold rhoOf
    rw [xH_set W, List.getElem?_set_ne (fun z => h z.symm)]
set_option maxRecDepth 100000 in
theorem sh_x0 : shB xG (rhoOf (xH (fun _ => 0))) = true := by decide +kernel
theorem sh_x (W : Nat → Int64) : Sh xG (rhoOf (xH W)) := by
  rw [rho_W]
  exact sh_of sh_x0
set_option maxRecDepth 100000 in
theorem sh_9 : shB wG (RR 9) = true := by decide +kernel
set_option maxRecDepth 100000 in
theorem sh_25 : shB wG (RR 25) = true := by decide +kernel
theorem sh_w {t : Nat} (h : isT t) : Sh wG (RR t) := by
  rcases h with rfl | rfl
  · exact sh_of sh_9
  · exact sh_of sh_25
theorem sh_inv : ∀ ρ σ, Inv ρ σ → Sh wG ρ := by
  rintro ρ σ ⟨t, c, S, rfl, hi⟩
  exact sh_w hi.1
theorem wR_W (W : Nat → Int64) : wR (rhoOf (xH W)) = RR 9 := by
  rw [rho_W]
  show RR0 = RR 9
  funext p j
  unfold RR sR
  by_cases h3 : p = 0 ∧ j = 3
  · rw [if_pos h3, h3.1, h3.2]; rfl
  · rw [if_neg h3]
    by_cases h2 : p = 0 ∧ j = 2
    · rw [if_pos h2, h2.1, h2.2]; rfl
    · rw [if_neg h2]
