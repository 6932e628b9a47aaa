/-! putting a reference: FaithfulStools.chapel alone does it -/
def sR (ρ : Nat → Nat → Nat) (b k x : Nat) : Nat → Nat → Nat := fun p j => if p = b ∧ j = k then x else ρ p j
theorem sR_ne {ρ : Nat → Nat → Nat} {b k x p : Nat} (h : p ≠ b) : sR ρ b k x p = ρ p := by
  funext j
  simp [sR, h]
theorem sh_put {Γ : SG} {ρ : Nat → Nat → Nat} {b k x ci : Nat} (hs : Sh Γ ρ) (hb : Γ[b]? = some (0, ci)) (hx : Γ[x]? = some (kt ci k)) : Sh Γ (sR ρ b k x) := by
  refine ⟨fun p c j hp hj => ?_, fun p n j hp hj => ?_⟩
  · by_cases h : p = b ∧ j = k
    · obtain ⟨rfl, rfl⟩ := h
      have hc : (0, c) = ((0, ci) : Nat × Nat) := Option.some.inj (hp.symm.trans hb)
      have hc : c = ci := congrArg Prod.snd hc
      subst hc
      simp only [sR]
      simpa using hx
    · simp only [sR, h, if_false]
      exact hs.1 p c j hp hj
  · have h : p ≠ b := by
      intro h
      subst h
      have := Option.some.inj (hp.symm.trans hb)
      simp at this
    rw [sR_ne h]
    exact hs.2 p n j hp hj
theorem cellOf_rn {ρ ρ' : Nat → Nat → Nat} {σ : St} {p : Nat} {q : Nat × Nat} (h : ρ' p = ρ p) : cellOf ρ' σ p q = cellOf ρ σ p q := by
  obtain ⟨t, n⟩ := q
  cases t with
  | zero =>
    simp only [cellOf]
    congr 2
    apply List.map_congr_left
    intro k _
    simp only [fval, h]
  | succ t => simp only [cellOf, adat, h]
theorem go_pR {Y : MD} {d kc ks n0 : Nat} {K : Option Value → HL → Prop} {cells slots pc : Nat} {loc : List (Option Value)} {st : List Value} {Γ : SG} {ρ : Nat → Nat → Nat} {σ : St} {b ci k0 idx x : Nat} {C : String} (hf : FL Y.1.cls idx ci k0) (hty : FT ci k0 false (.object C)) (hdg : decode Y.2.1 pc = .ok (.putfield idx, 3)) (hb : Γ[b]? = some (0, ci)) (hk : k0 < fcnt ci) (ht : fty ci k0 = 2) (k : Go Y d kc ks n0 K cells slots (pc + 3) loc st (hp Γ (sR ρ b k0 x) σ)) : Go Y d kc ks n0 K cells slots pc loc (.ref x :: .ref b :: st) (hp Γ ρ σ) := by
  refine go_put (hp Γ (sR ρ b k0 x) σ) hf hty (okv_o C x) hdg (hp_at hb) (by simpa using hk) ?_ k
  apply List.ext_getElem?
  intro j
  rw [List.getElem?_set, hp_get, hp_get, hp_len]
  by_cases hj : b = j
  · subst hj
    rw [if_pos rfl, if_pos (List.getElem?_eq_some_iff.mp hb).1, hb]
    refine congrArg some ?_
    simp only [cellOf]
    congr 2
    apply List.ext_getElem?
    intro q
    rw [List.getElem?_set, List.getElem?_map, List.getElem?_map, List.length_map, List.length_range]
    by_cases hq : k0 = q
    · subst hq
      rw [if_pos rfl, if_pos hk, List.getElem?_range hk]
      simp only [Option.map_some, fval, ht, sR]
      simp
    · rw [if_neg hq]
      cases hg : (List.range (fcnt ci))[q]? with
      | none => rfl
      | some z =>
        have hz : z = q := by
          obtain ⟨h1, h2⟩ := List.getElem?_eq_some_iff.mp hg
          rw [List.getElem_range] at h2
          exact h2.symm
        subst hz
        have hne : ¬ z = k0 := fun e => hq e.symm
        simp [fval, sR, hne]
  · rw [if_neg hj]
    cases hg : Γ[j]? with
    | none => rfl
    | some q2 => exact congrArg some (cellOf_rn (sR_ne (fun z => hj z.symm))).symm
def Kc (Γ : SG) (ρ : Nat → Nat → Nat) (this : Nat) (r : Int32) (σ : St) : Option Value → HL → Prop := fun v μ => v = some (.int r) ∧ μ = hp Γ (if r = -1 then ρ else sR (sR ρ this 2 (ρ this 3)) this 3 (ρ this 2)) σ
theorem go_mono {Y : MD} {d kc ks n0 : Nat} {K K' : Option Value → HL → Prop} {cells slots pc : Nat} {loc : List (Option Value)} {st : List Value} {μ : HL} (h : ∀ v μ, K v μ → K' v μ) (k : Go Y d kc ks n0 K cells slots pc loc st μ) : Go Y d kc ks n0 K' cells slots pc loc st μ := by
  intro p l e s m args below meth c D cT ad ro sz H locs ls F w hS hL T hT X
  obtain ⟨t, a1, o, b1, b2, ⟨⟨v, μ', c1, c2, c3⟩, c4⟩, b4⟩ := k p l e s m args below meth c D cT ad ro sz H locs ls F w hS hL T hT X
  exact ⟨t, a1, o, b1, b2, ⟨⟨v, μ', c1, h v μ' c2, c3⟩, c4⟩, b4⟩
/-- an answer that isn't -1 -/
def gdr (o : Option (Int32 × St)) : Option (Int32 × St) := match o with
  | some q => if q.1 = -1 then none else some q
  | none => none
theorem gdr_some {o : Option (Int32 × St)} {r : Int32} {σ : St} (h : gdr o = some (r, σ)) : ¬ r = -1 ∧ o = some (r, σ) := by
  cases o with
  | none => cases h
  | some q =>
    simp only [gdr] at h
    by_cases c : q.1 = -1
    · rw [if_pos c] at h; cases h
    · rw [if_neg c] at h
      cases h
      exact ⟨c, rfl⟩
