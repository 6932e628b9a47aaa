/-! RELATIONS; WHAT CODES ARE GOOD; the class's formula at hand -/
theorem sim_rel {τ : Tape} {d p u p1 u1 p2 u2 s : Nat} {C1 C2 : List Cd} (h1 : Sim τ 5 5 d p u p1 u1 C1) (e : opk (tk τ p1) = some s) (hs : tg s = 4) (h2 : Sim τ 5 5 d (tn τ p1) u1 p2 u2 C2) : Sim τ 4 4 d p u p2 u2 (C1 ++ C2 ++ [outc s]) := by
  have h10 := opk_lt e
  intro O E r hd hc k
  have hst : stp 4 O := hc.1
  refine h1 O E r hd ⟨stp_mono (by decide) hst, fun _ => hc.2 (by decide)⟩ (fun P E1 q1 q2 q3 => ?_)
  refine mr_op e (fun z => noRel (fun y hy => ⟨(q1 y hy).1, (q1 y hy).2⟩) hst z.2) (fun x hx => ⟨(q1 x hx).1, by have := (q1 x hx).2; omega⟩) (by rw [hs]; exact hst) ?_
  refine h2 (s :: O) _ r ((dpt_op h10).trans hd) (ctx_op hs h10 (by decide) (fun _ => by decide)) (fun P2 E2 g1 g2 g3 => ?_)
  have := k (P2 ++ [s]) E2 (fun x hx => ?_) ?_ (fun s' e' hl' => ?_)
  · rw [List.append_assoc, List.singleton_append] at this
    exact this
  · rcases List.mem_append.mp hx with hx | hx
    · exact ⟨(g1 x hx).1, by have := (g1 x hx).2; omega⟩
    · rw [List.mem_singleton] at hx
      subst hx
      exact ⟨by omega, by omega⟩
  · rw [List.map_append, ← List.append_assoc, g2, q2]
    simp
  · by_cases c : 5 ≤ tg s'
    · obtain ⟨z1, z2⟩ := g3 s' e' c
      exact ⟨z1, hasRel_app z2⟩
    · exact ⟨by omega, P2, s, [], rfl, fun y hy => ⟨(g1 y hy).1, (g1 y hy).2⟩, by omega, hs⟩
theorem simB_rel {τ : Tape} {d p u p1 u1 j s : Nat} {C1 : List Cd} (h1 : Sim τ 5 5 d p u p1 u1 C1) (e : opk (tk τ p1) = some s) (hs : tg s = 4) (h2 : SimB τ 5 d (tn τ p1) u1 j) : SimB τ 4 d p u j := by
  have h10 := opk_lt e
  intro O E hd hc
  have hst : stp 4 O := hc.1
  refine h1 O E _ hd ⟨stp_mono (by decide) hst, fun _ => hc.2 (by decide)⟩ (fun P E1 q1 q2 q3 => ?_)
  refine mr_op e (fun z => noRel (fun y hy => ⟨(q1 y hy).1, (q1 y hy).2⟩) hst z.2) (fun x hx => ⟨(q1 x hx).1, by have := (q1 x hx).2; omega⟩) (by rw [hs]; exact hst) ?_
  exact h2 (s :: O) _ ((dpt_op h10).trans hd) (ctx_op hs h10 (by decide) (fun _ => by decide))
def hts : Nat → List Cd → Option Nat
  | h, [] => some h
  | h, c :: C => match htc h c with
    | none => none
    | some h' => hts h' C
theorem hts_c {h : Nat} {c : Cd} {C : List Cd} : hts h (c :: C) = match htc h c with
    | none => none
    | some h' => hts h' C := rfl
theorem hts_app {h h1 : Nat} {C D : List Cd} (e : hts h C = some h1) : hts h (C ++ D) = hts h1 D := by
  induction C generalizing h with
  | nil => cases e; rfl
  | cons c C ih =>
    rw [List.cons_append, hts_c]
    rw [hts_c] at e
    cases hc : htc h c with
    | none => rw [hc] at e; cases e
    | some h' => rw [hc] at e; exact ih e
theorem wfE_of {C : List Cd} : ∀ {h : Nat}, (∀ c ∈ C, okCd c) → hts h C = some 1 → wfE h C := by
  induction C with
  | nil => intro h _ e; cases e; rfl
  | cons c C ih =>
    intro h ok e
    unfold hts at e
    cases hc : htc h c with
    | none => rw [hc] at e; cases e
    | some h' =>
      rw [hc] at e
      exact ⟨ok c List.mem_cons_self, h', hc, ih (fun x hx => ok x (List.mem_cons_of_mem _ hx)) e⟩
def GC (d u u' : Nat) (C : List Cd) : Prop := u < u' ∧ u' ≤ 30 ∧ C.length + 1 ≤ (9 - d) * (u' - u) ∧ (∀ c ∈ C, okCd c) ∧ ∀ h, h ≤ u → hts h C = some (h + 1)
theorem GC_unit {d u : Nat} {c : Cd} (hd : d ≤ 7) (hu : u < 30) (hc : okCd c) (hp : ∀ h, h < 30 → htc h c = some (h + 1)) : GC d u (u + 1) [c] := by
  refine ⟨by omega, by omega, ?_, fun x hx => by rw [List.mem_singleton] at hx; subst hx; exact hc, fun h hh => ?_⟩
  · rw [show u + 1 - u = 1 by omega, Nat.mul_one]
    show 1 + 1 ≤ _
    omega
  · unfold hts
    rw [hp h (by omega)]
    rfl
theorem GC_br {d u u' : Nat} {C : List Cd} (hd : d ≤ 6) (h : GC (d + 1) (u + 1) u' C) : GC d u u' C := by
  obtain ⟨h1, h2, h3, h4, h5⟩ := h
  refine ⟨by omega, h2, Nat.le_trans h3 (Nat.mul_le_mul (by omega) (by omega)), h4, fun k hk => h5 k (by omega)⟩
theorem GC_nt {d u u' : Nat} {C : List Cd} (hd : d ≤ 6) (h : GC (d + 1) u u' C) : GC d u u' (C ++ [outc 10]) := by
  obtain ⟨h1, h2, h3, h4, h5⟩ := h
  refine ⟨h1, h2, ?_, fun x hx => ?_, fun k hk => ?_⟩
  · rw [List.length_append]
    show C.length + 1 + 1 ≤ _
    obtain ⟨e, he⟩ : ∃ e, e = u' - u := ⟨_, rfl⟩
    rw [← he] at h3 ⊢
    have : (9 - d) * e = (9 - (d + 1)) * e + e := by
      rw [show 9 - d = 9 - (d + 1) + 1 by omega, Nat.add_mul, Nat.one_mul]
    omega
  · rcases List.mem_append.mp hx with hx | hx
    · exact h4 x hx
    · rw [List.mem_singleton] at hx; subst hx; exact trivial
  · rw [hts_app (h5 k hk)]
    rfl
theorem GC_join {d u u1 u2 s : Nat} {C1 C2 : List Cd} (hs : s < 10) (h : GC d u u1 C1) (g : GC d u1 u2 C2) : GC d u u2 (C1 ++ C2 ++ [outc s]) := by
  obtain ⟨h1, h2, h3, h4, h5⟩ := h
  obtain ⟨g1, g2, g3, g4, g5⟩ := g
  have es : outc s = .inr (.inr (.inr s)) := if_neg (by omega)
  refine ⟨by omega, g2, ?_, fun x hx => ?_, fun k hk => ?_⟩
  · rw [List.length_append, List.length_append]
    show C1.length + C2.length + 1 + 1 ≤ _
    rw [show u2 - u = (u1 - u) + (u2 - u1) by omega, Nat.mul_add]
    omega
  · rcases List.mem_append.mp hx with hx | hx
    · rcases List.mem_append.mp hx with hx | hx
      · exact h4 x hx
      · exact g4 x hx
    · rw [List.mem_singleton] at hx; subst hx; rw [es]; exact hs
  · rw [List.append_assoc, hts_app (h5 k hk), hts_app (g5 (k + 1) (by omega)), es]
    rw [hts_c, show htc (k + 1 + 1) (.inr (.inr (.inr s))) = some (k + 1) from (by show (if 1 < k + 1 + 1 then some (k + 1 + 1 - 1) else none) = some (k + 1); rw [if_pos (by omega)]; rfl)]
    rfl
theorem tn_le {τ : Tape} {p : Nat} (h : p ≤ τ.1) : tn τ p ≤ τ.1 := by
  have hq := tq_le h
  have a := tl_le hq
  have b := td_le hq
  unfold tn
  split
  · split
    · exact a
    · split
      · exact b
      · omega
  · exact hq
/-- the class's formula at f -/
def FrX (f : Nat) (E : List Cd) (u : Nat) (σ : St) : Prop := σ.1 f 2 = nI E.length ∧ σ.1 f 3 = nI u ∧ ∀ j, j < E.length → σ.1 (f + 1) j = encC (E.getD j (.inl 0))
theorem FrX_cg {f : Nat} {E : List Cd} {u : Nat} {σ σ' : St} (h : FrX f E u σ) (e1 : σ'.1 f = σ.1 f) (e2 : σ'.1 (f + 1) = σ.1 (f + 1)) : FrX f E u σ' := ⟨by rw [e1]; exact h.1, by rw [e1]; exact h.2.1, fun j hj => by rw [e2]; exact h.2.2 j hj⟩
def isF (f : Nat) : Prop := f = 18 ∨ f = 21 ∨ f = 34 ∨ f = 37
theorem rF {ρ : Nat → Nat → Nat} {t f : Nat} (h : ρ = RR t) (hf : isF f) : ρ f 0 = f + 1 := by
  subst h
  rcases hf with rfl | rfl | rfl | rfl <;> rfl
theorem getD_app {E : List Cd} {c x : Cd} {j : Nat} : (E ++ [c]).getD j x = if j < E.length then E.getD j x else if j = E.length then c else x := by
  by_cases h : j < E.length
  · rw [if_pos h, List.getD_eq_getElem?_getD, List.getD_eq_getElem?_getD, List.getElem?_append_left h]
  · rw [if_neg h]
    by_cases e : j = E.length
    · subst e
      rw [if_pos rfl, List.getD_eq_getElem?_getD, List.getElem?_append_right (Nat.le_refl _), Nat.sub_self]
      rfl
    · rw [if_neg e, List.getD_eq_getElem?_getD, List.getElem?_eq_none (by rw [List.length_append]; show E.length + 1 ≤ j; omega)]
      rfl
theorem s_add {N t f u : Nat} {E : List Cd} {c : Cd} {x : Int32} {σ : St} (hf : isF f) (h : FrX f E u σ) (hl : E.length < 270) (hx : x = encC c) :
    Ok (f_X1_add N (RR t) f x σ) (fun _ σ' => FrX f (E ++ [c]) u σ' ∧ Ag (fun q => q = f ∨ q = f + 1) σ σ') := by
  have hf2 : f ≠ f + 1 := by omega
  unfold f_X1_add f_X1_add_37
  rw [rF rfl hf, h.1, nI_clamp (show E.length < 2 ^ 31 by omega)]
  refine ok_neg (nI_pos (by omega)) (ok_neg (show ¬ nI 270 ≤ nI E.length from nI_ge hl (by decide)) (ok_gd (ib_nI hl (by decide)) (ok_sI2 fun σ1 n1 u1 f1 => ok_sI2 fun σ2 n2 u2 f2 => ok_ret ⟨⟨?_, ?_, fun j hj => ?_⟩, fun q hq => ⟨?_, by rw [f2, f1]⟩⟩)))
  · rw [u2, pk_us, n1 f hf2, h.1, nI_1 E.length, List.length_append]
    rfl
  · rw [u2, pk_un (by decide), n1 f hf2]; exact h.2.1
  · rw [List.length_append] at hj
    have hj : j < E.length + 1 := hj
    rw [n2 (f + 1) (by omega), u1, getD_app]
    by_cases e : j = E.length
    · subst e
      rw [pk_us, if_neg (by omega), if_pos rfl]
      exact hx
    · rw [pk_un e, if_pos (by omega)]
      exact h.2.2 j (by omega)
  · rw [n2 q (by omega), n1 q (by omega)]
