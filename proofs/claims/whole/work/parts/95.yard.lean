/-! FORMULAS: the model's yard, as a relation; what a parse of a level does there -/
def tg (x : Nat) : Nat := ([5, 5, 6, 6, 6, 4, 4, 4, 2, 1, 3] : List Nat).getD x 0
def outc (x : Nat) : Cd := if x = 10 then .inr (.inr (.inl ())) else .inr (.inr (.inr x))
def opk (k : Nat) : Option Nat := if k = 43 then some 0 else if k = 45 then some 1 else if k = 42 then some 2 else if k = 47 then some 3 else if k = 37 then some 4 else if k = 60 then some 5 else if k = 62 then some 6 else if k = 61 then some 7 else if k = 8 then some 8 else if k = 7 then some 9 else none
def stp (l : Nat) : List Nat → Prop
  | [] => True
  | x :: _ => x = 11 ∨ tg x < l
def hasRel (O : List Nat) : Prop := ∃ P x r, O = P ++ x :: r ∧ (∀ y ∈ P, y ≠ 11 ∧ 4 < tg y) ∧ x ≠ 11 ∧ tg x = 4
def dpt : List Nat → Nat
  | [] => 0
  | x :: r => (if 10 ≤ x then 1 else 0) + dpt r
def untC (τ : Tape) (p : Nat) : Option Cd := if tk τ p = 100 then some (.inl (nI (tv τ p))) else if 1 ≤ tk τ p ∧ tk τ p ≤ 6 then some (.inr (.inl (tk τ p - 1))) else none
abbrev Res : Type := (Nat × Nat × List Cd) ⊕ Nat
abbrev MRT : Type := Bool → Nat → List Nat → List Cd → Nat → Res → Prop
def clnt (τ : Tape) (X : MRT) : Prop := ∀ (p : Nat) (O : List Nat) (E : List Cd) (u : Nat) (r : Res), tk τ p = 9 → stp 4 O → dpt O ≤ 6 → X true (tn τ p) (10 :: O) E u r → X true p O E u r
def clntf (τ : Tape) (X : MRT) : Prop := ∀ (p : Nat) (O : List Nat) (E : List Cd) (u : Nat), tk τ p = 9 → stp 4 O → ¬ dpt O ≤ 6 → X true p O E u (.inr p)
def clbr (τ : Tape) (X : MRT) : Prop := ∀ (p : Nat) (O : List Nat) (E : List Cd) (u : Nat) (r : Res), tk τ p = 40 → u < 30 → dpt O ≤ 6 → X true (tn τ p) (11 :: O) E (u + 1) r → X true p O E u r
def clbrf (τ : Tape) (X : MRT) : Prop := ∀ (p : Nat) (O : List Nat) (E : List Cd) (u : Nat), tk τ p = 40 → ¬ (u < 30 ∧ dpt O ≤ 6) → X true p O E u (.inr p)
def clun (τ : Tape) (X : MRT) : Prop := ∀ (p : Nat) (O : List Nat) (E : List Cd) (u : Nat) (r : Res) (c : Cd), u < 30 → untC τ p = some c → X false (tn τ p) O (E ++ [c]) (u + 1) r → X true p O E u r
def clunf (τ : Tape) (X : MRT) : Prop := ∀ (p : Nat) (O : List Nat) (E : List Cd) (u : Nat), ¬ (tk τ p = 9 ∧ stp 4 O) → tk τ p ≠ 40 → ¬ (u < 30 ∧ ¬ untC τ p = none) → X true p O E u (.inr p)
def clcl (τ : Tape) (X : MRT) : Prop := ∀ (p : Nat) (P O : List Nat) (E : List Cd) (u : Nat) (r : Res), tk τ p = 41 → (∀ x ∈ P, x ≠ 11) → X false (tn τ p) O (E ++ P.map outc) u r → X false p (P ++ 11 :: O) E u r
def clop (τ : Tape) (X : MRT) : Prop := ∀ (p s : Nat) (P O : List Nat) (E : List Cd) (u : Nat) (r : Res), opk (tk τ p) = some s → ¬ (tg s = 4 ∧ hasRel (P ++ O)) → (∀ x ∈ P, x ≠ 11 ∧ tg s ≤ tg x) → stp (tg s) O → X true (tn τ p) (s :: O) (E ++ P.map outc) u r → X false p (P ++ O) E u r
def clstf (τ : Tape) (X : MRT) : Prop := ∀ (p : Nat) (O : List Nat) (E : List Cd) (u : Nat), tk τ p ≠ 41 → (∀ s, opk (tk τ p) = some s → tg s = 4 ∧ hasRel O) → 11 ∈ O → X false p O E u (.inr p)
def clst (τ : Tape) (X : MRT) : Prop := ∀ (p : Nat) (O : List Nat) (E : List Cd) (u : Nat), (∀ s, opk (tk τ p) = some s → tg s = 4 ∧ hasRel O) → ¬ 11 ∈ O → X false p O E u (.inl (p, u, E ++ O.map outc))
def Clo (τ : Tape) (X : MRT) : Prop := clnt τ X ∧ clntf τ X ∧ clbr τ X ∧ clbrf τ X ∧ clun τ X ∧ clunf τ X ∧ clcl τ X ∧ clop τ X ∧ clstf τ X ∧ clst τ X
def MR (τ : Tape) (b : Bool) (p : Nat) (O : List Nat) (E : List Cd) (u : Nat) (r : Res) : Prop := ∀ X : MRT, Clo τ X → X b p O E u r
theorem mr_nt {τ : Tape} {p : Nat} {O : List Nat} {E : List Cd} {u : Nat} {r : Res} (h0 : tk τ p = 9) (h1 : stp 4 O) (h2 : dpt O ≤ 6) (h3 : MR τ true (tn τ p) (10 :: O) E u r) : MR τ true p O E u r := fun X hX => hX.1 _ _ _ _ _ h0 h1 h2 (h3 X hX)
theorem mr_ntf {τ : Tape} {p : Nat} {O : List Nat} {E : List Cd} {u : Nat} (h0 : tk τ p = 9) (h1 : stp 4 O) (h2 : ¬ dpt O ≤ 6) : MR τ true p O E u (.inr p) := fun X hX => hX.2.1 _ _ _ _ h0 h1 h2
theorem mr_br {τ : Tape} {p : Nat} {O : List Nat} {E : List Cd} {u : Nat} {r : Res} (h0 : tk τ p = 40) (h1 : u < 30) (h2 : dpt O ≤ 6) (h3 : MR τ true (tn τ p) (11 :: O) E (u + 1) r) : MR τ true p O E u r := fun X hX => hX.2.2.1 _ _ _ _ _ h0 h1 h2 (h3 X hX)
theorem mr_brf {τ : Tape} {p : Nat} {O : List Nat} {E : List Cd} {u : Nat} (h0 : tk τ p = 40) (h1 : ¬ (u < 30 ∧ dpt O ≤ 6)) : MR τ true p O E u (.inr p) := fun X hX => hX.2.2.2.1 _ _ _ _ h0 h1
theorem mr_un {τ : Tape} {p : Nat} {O : List Nat} {E : List Cd} {u : Nat} {r : Res} {c : Cd} (h0 : u < 30) (h1 : untC τ p = some c) (h2 : MR τ false (tn τ p) O (E ++ [c]) (u + 1) r) : MR τ true p O E u r := fun X hX => hX.2.2.2.2.1 _ _ _ _ _ _ h0 h1 (h2 X hX)
theorem mr_unf {τ : Tape} {p : Nat} {O : List Nat} {E : List Cd} {u : Nat} (h0 : ¬ (tk τ p = 9 ∧ stp 4 O)) (h1 : tk τ p ≠ 40) (h2 : ¬ (u < 30 ∧ ¬ untC τ p = none)) : MR τ true p O E u (.inr p) := fun X hX => hX.2.2.2.2.2.1 _ _ _ _ h0 h1 h2
theorem mr_cl {τ : Tape} {p : Nat} {P O : List Nat} {E : List Cd} {u : Nat} {r : Res} (h0 : tk τ p = 41) (h1 : (∀ x ∈ P, x ≠ 11)) (h2 : MR τ false (tn τ p) O (E ++ P.map outc) u r) : MR τ false p (P ++ 11 :: O) E u r := fun X hX => hX.2.2.2.2.2.2.1 _ _ _ _ _ _ h0 h1 (h2 X hX)
theorem mr_op {τ : Tape} {p s : Nat} {P O : List Nat} {E : List Cd} {u : Nat} {r : Res} (h0 : opk (tk τ p) = some s) (h1 : ¬ (tg s = 4 ∧ hasRel (P ++ O))) (h2 : (∀ x ∈ P, x ≠ 11 ∧ tg s ≤ tg x)) (h3 : stp (tg s) O) (h4 : MR τ true (tn τ p) (s :: O) (E ++ P.map outc) u r) : MR τ false p (P ++ O) E u r := fun X hX => hX.2.2.2.2.2.2.2.1 _ _ _ _ _ _ _ h0 h1 h2 h3 (h4 X hX)
theorem mr_stf {τ : Tape} {p : Nat} {O : List Nat} {E : List Cd} {u : Nat} (h0 : tk τ p ≠ 41) (h1 : (∀ s, opk (tk τ p) = some s → tg s = 4 ∧ hasRel O)) (h2 : 11 ∈ O) : MR τ false p O E u (.inr p) := fun X hX => hX.2.2.2.2.2.2.2.2.1 _ _ _ _ h0 h1 h2
theorem mr_st {τ : Tape} {p : Nat} {O : List Nat} {E : List Cd} {u : Nat} (h0 : (∀ s, opk (tk τ p) = some s → tg s = 4 ∧ hasRel O)) (h1 : ¬ 11 ∈ O) : MR τ false p O E u (.inl (p, u, E ++ O.map outc)) := fun X hX => hX.2.2.2.2.2.2.2.2.2 _ _ _ _ h0 h1
theorem opk_lt {k s : Nat} (h : opk k = some s) : s < 10 := by
  unfold opk at h
  repeat' split at h
  all_goals first | (cases h; decide) | cases h
theorem tg_op : ∀ s, s < 10 → 1 ≤ tg s ∧ tg s ≤ 6 ∧ tg s ≠ 3 := by decide +kernel
theorem stp_mono {l m : Nat} (h : l ≤ m) : ∀ {O : List Nat}, stp l O → stp m O
  | [], _ => trivial
  | x :: r, hs => hs.elim Or.inl (fun z => Or.inr (by omega))
theorem hasRel_app {P Q : List Nat} (h : hasRel P) : hasRel (P ++ Q) := by
  obtain ⟨A, x, r, e, h1, h2, h3⟩ := h
  exact ⟨A, x, r ++ Q, by rw [e]; simp, h1, h2, h3⟩
theorem noRel {P O : List Nat} (h : ∀ y ∈ P, y ≠ 11 ∧ 4 < tg y) (hs : stp 4 O) : ¬ hasRel (P ++ O) := by
  rintro ⟨A, x, r, e, h1, h2, h3⟩
  induction P generalizing A with
  | nil =>
    cases A with
    | nil =>
      rw [List.nil_append, List.nil_append] at e
      rw [e] at hs
      exact hs.elim h2 (fun z => by omega)
    | cons a A =>
      rw [List.nil_append, List.cons_append] at e
      rw [e] at hs
      have := h1 a List.mem_cons_self
      exact hs.elim this.1 (fun z => by omega)
  | cons b P ih =>
    cases A with
    | nil =>
      rw [List.cons_append, List.nil_append] at e
      injection e with e1 e2
      have := h b List.mem_cons_self
      rw [e1] at this
      omega
    | cons a A =>
      rw [List.cons_append, List.cons_append] at e
      injection e with e1 e2
      exact ih (fun y hy => h y (List.mem_cons_of_mem _ hy)) A e2 (fun y hy => h1 y (List.mem_cons_of_mem _ hy))
theorem dpt_op {s : Nat} {O : List Nat} (h : s < 10) : dpt (s :: O) = dpt O := by
  rw [dpt, if_neg (by omega), Nat.zero_add]
/-- where a level may be read -/
def ctx (τ : Tape) (l p : Nat) (O : List Nat) : Prop := stp (if l = 3 then 4 else l) O ∧ (4 ≤ l → tk τ p = 9 → ¬ stp 4 O)
def stopd (τ : Tape) (m p : Nat) (P : List Nat) : Prop := ∀ s, opk (tk τ p) = some s → m ≤ tg s → tg s = 4 ∧ hasRel P
/-- reading level l from p comes to p' with the codes C, and stops for what is of m or more -/
def Sim (τ : Tape) (l m d p u p' u' : Nat) (C : List Cd) : Prop := ∀ O E r, dpt O = d → ctx τ l p O → (∀ P E', (∀ x ∈ P, x ≠ 11 ∧ l ≤ tg x) → E' ++ P.map outc = E ++ C → stopd τ m p' P → MR τ false p' (P ++ O) E' u' r) → MR τ true p O E u r
def SimB (τ : Tape) (l d p u j : Nat) : Prop := ∀ O E, dpt O = d → ctx τ l p O → MR τ true p O E u (.inr j)
theorem sim_stop {τ : Tape} {l m d p u p' u' : Nat} {C : List Cd} (h : Sim τ l m d p u p' u' C) (hs : ∀ s, opk (tk τ p') = some s → l ≤ tg s → m ≤ tg s) : Sim τ l l d p u p' u' C :=
  fun O E r hd hc k => h O E r hd hc (fun P E' h1 h2 h3 => k P E' h1 h2 (fun s e hl => h3 s e (hs s e hl)))
theorem sim_up {τ : Tape} {l m d p u p' u' : Nat} {C : List Cd} (h : Sim τ m m d p u p' u' C) (hl : l ≤ m) (hc : ∀ O, ctx τ l p O → ctx τ m p O) : Sim τ l m d p u p' u' C :=
  fun O E r hd hx k => h O E r hd (hc O hx) (fun P E' h1 h2 h3 => k P E' (fun x hx => ⟨(h1 x hx).1, Nat.le_trans hl (h1 x hx).2⟩) h2 h3)
theorem simB_up {τ : Tape} {l m d p u j : Nat} (h : SimB τ m d p u j) (hc : ∀ O, ctx τ l p O → ctx τ m p O) : SimB τ l d p u j := fun O E hd hx => h O E hd (hc O hx)
theorem ctx_up {τ : Tape} {l m p : Nat} {O : List Nat} (hl : l ≤ m) (h3 : m = 3 → l ≤ 2) (hl3 : l = 3 → 4 ≤ m) (h9 : l ≤ 3 → 4 ≤ m → tk τ p ≠ 9) (h : ctx τ l p O) : ctx τ m p O := by
  refine ⟨stp_mono ?_ h.1, fun h4 e => ?_⟩
  · split <;> split <;> omega
  · by_cases c : 4 ≤ l
    · exact h.2 c e
    · exact absurd e (h9 (by omega) h4)
theorem ctx_op {τ : Tape} {l m p s : Nat} {O : List Nat} (hs : tg s = l) (h10 : s < 10) (hl : l < m) (hm : 4 ≤ m → 4 ≤ l) : ctx τ m p (s :: O) := by
  refine ⟨Or.inr ?_, fun h4 _ z => ?_⟩
  · split <;> omega
  · have := hm h4
    exact z.elim (fun e => by omega) (fun e => by omega)
theorem sim_join {τ : Tape} {l m d p u p1 u1 p2 u2 s : Nat} {C1 C2 : List Cd} (h1 : Sim τ l m d p u p1 u1 C1) (e : opk (tk τ p1) = some s) (hs : tg s = l) (hl : l < m) (hm : 4 ≤ m → 4 ≤ l) (h45 : l = 4 → m = 5) (h2 : Sim τ m m d (tn τ p1) u1 p2 u2 C2) (hfst : l = 4 → ∀ P : List Nat, stopd τ m p1 P → (∀ x ∈ P, x ≠ 11 ∧ l ≤ tg x) → ∀ x ∈ P, 4 < tg x) : Sim τ l m d p u p2 u2 (C1 ++ C2 ++ [outc s]) := by
  have h10 := opk_lt e
  intro O E r hd hc k
  refine h1 O E r hd hc (fun P E1 q1 q2 q3 => ?_)
  have hstp : stp (tg s) O := by
    have := hc.1
    rw [hs]
    by_cases c3 : l = 3
    · exact absurd (hs.trans c3) (tg_op s h10).2.2
    · rw [if_neg c3] at this; exact this
  refine mr_op e (fun z => ?_) (fun x hx => ⟨(q1 x hx).1, by rw [hs]; exact (q1 x hx).2⟩) hstp ?_
  · have l4 : l = 4 := hs.symm.trans z.1
    rw [z.1] at hstp
    exact noRel (fun y hy => ⟨(q1 y hy).1, hfst l4 P q3 q1 y hy⟩) hstp z.2
  · refine h2 (s :: O) _ r ((dpt_op h10).trans hd) (ctx_op hs h10 hl hm) (fun P2 E2 g1 g2 g3 => ?_)
    have := k (P2 ++ [s]) E2 (fun x hx => ?_) ?_ (fun s' e' hl' => ?_)
    · rw [List.append_assoc, List.singleton_append] at this
      exact this
    · rcases List.mem_append.mp hx with hx | hx
      · exact ⟨(g1 x hx).1, by have := (g1 x hx).2; omega⟩
      · rw [List.mem_singleton] at hx
        subst hx
        exact ⟨by omega, by omega⟩
    · rw [List.map_append, ← List.append_assoc, g2, q2]
      simp
    · obtain ⟨z1, z2⟩ := g3 s' e' hl'
      exact ⟨z1, hasRel_app z2⟩
theorem sim_joinB {τ : Tape} {l m d p u p1 u1 j s : Nat} {C1 : List Cd} (h1 : Sim τ l m d p u p1 u1 C1) (e : opk (tk τ p1) = some s) (hs : tg s = l) (hl : l < m) (hm : 4 ≤ m → 4 ≤ l) (h2 : SimB τ m d (tn τ p1) u1 j) (hfst : l = 4 → ∀ P : List Nat, stopd τ m p1 P → (∀ x ∈ P, x ≠ 11 ∧ l ≤ tg x) → ∀ x ∈ P, 4 < tg x) : SimB τ l d p u j := by
  have h10 := opk_lt e
  intro O E hd hc
  refine h1 O E _ hd hc (fun P E1 q1 q2 q3 => ?_)
  have hstp : stp (tg s) O := by
    have := hc.1
    rw [hs]
    by_cases c3 : l = 3
    · exact absurd (hs.trans c3) (tg_op s h10).2.2
    · rw [if_neg c3] at this; exact this
  refine mr_op e (fun z => ?_) (fun x hx => ⟨(q1 x hx).1, by rw [hs]; exact (q1 x hx).2⟩) hstp ?_
  · have l4 : l = 4 := hs.symm.trans z.1
    rw [z.1] at hstp
    exact noRel (fun y hy => ⟨(q1 y hy).1, hfst l4 P q3 q1 y hy⟩) hstp z.2
  · exact h2 (s :: O) _ ((dpt_op h10).trans hd) (ctx_op hs h10 hl hm)
theorem sim_unit {τ : Tape} {d p u : Nat} {c : Cd} (hu : u < 30) (e : untC τ p = some c) : Sim τ 7 7 d p u (tn τ p) (u + 1) [c] := by
  intro O E r hd hc k
  exact mr_un hu e (k [] (E ++ [c]) (fun x hx => by cases hx) (by simp) (fun s es h7 => by have := (tg_op s (opk_lt es)).2.1; omega))
theorem simB_unit {τ : Tape} {d p u : Nat} (h : ¬ (u < 30 ∧ ((tk τ p = 40 ∧ d ≤ 6) ∨ ¬ untC τ p = none))) : SimB τ 7 d p u p := by
  intro O E hd hc
  by_cases h40 : tk τ p = 40
  · exact mr_brf h40 (fun z => h ⟨z.1, Or.inl ⟨h40, by rw [← hd]; exact z.2⟩⟩)
  · exact mr_unf (fun z => hc.2 (by decide) z.1 z.2) h40 (fun z => h ⟨z.1, Or.inr z.2⟩)
theorem ctx_br {τ : Tape} {p : Nat} {O : List Nat} : ctx τ 1 p (11 :: O) := ⟨Or.inl rfl, fun z => by omega⟩
theorem dpt_br {O : List Nat} : dpt (11 :: O) = dpt O + 1 := by rw [dpt, if_pos (by decide)]; omega
theorem dpt_nt {O : List Nat} : dpt (10 :: O) = dpt O + 1 := by rw [dpt, if_pos (by decide)]; omega
theorem sim_br {τ : Tape} {d p u p' u' : Nat} {C : List Cd} (h40 : tk τ p = 40) (hu : u < 30) (hd6 : d ≤ 6) (h : Sim τ 1 1 (d + 1) (tn τ p) (u + 1) p' u' C) (h41 : tk τ p' = 41) : Sim τ 7 7 d p u (tn τ p') u' C := by
  intro O E r hd hc k
  refine mr_br h40 hu (by omega) (h (11 :: O) E r (by rw [dpt_br, hd]) ctx_br (fun P E' q1 q2 q3 => ?_))
  refine mr_cl h41 (fun x hx => (q1 x hx).1) ?_
  rw [q2]
  exact k [] _ (fun x hx => by cases hx) (by simp) (fun s es h7 => by have := (tg_op s (opk_lt es)).2.1; omega)
theorem simB_br {τ : Tape} {d p u p' u' : Nat} {C : List Cd} (h40 : tk τ p = 40) (hu : u < 30) (hd6 : d ≤ 6) (h : Sim τ 1 1 (d + 1) (tn τ p) (u + 1) p' u' C) (h41 : tk τ p' ≠ 41) : SimB τ 7 d p u p' := by
  intro O E hd hc
  refine mr_br h40 hu (by omega) (h (11 :: O) E _ (by rw [dpt_br, hd]) ctx_br (fun P E' q1 q2 q3 => ?_))
  refine mr_stf h41 (fun s es => ?_) (by simp)
  obtain ⟨z1, z2⟩ := q3 s es (tg_op s (opk_lt es)).1
  exact ⟨z1, hasRel_app z2⟩
theorem simB_brB {τ : Tape} {d p u j : Nat} (h40 : tk τ p = 40) (hu : u < 30) (hd6 : d ≤ 6) (h : SimB τ 1 (d + 1) (tn τ p) (u + 1) j) : SimB τ 7 d p u j :=
  fun O E hd _ => mr_br h40 hu (by omega) (h (11 :: O) E (by rw [dpt_br, hd]) ctx_br)
theorem ctx_nt {τ : Tape} {p : Nat} {O : List Nat} : ctx τ 3 p (10 :: O) := ⟨Or.inr (by decide), fun z => by omega⟩
theorem sim_nt {τ : Tape} {d p u p' u' : Nat} {C : List Cd} (h9 : tk τ p = 9) (hd6 : d ≤ 6) (h : Sim τ 3 3 (d + 1) (tn τ p) u p' u' C) : Sim τ 3 3 d p u p' u' (C ++ [outc 10]) := by
  intro O E r hd hc k
  refine mr_nt h9 hc.1 (by omega) (h (10 :: O) E r (by rw [dpt_nt, hd]) ctx_nt (fun P E' q1 q2 q3 => ?_))
  have := k (P ++ [10]) E' (fun x hx => ?_) ?_ (fun s es hs => ?_)
  · rw [List.append_assoc, List.singleton_append] at this
    exact this
  · rcases List.mem_append.mp hx with hx | hx
    · exact q1 x hx
    · rw [List.mem_singleton] at hx
      subst hx
      exact ⟨by decide, by decide⟩
  · rw [List.map_append, ← List.append_assoc, q2]
    simp
  · obtain ⟨z1, z2⟩ := q3 s es hs
    exact ⟨z1, hasRel_app z2⟩
theorem simB_nt {τ : Tape} {d p u : Nat} (h9 : tk τ p = 9) (hd6 : ¬ d ≤ 6) : SimB τ 3 d p u p := fun O E hd hc => mr_ntf h9 hc.1 (by omega)
theorem simB_ntB {τ : Tape} {d p u j : Nat} (h9 : tk τ p = 9) (hd6 : d ≤ 6) (h : SimB τ 3 (d + 1) (tn τ p) u j) : SimB τ 3 d p u j :=
  fun O E hd hc => mr_nt h9 hc.1 (by omega) (h (10 :: O) E (by rw [dpt_nt, hd]) ctx_nt)
/-- a whole formula -/
theorem sim_all {τ : Tape} {p p' u' : Nat} {C : List Cd} (h : Sim τ 1 1 0 p 0 p' u' C) : MR τ true p [] [] 0 (.inl (p', u', C)) := by
  refine h [] [] _ rfl ⟨trivial, fun z => by omega⟩ (fun P E' q1 q2 q3 => ?_)
  rw [List.nil_append] at q2
  have := mr_st (τ := τ) (p := p') (O := P) (E := E') (u := u') (fun s es => q3 s es (tg_op s (opk_lt es)).1) (fun z => (q1 11 z).1 rfl)
  rw [q2] at this
  rw [List.append_nil]
  exact this
theorem simB_all {τ : Tape} {p j : Nat} (h : SimB τ 1 0 p 0 j) : MR τ true p [] [] 0 (.inr j) := h [] [] rfl ⟨trivial, fun z => by omega⟩
