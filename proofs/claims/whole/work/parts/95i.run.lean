/-! THE MODEL's RUN: its states -/
def nF (k : Nat) : Prop := k = 2 ∨ k = 3 ∨ k = 4 ∨ k = 6 ∨ k = 7 ∨ k = 8 ∨ (20 ≤ k ∧ k ≤ 25 ∧ k ≠ 23)
def nY (k : Nat) : Prop := nF k ∧ k ≠ 3
def YM (τ : Tape) (w n0 : Nat) (σ0 : St) (p : Nat) (O : List Nat) (E : List Cd) (u : Nat) (σ : St) : Prop := TapM τ σ ∧ LexM τ p σ ∧ σ.1 90 2 = 0 ∧ σ.1 90 20 = nI w ∧ σ.1 90 21 = nI O.length ∧ stO O (σ.1 99) ∧ σ.1 90 25 = nI (dpt O) ∧ σ.1 90 24 = nI u ∧ σ.1 90 22 = nI (n0 + u) ∧ EmM w E σ ∧ OtM w σ0 σ ∧ ∀ k, ¬ nY k → σ.1 90 k = σ0.1 90 k
def FltM (τ : Tape) (σ0 : St) (j : Nat) (σ : St) : Prop := σ.1 90 2 = nI (if tk τ j = 103 then 1 else 2) ∧ σ.1 90 3 = nI (tq τ j) ∧ ∀ k, ¬ nF k → σ.1 90 k = σ0.1 90 k
def QM (τ : Tape) (w n0 : Nat) (σ0 : St) (r : Res) (σ : St) : Prop := match r with
  | .inl (p', u', C) => TapM τ σ ∧ LexM τ p' σ ∧ σ.1 90 2 = 0 ∧ σ.1 90 22 = nI (n0 + u') ∧ EmM w C σ ∧ OtM w σ0 σ ∧ ∀ k, ¬ nY k → σ.1 90 k = σ0.1 90 k
  | .inr j => FltM τ σ0 j σ
theorem srt_3 {k : Nat} (hk : k < 104) : nI (srt k) = 3 ↔ k = 103 := by
  have key : ∀ k, k < 104 → (decide (nI (srt k) = 3)) = decide (k = 103) := by decide +kernel
  have := key k hk
  rw [Bool.eq_iff_iff] at this
  simpa using this
theorem s_wrong {N t p : Nat} {τ : Tape} {σ0 σ : St} (hb : ∀ j, j < τ.1 → τ.2 j < 256) (lm : LexM τ p σ) (h2 : σ.1 90 2 = 0) (hf : ∀ k, ¬ nF k → σ.1 90 k = σ0.1 90 k) : Ok (f_X12_wrong N (RR t) 90 2 σ) (fun _ σ' => FltM τ σ0 p σ' ∧ (∀ k, k ≠ 2 → k ≠ 3 → σ'.1 90 k = σ.1 90 k) ∧ (∀ q, q ≠ 90 → σ'.1 q = σ.1 q) ∧ σ'.2 = σ.2) := by
  have hk := tk_lt (p := p) hb
  unfold f_X12_wrong f_X12_wrong_22
  rw [h2, lm.2.1]
  refine ok_pos (by decide) ?_
  by_cases h : tk τ p = 103
  · refine ok_pos ((srt_3 hk).mpr h) (ok_sI2 fun σ1 n1 u1 f1 => ok_sI2 fun σ2 n2 u2 f2 => ok_ret ⟨⟨?_, ?_, fun k hk' => ?_⟩, fun k a b => ?_, fun q hq => by rw [n2 q hq, n1 q hq], by rw [f2, f1]⟩)
    · rw [u2, pk_un (by decide), u1, pk_us, if_pos h]; rfl
    · rw [u2, pk_us, u1, pk_un (by decide)]; exact lm.1
    · rw [u2, pk_un (fun z => hk' (by unfold nF; omega)), u1, pk_un (fun z => hk' (by unfold nF; omega))]; exact hf k hk'
    · rw [u2, pk_un b, u1, pk_un a]
  · refine ok_neg (fun z => h ((srt_3 hk).mp z)) (ok_sI2 fun σ1 n1 u1 f1 => ok_sI2 fun σ2 n2 u2 f2 => ok_ret ⟨⟨?_, ?_, fun k hk' => ?_⟩, fun k a b => ?_, fun q hq => by rw [n2 q hq, n1 q hq], by rw [f2, f1]⟩)
    · rw [u2, pk_un (by decide), u1, pk_us, if_neg h]; rfl
    · rw [u2, pk_us, u1, pk_un (by decide)]; exact lm.1
    · rw [u2, pk_un (fun z => hk' (by unfold nF; omega)), u1, pk_un (fun z => hk' (by unfold nF; omega))]; exact hf k hk'
    · rw [u2, pk_un b, u1, pk_un a]
theorem flt_nz {τ : Tape} {j : Nat} {σ0 σ : St} (h : FltM τ σ0 j σ) : ¬ σ.1 90 2 = 0 ∧ ¬ σ.1 90 2 ≤ 0 := by
  rw [h.1]
  split <;> exact ⟨by decide, by decide⟩
/-- a fault ends the formula -/
theorem end_flt {N t n w n0 : Nat} {τ : Tape} {σ0 σ : St} {j : Nat} (h : FltM τ σ0 j σ) (hn : 0 < n) : Ok (f_X12_formula_50 N (RR t) 90 (nI w) n 1 σ) (fun _ σ' => QM τ w n0 σ0 (.inr j) σ') := by
  obtain ⟨m, rfl⟩ : ∃ m, n = m + 1 := ⟨n - 1, by omega⟩
  have z := (flt_nz h).1
  show Ok (b_X12_formula_50 _ _ _ _ _ _ _) _
  unfold b_X12_formula_50 f_X12_formula_177 f_X12_formula_196 f_X12_formula_208
  exact ok_neg (by decide) (ok_neg z (ok_neg z (ok_neg z (ok_ret h))))
/-- a fault ends the unit -/
theorem unit_flt {N t n : Nat} {τ : Tape} {σ0 σ : St} {j : Nat} {x : Int32} (h : FltM τ σ0 j σ) (hn : 0 < n) : Ok (f_X12_unit_2 N (RR t) 90 n x σ) (fun _ σ' => FltM τ σ0 j σ') := by
  obtain ⟨m, rfl⟩ : ∃ m, n = m + 1 := ⟨n - 1, by omega⟩
  have z := flt_nz h
  show Ok (b_X12_unit_2 _ _ _ _ _ _) _
  unfold b_X12_unit_2 f_X12_unit_101
  exact ok_ite (fun _ => ok_neg z.2 (ok_ret h)) (fun _ => ok_neg z.1 (ok_neg z.2 (ok_ret h)))
def oc : List Nat → Nat
  | [] => 0
  | x :: r => (if x < 10 then 1 else 0) + oc r
def nb : List Nat → Nat
  | [] => 0
  | x :: r => (if x = 11 then 0 else 1) + nb r
theorem len_oc : ∀ O : List Nat, O.length = oc O + dpt O
  | [] => rfl
  | x :: r => by
    rw [List.length_cons, oc, dpt, len_oc r]
    by_cases h : x < 10
    · rw [if_pos h, if_neg (by omega)]; omega
    · rw [if_neg h, if_pos (by omega)]; omega
theorem oc_app : ∀ P O : List Nat, oc (P ++ O) = oc P + oc O
  | [], O => by rw [List.nil_append, oc, Nat.zero_add]
  | x :: P, O => by rw [List.cons_append, oc, oc, oc_app P O]; omega
theorem nb_app : ∀ P O : List Nat, nb (P ++ O) = nb P + nb O
  | [], O => by rw [List.nil_append, nb, Nat.zero_add]
  | x :: P, O => by rw [List.cons_append, nb, nb, nb_app P O]; omega
theorem dpt_app : ∀ P O : List Nat, dpt (P ++ O) = dpt P + dpt O
  | [], O => by rw [List.nil_append, dpt, Nat.zero_add]
  | x :: P, O => by rw [List.cons_append, dpt, dpt, dpt_app P O]; omega
theorem nb_len : ∀ {P : List Nat}, (∀ x ∈ P, x ≠ 11) → nb P = P.length
  | [], _ => rfl
  | x :: P, h => by rw [nb, if_neg (h x List.mem_cons_self), List.length_cons, nb_len (fun y hy => h y (List.mem_cons_of_mem _ hy))]; omega
def Bd (b : Bool) (O : List Nat) (E : List Cd) (u : Nat) : Prop := (∀ x ∈ O, x < 12) ∧ dpt O ≤ 7 ∧ u ≤ 30 ∧ oc O + (if b = true then 0 else 1) ≤ u ∧ E.length + nb O + (if b = true then 0 else 1) ≤ 9 * u + (if b = true then dpt O else 0)
theorem bd_len {b : Bool} {O : List Nat} {E : List Cd} {u : Nat} (h : Bd b O E u) : O.length ≤ 37 ∧ E.length + nb O ≤ 277 := by
  have := len_oc O
  obtain ⟨h1, h2, h3, h4, h5⟩ := h
  constructor
  · omega
  · cases b
    · simp at h5; omega
    · simp at h5; omega
theorem bd_nt {O : List Nat} {E : List Cd} {u : Nat} (h : Bd true O E u) (hd : dpt O ≤ 6) : Bd true (10 :: O) E u := by
  obtain ⟨h1, h2, h3, h4, h5⟩ := h
  refine ⟨fun x hx => (List.mem_cons.mp hx).elim (fun e => by omega) (h1 x), by rw [dpt_nt]; omega, h3, ?_, ?_⟩
  · rw [oc, if_neg (by decide)]; simp at h4 ⊢; exact h4
  · rw [nb, if_neg (by decide), dpt_nt]; simp at h5 ⊢; omega
theorem bd_br {O : List Nat} {E : List Cd} {u : Nat} (h : Bd true O E u) (hd : dpt O ≤ 6) (hu : u < 30) : Bd true (11 :: O) E (u + 1) := by
  obtain ⟨h1, h2, h3, h4, h5⟩ := h
  refine ⟨fun x hx => (List.mem_cons.mp hx).elim (fun e => by omega) (h1 x), by rw [dpt_br]; omega, by omega, ?_, ?_⟩
  · rw [oc, if_neg (by decide)]; simp at h4 ⊢; omega
  · rw [nb, if_pos rfl, dpt_br]; simp at h5 ⊢; omega
theorem bd_un {O : List Nat} {E : List Cd} {u : Nat} {c : Cd} (h : Bd true O E u) (hu : u < 30) : Bd false O (E ++ [c]) (u + 1) := by
  obtain ⟨h1, h2, h3, h4, h5⟩ := h
  refine ⟨h1, h2, by omega, ?_, ?_⟩
  · simp at h4 ⊢; exact h4
  · rw [List.length_append]; simp at h5 ⊢; omega
theorem bd_cl {P O : List Nat} {E : List Cd} {u : Nat} (h : Bd false (P ++ 11 :: O) E u) (hP : ∀ x ∈ P, x ≠ 11) : Bd false O (E ++ P.map outc) u := by
  obtain ⟨h1, h2, h3, h4, h5⟩ := h
  rw [dpt_app, dpt_br] at h2
  rw [oc_app, oc, if_neg (by decide)] at h4
  rw [nb_app, nb, if_pos rfl, nb_len hP] at h5
  refine ⟨fun x hx => h1 x (List.mem_append_right _ (List.mem_cons_of_mem _ hx)), by omega, h3, ?_, ?_⟩
  · simp at h4 ⊢; omega
  · rw [List.length_append, List.length_map]; simp at h5 ⊢; omega
theorem bd_op {P O : List Nat} {E : List Cd} {u s : Nat} (h : Bd false (P ++ O) E u) (hP : ∀ x ∈ P, x ≠ 11) (hs : s < 10) : Bd true (s :: O) (E ++ P.map outc) u := by
  obtain ⟨h1, h2, h3, h4, h5⟩ := h
  rw [dpt_app] at h2
  rw [oc_app] at h4
  rw [nb_app, nb_len hP] at h5
  refine ⟨fun x hx => (List.mem_cons.mp hx).elim (fun e => by omega) (fun hx => h1 x (List.mem_append_right _ hx)), by rw [dpt_op hs]; omega, h3, ?_, ?_⟩
  · rw [oc, if_pos hs]; simp at h4 ⊢; omega
  · rw [nb, if_neg (by omega), List.length_append, List.length_map]; simp at h5 ⊢; omega
theorem tn_gt {τ : Tape} {p : Nat} (h : tk τ p ≠ 102) : p < tn τ p := by
  have hq : p ≤ tq τ p := rnP_ge
  unfold tn
  by_cases c1 : tq τ p < τ.1
  · rw [if_pos c1]
    by_cases c2 : isL (τ.2 (tq τ p)) = true
    · rw [if_pos c2]
      have : 0 < tl τ p := by
        apply Classical.byContradiction
        intro hn
        have e : tl τ p = 0 := by omega
        have := tl_out (τ := τ) (p := p)
        rw [e, Nat.add_zero] at this
        exact this ⟨c1, c2⟩
      omega
    · rw [if_neg c2]
      by_cases c3 : isD (τ.2 (tq τ p)) = true
      · rw [if_pos c3]
        have : 0 < td τ p := by
          apply Classical.byContradiction
          intro hn
          have e : td τ p = 0 := by omega
          have := td_out (τ := τ) (p := p)
          rw [e, Nat.add_zero] at this
          exact this ⟨c1, c3⟩
        omega
      · rw [if_neg c3]; omega
  · exact absurd (by unfold tk; rw [if_neg c1]) h
