/-! WHAT THE MODEL's STACK HAS -/
theorem stO_suf {a : Nat → Int32} {R : List Nat} : ∀ {A : List Nat}, stO (A ++ R) a → stO R a
  | [], h => h
  | _ :: A, h => stO_suf (A := A) h.2
theorem s_hasBr {N t : Nat} {O : List Nat} {σ : St} (hN : 20000 ≤ N) (hl : O.length ≤ 160) (h12 : ∀ x ∈ O, x < 12) (h21 : σ.1 90 21 = nI O.length) (hst : stO O (σ.1 99)) : Ok (f_X12_hasBracket N (RR t) 90 σ) (fun r σ' => r = fl (decide (11 ∈ O)) ∧ σ' = σ) := by
  unfold f_X12_hasBracket
  refine lp (F := fun n i (R : List Nat) => f_X12_hasBracket_4 N (RR t) 90 n (fl (decide (11 ∈ R))) (nI i) σ) O.length (fun i R => R.length = i ∧ ∃ A, O = A ++ R) ?_ ?_ N 0 [] (Nat.zero_le _) (by omega) ⟨rfl, O, (List.append_nil O).symm⟩
  · rintro n i R hi ⟨rfl, A, hA⟩ kk
    obtain ⟨A', x, rfl⟩ : ∃ A' x, A = A' ++ [x] := by
      rcases List.eq_nil_or_concat A with rfl | ⟨A', x, e⟩
      · rw [List.nil_append] at hA; subst hA; exact absurd hi (Nat.lt_irrefl _)
      · exact ⟨A', x, by rw [e, List.concat_eq_append]⟩
    have hO : O = A' ++ x :: R := by rw [hA, List.append_assoc]; rfl
    have hsR : stO (x :: R) (σ.1 99) := stO_suf (A := A') (by rw [← hO]; exact hst)
    have hx : σ.1 99 R.length = enO x := hsR.1
    have hx12 := h12 x (by rw [hO]; simp)
    have k1 := kk (x :: R) ⟨rfl, A', hO⟩
    show Ok (b_X12_hasBracket_4 _ _ _ _ _ _ _) _
    unfold b_X12_hasBracket_4 f_X12_hasBracket_27 f_X12_hasBracket_32
    rw [h21, r_90_17 rfl, nI_clamp (show R.length < 2 ^ 31 by omega), hx, nI_1 R.length]
    refine ok_neg (nI_ge hi (by omega)) ?_
    by_cases hR : 11 ∈ R
    · rw [decide_eq_true (List.mem_cons_of_mem x hR)] at k1
      rw [decide_eq_true hR]
      exact ok_neg (by decide) k1
    · rw [decide_eq_false hR]
      refine ok_pos rfl (ok_gd (ib_nI (by omega) (by decide)) ?_)
      by_cases h11 : x = 11
      · rw [decide_eq_true (by rw [h11]; exact List.mem_cons_self)] at k1
        exact ok_pos ((enO_20 x hx12).1.mpr h11) k1
      · rw [decide_eq_false (fun z => (List.mem_cons.mp z).elim (fun e => h11 e.symm) hR)] at k1
        exact ok_neg (fun z => h11 ((enO_20 x hx12).1.mp z)) k1
  · rintro n R ⟨hR, A, hA⟩
    have : R = O := by
      have hl := congrArg List.length hA
      rw [List.length_append] at hl
      have : A = [] := List.eq_nil_of_length_eq_zero (by omega)
      rw [this, List.nil_append] at hA
      exact hA.symm
    subst this
    show Ok (b_X12_hasBracket_4 _ _ _ _ _ _ _) _
    unfold b_X12_hasBracket_4
    rw [h21]
    refine ok_pos (Int32.le_refl _) (ok_gd ?_ (ok_ret ⟨rfl, rfl⟩))
    unfold fl
    split <;> rfl
theorem rel_n : ¬ hasRel [] := by
  rintro ⟨P, x, r, e, _⟩
  have := congrArg List.length e
  simp at this
theorem rel_c {x : Nat} {r : List Nat} : hasRel (x :: r) ↔ x ≠ 11 ∧ (tg x = 4 ∨ (4 < tg x ∧ hasRel r)) := by
  constructor
  · rintro ⟨P, y, s, e, h1, h2, h3⟩
    cases P with
    | nil =>
      rw [List.nil_append] at e
      injection e with e1 e2
      rw [e1]
      exact ⟨h2, Or.inl h3⟩
    | cons a P =>
      rw [List.cons_append] at e
      injection e with e1 e2
      have := h1 a List.mem_cons_self
      rw [e1]
      exact ⟨this.1, Or.inr ⟨this.2, P, y, s, e2, fun z hz => h1 z (List.mem_cons_of_mem _ hz), h2, h3⟩⟩
  · rintro ⟨h1, h2 | ⟨h2, P, y, s, e, g1, g2, g3⟩⟩
    · exact ⟨[], x, r, rfl, fun y hy => (by cases hy), h1, h2⟩
    · exact ⟨x :: P, y, s, by rw [e]; rfl, fun z hz => (List.mem_cons.mp hz).elim (fun e => by rw [e]; exact ⟨h1, h2⟩) (g1 z), g2, g3⟩
theorem s_hasRelL {N t : Nat} {σ : St} : ∀ (O : List Nat) (n : Nat), O.length < n → O.length ≤ 160 → (∀ x ∈ O, x < 12) → stO O (σ.1 99) → Ok (f_X12_hasRelation_7 N (RR t) 90 n (nI O.length + (-1)) σ) (fun r σ' => (r = 1 ∨ r = 0) ∧ (r = 1 ↔ hasRel O) ∧ σ' = σ)
  | _, 0, h, _, _, _ => absurd h (by omega)
  | [], n + 1, _, _, _, _ => by
    show Ok (b_X12_hasRelation_7 _ _ _ _ _ _) _
    unfold b_X12_hasRelation_7 f_X12_hasRelation_41 f_X12_hasRelation_73 f_X12_hasRelation_74
    exact ok_pos (by decide) (ok_pos (by decide) (ok_gd rfl (ok_ret ⟨Or.inr rfl, ⟨fun z => absurd z (by decide), fun z => absurd z rel_n⟩, rfl⟩)))
  | x :: r, n + 1, hn, hl, h12, hst => by
    have hx12 := h12 x List.mem_cons_self
    have hl' : r.length + 1 ≤ 160 := hl
    have e1 : nI (x :: r).length + (-1) = nI r.length := pk_m1 r.length
    have i1 : ib (nI r.length) 160 = true := ib_nI (by omega) (by decide)
    have no : ¬ hasRel (x :: r) → Ok (f_X12_hasRelation_73 N (RR t) 90 σ) (fun q σ' => (q = 1 ∨ q = 0) ∧ (q = 1 ↔ hasRel (x :: r)) ∧ σ' = σ) := fun hn => by
      unfold f_X12_hasRelation_73 f_X12_hasRelation_74
      exact ok_gd rfl (ok_ret ⟨Or.inr rfl, ⟨fun z => absurd z (by decide), fun z => absurd z hn⟩, rfl⟩)
    have h41 : ¬ (x ≠ 11 ∧ 4 < tg x) → Ok (f_X12_hasRelation_41 N (RR t) 90 (nI r.length) σ) (fun q σ' => (q = 1 ∨ q = 0) ∧ (q = 1 ↔ hasRel (x :: r)) ∧ σ' = σ) := fun hc => by
      unfold f_X12_hasRelation_41
      rw [r_90_17 rfl, nI_clamp (show r.length < 2 ^ 31 by omega), hst.1]
      refine ok_neg (nI_pos (by omega)) (ok_gd i1 ?_)
      by_cases h11 : x = 11
      · exact ok_pos ((enO_20 x hx12).1.mpr h11) (no (fun z => (rel_c.mp z).1 h11))
      · refine ok_neg (fun z => h11 ((enO_20 x hx12).1.mp z)) (ok_gd i1 (ok_bnd (s_tight (by omega)) ?_))
        by_cases h4 : tg x = 4
        · unfold f_X12_hasRelation_74
          exact ok_pos (by rw [h4]; rfl) (ok_gd rfl (ok_ret ⟨Or.inl rfl, ⟨fun _ => rel_c.mpr ⟨h11, Or.inl h4⟩, fun _ => rfl⟩, rfl⟩))
        · have hlt : ¬ 4 < tg x := fun z => hc ⟨h11, z⟩
          exact ok_neg (fun z => h4 ((nI_eq (b := 4) (by omega) (by decide)).mp z)) (no (fun z => (rel_c.mp z).2.elim h4 (fun y => hlt y.1)))
    show Ok (b_X12_hasRelation_7 _ _ _ _ _ _) _
    unfold b_X12_hasRelation_7
    rw [e1, r_90_17 rfl, nI_clamp (show r.length < 2 ^ 31 by omega), hst.1]
    refine ok_neg (nI_pos (by omega)) (ok_gd i1 ?_)
    by_cases h11 : x = 11
    · exact ok_pos ((enO_20 x hx12).1.mpr h11) (h41 (fun z => z.1 h11))
    · have tgx : tg x ≤ 6 := by
        have key : ∀ x, x < 12 → tg x ≤ 6 := by decide +kernel
        exact key x hx12
      refine ok_neg (fun z => h11 ((enO_20 x hx12).1.mp z)) (ok_gd i1 (ok_bnd (s_tight (by omega)) ?_))
      by_cases h4 : 4 < tg x
      · refine ok_neg (show ¬ nI (tg x) ≤ nI 4 from nI_ge h4 (by omega)) (ok_mono (s_hasRelL r n (by have : r.length + 1 < n + 1 := hn; omega) (by omega) (fun y hy => h12 y (List.mem_cons_of_mem _ hy)) hst.2) (fun q σ' h => ⟨h.1, h.2.1.trans ⟨fun z => rel_c.mpr ⟨h11, Or.inr ⟨h4, z⟩⟩, fun z => (rel_c.mp z).2.elim (fun e => by omega) (fun y => y.2)⟩, h.2.2⟩))
      · exact ok_pos (show nI (tg x) ≤ nI 4 from nI_le (by omega) (by decide)) (h41 (fun z => h4 z.2))
theorem s_hasRel {N t : Nat} {O : List Nat} {σ : St} (hN : 20000 ≤ N) (hl : O.length ≤ 160) (h12 : ∀ x ∈ O, x < 12) (h21 : σ.1 90 21 = nI O.length) (hst : stO O (σ.1 99)) : Ok (f_X12_hasRelation N (RR t) 90 σ) (fun r σ' => (r = 1 ∨ r = 0) ∧ (r = 1 ↔ hasRel O) ∧ σ' = σ) := by
  unfold f_X12_hasRelation
  rw [h21, nI_sub1]
  exact ok_nmd (s_hasRelL O N (by omega) hl h12 hst)
theorem s_mayNot {N t : Nat} {O : List Nat} {σ : St} (hl : O.length ≤ 160) (h12 : ∀ x ∈ O, x < 12) (h21 : σ.1 90 21 = nI O.length) (hst : stO O (σ.1 99)) : Ok (f_X12_mayNot N (RR t) 90 σ) (fun r σ' => (r = 1 ∨ r = 0) ∧ (r = 1 ↔ stp 4 O) ∧ σ' = σ) := by
  unfold f_X12_mayNot f_X12_mayNot_41 f_X12_mayNot_46
  rw [h21, r_90_17 rfl]
  cases O with
  | nil => exact ok_pos rfl (ok_gd rfl (ok_ret ⟨Or.inl rfl, ⟨fun _ => trivial, fun _ => rfl⟩, rfl⟩))
  | cons x r =>
    have hx12 := h12 x List.mem_cons_self
    have hl' : r.length + 1 ≤ 160 := hl
    have e1 : nI (x :: r).length - 1 = nI r.length := by rw [nI_sub1]; exact pk_m1 r.length
    have i1 : ib (nI r.length) 160 = true := ib_nI (by omega) (by decide)
    have tgx : tg x ≤ 6 := by
      have key : ∀ x, x < 12 → tg x ≤ 6 := by decide +kernel
      exact key x hx12
    rw [e1, nI_clamp (show r.length < 2 ^ 31 by omega), hst.1]
    refine ok_neg (nI_ne0 (by show 0 < r.length + 1; omega) (by show r.length + 1 < _; omega)) (ok_gd i1 ?_)
    by_cases h11 : x = 11
    · exact ok_pos ((enO_20 x hx12).1.mpr h11) (ok_gd rfl (ok_ret ⟨Or.inl rfl, ⟨fun _ => Or.inl h11, fun _ => rfl⟩, rfl⟩))
    · refine ok_neg (fun z => h11 ((enO_20 x hx12).1.mp z)) (ok_gd i1 (ok_bnd (s_tight (by omega)) ?_))
      by_cases h4 : 4 ≤ tg x
      · exact ok_pos (show nI 4 ≤ nI (tg x) from nI_le h4 (by omega)) (ok_gd rfl (ok_ret ⟨Or.inr rfl, ⟨fun z => absurd z (by decide), fun z => z.elim (fun e => absurd e h11) (fun e => by omega)⟩, rfl⟩))
      · exact ok_neg (show ¬ nI 4 ≤ nI (tg x) from nI_ge (by omega) (by decide)) (ok_gd rfl (ok_ret ⟨Or.inl rfl, ⟨fun _ => Or.inr (by omega), fun _ => rfl⟩, rfl⟩))
