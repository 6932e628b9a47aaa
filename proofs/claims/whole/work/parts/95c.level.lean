/-! THE CLASS's LEVELS -/
def FA (f q : Nat) : Prop := q = 3 ∨ q = f ∨ q = f + 1
def PreX (τ : Tape) (f d p u : Nat) (E : List Cd) (σ : St) : Prop := TapX τ σ ∧ WrdI σ ∧ LexX τ p σ ∧ p ≤ τ.1 ∧ FrX f E u σ ∧ E.length ≤ 9 * u ∧ u ≤ 30 ∧ d ≤ 7
def FltX (τ : Tape) (j : Nat) (σ : St) : Prop := σ.1 3 7 = nI (if tk τ j = 103 then 1 else 2) ∧ σ.1 3 8 = nI (tq τ j)
def PstX (τ : Tape) (l f d p u : Nat) (E : List Cd) (σ : St) (r : Int32) (σ' : St) : Prop := ((r = 1 ∧ ∃ p' u' C, Sim τ l l d p u p' u' C ∧ GC d u u' C ∧ LexX τ p' σ' ∧ p' ≤ τ.1 ∧ FrX f (E ++ C) u' σ' ∧ σ'.1 3 7 = σ.1 3 7 ∧ σ'.1 3 8 = σ.1 3 8) ∨ (r = 0 ∧ ∃ j, SimB τ l d p u j ∧ FltX τ j σ')) ∧ Ag (FA f) σ σ'
theorem FA_tap {τ : Tape} {f : Nat} {σ σ' : St} (hf : isF f) (h : TapX τ σ) (a : Ag (FA f) σ σ') : TapX τ σ' := TapX_cg h (a 4 (by unfold FA; unfold isF at hf; omega)).1 (a 5 (by unfold FA; unfold isF at hf; omega)).1
theorem FA_wrd {f : Nat} {σ σ' : St} (hf : isF f) (h : WrdI σ) (a : Ag (FA f) σ σ') : WrdI σ' := WrdI_cg h (a 6 (by unfold FA; unfold isF at hf; omega)).2
theorem FA_3 {f : Nat} {σ σ' : St} (a : Ag (fun q => q = 3) σ σ') : Ag (FA f) σ σ' := ag_mono a (fun p hp => Or.inl hp)
theorem FA_f {f : Nat} {σ σ' : St} (a : Ag (fun q => q = f ∨ q = f + 1) σ σ') : Ag (FA f) σ σ' := ag_mono a (fun p hp => Or.inr hp)
theorem s_add0 {N t f : Nat} {x : Int32} {σ : St} (hf : isF f) : Ok (f_X1_add N (RR t) f x σ) (fun _ σ' => Ag (fun q => q = f ∨ q = f + 1) σ σ') := by
  unfold f_X1_add f_X1_add_37
  rw [rF rfl hf]
  refine ok_ite (fun _ => ok_ret ag_refl) (fun h1 => ok_ite (fun _ => ok_ret ag_refl) (fun h2 => ok_gd ?_ (ok_sI2 fun σ1 n1 u1 f1 => ok_sI2 fun σ2 n2 u2 f2 => ok_ret (fun q hq => ⟨by rw [n2 q (by omega), n1 q (by omega)], by rw [f2, f1]⟩))))
  have a : (0 : Int32) ≤ σ.1 f 2 := i_nlt.mp h1
  have b : σ.1 f 2 < 270 := i_nle.mp h2
  obtain ⟨k, hk, e⟩ : ∃ k, k < 270 ∧ σ.1 f 2 = nI k := by
    rcases ix_of (σ.1 f 2) (show 270 < 2 ^ 31 by decide) with ⟨k, hk, e⟩ | hn
    · exact ⟨k, hk, e⟩
    · exact hn.elim (fun z => absurd z h1) (fun z => absurd z h2)
  rw [e]
  exact ib_nI hk (by decide)
theorem s_refuse {N t p : Nat} {τ : Tape} {σ : St} (lx : LexX τ p σ) (hk : tk τ p < 2 ^ 30) : Ok (f_X5_refuse N (RR t) 3 2 σ) (fun r σ' => r = 0 ∧ FltX τ p σ' ∧ Ag (fun q => q = 3) σ σ') := by
  unfold f_X5_refuse f_X5_refuse_15
  rw [lx.2.1]
  by_cases h : tk τ p = 103
  · refine ok_pos (by rw [h]; rfl) (ok_sI2 fun σ1 n1 u1 f1 => ok_sI2 fun σ2 n2 u2 f2 => ok_ret ⟨rfl, ⟨?_, ?_⟩, fun q hq => ⟨by rw [n2 q hq, n1 q hq], by rw [f2, f1]⟩⟩)
    · rw [u2, pk_un (by decide), u1, pk_us, if_pos h]; rfl
    · rw [u2, pk_us, u1, pk_un (by decide)]; exact lx.1
  · refine ok_neg (fun z => h ((nI_eq (b := 103) (by omega) (by decide)).mp z)) (ok_sI2 fun σ1 n1 u1 f1 => ok_sI2 fun σ2 n2 u2 f2 => ok_ret ⟨rfl, ⟨?_, ?_⟩, fun q hq => ⟨by rw [n2 q hq, n1 q hq], by rw [f2, f1]⟩⟩)
    · rw [u2, pk_un (by decide), u1, pk_us, if_neg h]; rfl
    · rw [u2, pk_us, u1, pk_un (by decide)]; exact lx.1
def HG (τ : Tape) (l f d : Nat) (G : Nat → Nat → Int32 → St → Option (Int32 × St)) : Prop := ∀ p u E σ, PreX τ f d p u E σ → Ok (G 2 f (nI d) σ) (PstX τ l f d p u E σ)
theorem opC_enc {s : Nat} (h : s < 10) : -(opC s) = encC (outc s) := by
  rw [show outc s = .inr (.inr (.inr s)) from if_neg (by omega)]
  rfl
theorem len9 {d u u' a b : Nat} (h : b + 1 ≤ (9 - d) * (u' - u)) (ha : a ≤ 9 * u) (hu : u < u') : a + b + 1 ≤ 9 * u' := by
  have : (9 - d) * (u' - u) ≤ 9 * (u' - u) := Nat.mul_le_mul_right _ (by omega)
  omega
set_option maxHeartbeats 1600000 in
theorem lvl_loop {N t l m f d : Nat} {τ : Tape} {G : Nat → Nat → Int32 → St → Option (Int32 × St)} {B : (Int32 → Int32 → St → Option (Int32 × St)) → Int32 → Int32 → St → Option (Int32 × St)} {Fn : Nat → Int32 → Int32 → St → Option (Int32 × St)} (hN : 20000 ≤ N) (hf : isF f) (hm : m = l + 1) (hlm : l = 1 ∨ l = 2 ∨ l = 5 ∨ l = 6)
    (hG : HG τ m f d G) (hFn : ∀ n x y σ, Fn (n + 1) x y σ = B (Fn n) x y σ) (h0 : ∀ rec x4 σ, B rec 0 x4 σ = some (0, σ))
    (hstop : ∀ rec i p1 σ, i < 30 → σ.1 3 4 = nI (tk τ p1) → (∀ s, opk (tk τ p1) = some s → tg s ≠ l) → B rec 1 (nI i) σ = some (1, σ))
    (hgo : ∀ rec i p1 s σ, i < 30 → σ.1 3 4 = nI (tk τ p1) → opk (tk τ p1) = some s → tg s = l → B rec 1 (nI i) σ = bnd (f_X5_advance N (RR t) 3 σ) fun _ σ6 => bnd (G 2 f (nI d) σ6) fun r8 σ9 => bnd (f_X1_add N (RR t) f (-(opC s)) σ9) fun _ σ12 => rec r8 (nI (i + 1)) σ12)
    {p u : Nat} {E : List Cd} {σ : St} (pre : PreX τ f d p u E σ) : Ok (bnd (G 2 f (nI d) σ) fun r σ' => Fn N r 0 σ') (PstX τ l f d p u E σ) := by
  have cup : ∀ p O, ctx τ l p O → ctx τ m p O := fun p O h => ctx_up (by omega) (by omega) (by omega) (by omega) h
  obtain ⟨tx, wd, lx, hp, fx, hE, hu, hd⟩ := pre
  refine ok_call (hG p u E σ ⟨tx, wd, lx, hp, fx, hE, hu, hd⟩) (fun r0 σ1 h1 => ?_)
  have fin0 : ∀ n i σ2, Ok (Fn (n + 1) 0 (nI i) σ2) (fun r σ' => r = 0 ∧ σ' = σ2) := fun n i σ2 => by rw [hFn, h0]; exact ok_ret ⟨rfl, rfl⟩
  have main : ∀ n i (b : Option (Nat × Nat × List Cd) × St), i ≤ 30 → 30 - i < n → ((match b.1 with
      | some (p1, u1, C1) => Sim τ l m d p u p1 u1 C1 ∧ GC d u u1 C1 ∧ u + i + 1 ≤ u1 ∧ LexX τ p1 b.2 ∧ p1 ≤ τ.1 ∧ FrX f (E ++ C1) u1 b.2 ∧ b.2.1 3 7 = σ.1 3 7 ∧ b.2.1 3 8 = σ.1 3 8
      | none => ∃ j, SimB τ l d p u j ∧ FltX τ j b.2) ∧ Ag (FA f) σ b.2) → Ok (Fn n (if b.1 = none then 0 else 1) (nI i) b.2) (PstX τ l f d p u E σ) := by
    refine lp (F := fun n i (b : Option (Nat × Nat × List Cd) × St) => Fn n (if b.1 = none then 0 else 1) (nI i) b.2) 30 (fun i b => (match b.1 with
      | some (p1, u1, C1) => Sim τ l m d p u p1 u1 C1 ∧ GC d u u1 C1 ∧ u + i + 1 ≤ u1 ∧ LexX τ p1 b.2 ∧ p1 ≤ τ.1 ∧ FrX f (E ++ C1) u1 b.2 ∧ b.2.1 3 7 = σ.1 3 7 ∧ b.2.1 3 8 = σ.1 3 8
      | none => ∃ j, SimB τ l d p u j ∧ FltX τ j b.2) ∧ Ag (FA f) σ b.2) ?_ ?_
    · rintro n i ⟨o, σ2⟩ hi ⟨hb, a2⟩ kk
      cases o with
      | none =>
        show Ok (Fn (n + 1) 0 (nI i) σ2) _
        exact ok_mono (fin0 n i σ2) (fun r σ' h => ⟨Or.inr ⟨h.1, by rw [h.2]; exact hb⟩, by rw [h.2]; exact a2⟩)
      | some q =>
        obtain ⟨p1, u1, C1⟩ := q
        obtain ⟨sm, gc, hi1, lx2, hp1, fx2, e7, e8⟩ := hb
        show Ok (Fn (n + 1) 1 (nI i) σ2) _
        rw [hFn]
        by_cases hop : ∃ s, opk (tk τ p1) = some s ∧ tg s = l
        · obtain ⟨s, es, hs⟩ := hop
          have h10 := opk_lt es
          rw [hgo _ i p1 s σ2 hi lx2.2.1 es hs]
          have tx2 := FA_tap hf tx a2
          have wd2 := FA_wrd hf wd a2
          refine ok_call (s_advance hN tx2 wd2 (tn_le hp1) lx2.2.2.2.2) (fun _ σ3 h3 => ?_)
          obtain ⟨⟨lx3, e73, e83⟩, a3⟩ := h3
          have a3' : Ag (FA f) σ2 σ3 := FA_3 a3
          have a13 := ag_trans a2 a3'
          have f3 : f ≠ 3 ∧ f + 1 ≠ 3 := by unfold isF at hf; omega
          have fx3 : FrX f (E ++ C1) u1 σ3 := FrX_cg fx2 (a3 f f3.1).1 (a3 (f + 1) f3.2).1
          have hlen : (E ++ C1).length ≤ 9 * u1 := by rw [List.length_append]; have := len9 gc.2.2.1 hE gc.1; omega
          refine ok_call (hG _ u1 (E ++ C1) σ3 ⟨FA_tap hf tx a13, FA_wrd hf wd a13, lx3, tn_le hp1, fx3, hlen, gc.2.1, hd⟩) (fun r8 σ4 h4 => ?_)
          obtain ⟨h4, a4⟩ := h4
          have a14 := ag_trans a13 a4
          rcases h4 with ⟨rfl, p2, u2, C2, sm2, gc2, lx4, hp2, fx4, e74, e84⟩ | ⟨rfl, j, sb2, flt⟩
          · have hlen2 : (E ++ C1 ++ C2).length < 270 := by
              have := len9 gc2.2.2.1 hlen gc2.1
              have := gc2.2.1
              rw [List.length_append]
              omega
            refine ok_call (s_add (c := outc s) hf fx4 hlen2 (opC_enc h10)) (fun _ σ5 h5 => ?_)
            obtain ⟨fx5, a5⟩ := h5
            have q3 : σ5.1 3 = σ4.1 3 ∧ σ5.2 3 = σ4.2 3 := a5 3 (by omega)
            refine kk (some (p2, u2, C1 ++ C2 ++ [outc s]), σ5) ⟨⟨sim_join sm es hs (by omega) (by omega) (by omega) sm2 (by omega), GC_join h10 gc gc2, by have := gc2.1; omega, ?_, hp2, ?_, ?_, ?_⟩, ag_trans a14 (FA_f a5)⟩
            · show LexX τ p2 σ5
              unfold LexX
              rw [q3.1, q3.2]
              exact lx4
            · rw [← List.append_assoc, ← List.append_assoc]
              exact fx5
            · show σ5.1 3 7 = _
              rw [q3.1, e74, e73]; exact e7
            · show σ5.1 3 8 = _
              rw [q3.1, e84, e83]; exact e8
          · refine ok_call (s_add0 hf) (fun _ σ5 a5 => ?_)
            have q3 : σ5.1 3 = σ4.1 3 := (a5 3 (by omega)).1
            refine kk (none, σ5) ⟨⟨j, sim_joinB sm es hs (by omega) (by omega) sb2 (by omega), ?_⟩, ag_trans a14 (FA_f a5)⟩
            show FltX τ j σ5
            unfold FltX
            rw [q3]
            exact flt
        · rw [hstop _ i p1 σ2 hi lx2.2.1 (fun s es hs => hop ⟨s, es, hs⟩)]
          refine ok_ret ⟨Or.inl ⟨rfl, p1, u1, C1, sim_stop sm (fun s es hl => ?_), gc, lx2, hp1, fx2, e7, e8⟩, a2⟩
          have : tg s ≠ l := fun z => hop ⟨s, es, z⟩
          omega
    · rintro n ⟨o, σ2⟩ ⟨hb, a2⟩
      cases o with
      | none =>
        show Ok (Fn (n + 1) 0 (nI 30) σ2) _
        exact ok_mono (fin0 n 30 σ2) (fun r σ' h => ⟨Or.inr ⟨h.1, by rw [h.2]; exact hb⟩, by rw [h.2]; exact a2⟩)
      | some q =>
        obtain ⟨p1, u1, C1⟩ := q
        obtain ⟨sm, gc, hi1, _⟩ := hb
        have := gc.2.1
        omega
  obtain ⟨h1, a1⟩ := h1
  rcases h1 with ⟨rfl, p1, u1, C1, sm, gc, lx1, hp1, fx1, e7, e8⟩ | ⟨rfl, j, sb1, flt⟩
  · exact main N 0 (some (p1, u1, C1), σ1) (by decide) (by omega) ⟨⟨sim_up sm (by omega) (cup p), gc, by have := gc.1; omega, lx1, hp1, fx1, e7, e8⟩, a1⟩
  · exact main N 0 (none, σ1) (by decide) (by omega) ⟨⟨j, simB_up sb1 (cup p), flt⟩, a1⟩
