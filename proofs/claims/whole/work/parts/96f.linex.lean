/-! A LINE: what it may tell; the class's line -/
def fE (c : CDat) (w : Nat) : List Cd := if w = 0 then fb c else fw c
def upF (D : Dr) (w : Nat) (C : List Cd) (u : Nat) : Dr := (((nh (dc D), ns (dc D)), (fun k i => if k = 8 ∧ i = 3 then dt (dc D) 8 3 + u else dt (dc D) k i), (if w = 0 then C else fb (dc D), if w = 0 then fw (dc D) else C)), dn D, (if w = 0 then u else db D, if w = 0 then dw D else u), dh D)
def upO (D : Dr) (j v : Nat) : Dr := (((nh (dc D), ns (dc D)), (fun k i => if k = 8 ∧ i = j then v else dt (dc D) k i), (fb (dc D), fw (dc D))), dn D, (db D, dw D), fun x => if x = j then true else dh D x)
def oLo (j : Nat) : Nat := ([1, 0, 0] : List Nat).getD j 0
def oHi (j : Nat) : Nat := ([99, 100, 999] : List Nat).getD j 0
abbrev Lo : Type := (Nat × Dr) ⊕ Flt
def recO (D : Dr) (b : Nat) (w : List Nat) (o : (Nat × (Nat → Nat)) ⊕ Flt) : Lo := obn o fun q => .inl (q.1, upR D b w q.2)
def frO (D : Dr) (w : Nat) (r : Res) : Lo := match r with
  | .inl (p', u', C) => .inl (p', upF D w C u')
  | .inr j => .inr (2, j)
def frOk (τ : Tape) (r : Res) : Prop := match r with
  | .inl (p', _, C) => p' ≤ τ.1 ∧ C ≠ []
  | .inr _ => True
def tdO (D : Dr) (j : Nat) (o : (Nat × Nat) ⊕ Flt) : Lo := obn o fun q => .inl (q.1, upO D j q.2)
def recQ (τ : Tape) (p : Nat) (D : Dr) (b : Nat) : (Nat × (Nat → Nat)) ⊕ Flt := if b = 0 then recP τ p (cn (dc D) 0) (dn D 0) 1 12 1 5 3 9 else recP τ p (cn (dc D) 1) (dn D 1) 5 14 0 3 4 99
def LineR (τ : Tape) (p : Nat) (D : Dr) (o : Lo) : Prop :=
  (∃ b, b < 2 ∧ tk τ p = 10 + 3 * b ∧ cn (dc D) b < 6 - b ∧ o = recO D b (tw τ (tn τ p)) (recQ τ p D b)) ∨
  (∃ w, w < 2 ∧ tk τ p = 15 + w ∧ fE (dc D) w = [] ∧ ∃ r, MR τ true (tn τ p) [] [] 0 r ∧ frOk τ r ∧ o = frO D w r) ∨
  (∃ j, j < 3 ∧ tk τ p = 17 + j ∧ dh D j = false ∧ o = tdO D j (tdP τ p (17 + j) (oLo j) (oHi j))) ∨
  ((∀ b, b < 2 → tk τ p = 10 + 3 * b → ¬ cn (dc D) b < 6 - b) ∧ (∀ w, w < 2 → tk τ p = 15 + w → fE (dc D) w ≠ []) ∧ (∀ j, j < 3 → tk τ p = 17 + j → dh D j = true) ∧ o = .inr (2, p))
theorem mr_ge {τ : Tape} {b : Bool} {p : Nat} {O : List Nat} {E : List Cd} {u p' u' : Nat} {C : List Cd} (h : MR τ b p O E u (.inl (p', u', C))) : p ≤ p' := by
  have key : Clo τ (fun _ p _ _ _ r => match r with
    | .inl q => p ≤ q.1
    | .inr _ => True) := by
    refine ⟨?_, ?_, ?_, ?_, ?_, ?_, ?_, ?_, ?_, ?_⟩
    · intro p O E u r _ _ _ h
      cases r with
      | inl q => exact Nat.le_trans tn_ge h
      | inr j => trivial
    · intro p O E u _ _ _; trivial
    · intro p O E u r _ _ _ h
      cases r with
      | inl q => exact Nat.le_trans tn_ge h
      | inr j => trivial
    · intro p O E u _ _; trivial
    · intro p O E u r c _ _ h
      cases r with
      | inl q => exact Nat.le_trans tn_ge h
      | inr j => trivial
    · intro p O E u _ _ _; trivial
    · intro p P O E u r _ _ h
      cases r with
      | inl q => exact Nat.le_trans tn_ge h
      | inr j => trivial
    · intro p s P O E u r _ _ _ _ h
      cases r with
      | inl q => exact Nat.le_trans tn_ge h
      | inr j => trivial
    · intro p O E u _ _ _; trivial
    · intro p O E u _ _; exact Nat.le_refl _
  exact h _ key
theorem gc_ne {u' : Nat} {C : List Cd} (h : GC 0 0 u' C) : C ≠ [] ∧ WfF C := by
  obtain ⟨h1, h2, h3, h4, h5⟩ := h
  have e := h5 0 (Nat.le_refl _)
  refine ⟨fun z => ?_, by omega, Or.inr (wfE_of h4 e)⟩
  rw [z] at e
  cases e
theorem upF_wf {D : Dr} {w u' : Nat} {C : List Cd} (hw : w < 2) (h : WfD D) (h0 : fE (dc D) w = []) (g : GC 0 0 u' C) : WfD (upF D w C u') := by
  obtain ⟨w1, ⟨b1, b2, b3, b4, b5⟩, w7⟩ := h
  have gw := gc_ne g
  have g30 := g.2.1
  refine ⟨⟨w1.1, w1.2.1, w1.2.2.1, w1.2.2.2.1, w1.2.2.2.2.1, w1.2.2.2.2.2.1, w1.2.2.2.2.2.2.1, w1.2.2.2.2.2.2.2.1, ?_, ?_⟩, ⟨?_, ?_, ?_, ?_, ?_⟩, w7⟩
  all_goals rcases (show w = 0 ∨ w = 1 by omega) with rfl | rfl
  · exact gw.2
  · exact w1.2.2.2.2.2.2.2.2.1
  · exact w1.2.2.2.2.2.2.2.2.2
  · exact gw.2
  · exact g30
  · exact b1
  · exact b2
  · exact g30
  · exact fun z => absurd z gw.1
  · exact b3
  · exact b4
  · exact fun z => absurd z gw.1
  · show dt (dc D) 8 3 + u' = u' + dw D
    have := b3 h0
    omega
  · show dt (dc D) 8 3 + u' = db D + u'
    have := b4 h0
    omega
theorem upO_wf {D : Dr} {j v : Nat} (hj : j < 3) (h : WfD D) (h1 : oLo j ≤ v) (h2 : v ≤ oHi j) : WfD (upO D j v) := by
  obtain ⟨w1, w2, w7⟩ := h
  obtain ⟨a1, a2, a3, a4, a5, a6, a7, a8, a9⟩ := w1
  refine ⟨⟨a1, a2, a3, a4, ?_, ?_, ?_, ?_, a9⟩, ⟨w2.1, w2.2.1, w2.2.2.1, w2.2.2.2.1, ?_⟩, w7⟩
  all_goals rcases (show j = 0 ∨ j = 1 ∨ j = 2 by omega) with rfl | rfl | rfl
  · exact h1
  · exact a5
  · exact a5
  · exact h2
  · exact a6
  · exact a6
  · exact a7
  · exact h2
  · exact a7
  · exact a8
  · exact a8
  · exact h2
  · exact w2.2.2.2.2
  · exact w2.2.2.2.2
  · exact w2.2.2.2.2
def LnO (τ : Tape) (d p : Nat) (o : Lo) (r : Int32) (σ' : St) : Prop := match o with
  | .inl (p', D') => r = 1 ∧ LXs τ p' σ' ∧ DX d D' σ' ∧ WfD D' ∧ p < p'
  | .inr e => r = 0 ∧ FXs τ e σ'
def LnX (τ : Tape) (d p : Nat) (D : Dr) (r : Int32) (σ' : St) : Prop := ∃ o, LineR τ p D o ∧ LnO τ d p o r σ'
theorem vf_h {a b c d : Nat} (h0 : a ≤ 99) (h1 : b ≤ 99) (h2 : 1 ≤ c) (h3 : c ≤ 5) (h4 : d ≤ 9) : rcOk 0 (vf a b c d) := ⟨h0, h1, h2, h3, h4⟩
theorem vf_s {a b c d : Nat} (h0 : a ≤ 99) (h1 : b ≤ 99) (h3 : c ≤ 3) (h4 : d ≤ 99) : rcOk 1 (vf a b c d) := ⟨h0, h1, h3, h4⟩
theorem lnO_rec {τ : Tape} {d b p : Nat} {D : Dr} {w : List Nat} {o : (Nat × (Nat → Nat)) ⊕ Flt} {r : Int32} {σ' : St} (hb : b < 2) (wf : WfD D) (hc : cn (dc D) b < 6 - b) (h : RcX τ d b p D w o r σ') : LnO τ d p (recO D b w o) r σ' := by
  cases o with
  | inl q =>
    obtain ⟨p', v⟩ := q
    obtain ⟨h1, h2, h3, h4, h5, h6⟩ := h
    exact ⟨h1, h2, h3, up_wf hb wf h4 h5 hc, h6⟩
  | inr e => exact h
/-- refused: nothing may be told so here -/
theorem ln_no {N t d p : Nat} {τ : Tape} {D : Dr} {σ : St} (hb : ∀ j, j < τ.1 → τ.2 j < 256) (h : LXs τ p σ) (h1 : ∀ b, b < 2 → tk τ p = 10 + 3 * b → ¬ cn (dc D) b < 6 - b) (h2 : ∀ w, w < 2 → tk τ p = 15 + w → fE (dc D) w ≠ []) (h3 : ∀ j, j < 3 → tk τ p = 17 + j → dh D j = true) : Ok (bnd (f_X5_refuse N (RR t) 3 2 σ) fun r1 σ2 => gd (bb r1) (some (r1, σ2))) (LnX τ d p D) :=
  lx_no rfl hb h (fun σ' fx _ => ⟨.inr (2, p), Or.inr (Or.inr (Or.inr ⟨h1, h2, h3, rfl⟩)), rfl, fx⟩)
theorem gd_bb {o : Option (Int32 × St)} {Q : Int32 → St → Prop} (h : Ok o Q) (hr : ∀ r σ, Q r σ → r = 0 ∨ r = 1) : Ok (bnd o fun r σ' => gd (bb r) (some (r, σ'))) Q :=
  ok_call h (fun r σ' q => ok_gd (by rcases hr r σ' q with rfl | rfl <;> rfl) (ok_ret q))
theorem ln_r {τ : Tape} {d p : Nat} {D : Dr} : ∀ r σ, LnX τ d p D r σ → r = 0 ∨ r = 1 := by
  rintro r σ ⟨o, _, h⟩
  cases o with
  | inl q => exact Or.inr h.1
  | inr e => exact Or.inl h.1
theorem s_hearthX {N t d p : Nat} {τ : Tape} {D : Dr} {σ : St} (hN : 20000 ≤ N) (hb : ∀ j, j < τ.1 → τ.2 j < 256) (hd : isT d) (wf : WfD D) (h : LXs τ p σ) (hx : DX d D σ) (hk : tk τ p = 10) : Ok (f_X7_hearthLine N (RR t) 1 d σ) (LnX τ d p D) := by
  have hd9 := (isT_le hd).1
  rw [gL_h, r_1_2 rfl, rt0 rfl hd, rt1 rfl hd, rt2 rfl hd, rt3 rfl hd]
  by_cases hc : cn (dc D) 0 < 6
  · refine ok_mono (s_recX (b := 0) (n1 := 6) (k2 := 1) (k3 := 12) (lo3 := 1) (hi3 := 5) (k4 := 3) (hi4 := 9) hN hb hd9 (by decide) rfl rfl (by decide) (by decide) (by decide) (by decide) (by decide) (by decide) rfl rfl rfl rfl rfl rfl (fun a b c d => vf_h) wf h hx hc) (fun r σ' z => ?_)
    exact ⟨_, Or.inl ⟨0, by decide, hk, hc, rfl⟩, lnO_rec (b := 0) (by decide) wf hc z⟩
  · unfold gLn
    have y16 : σ.1 d 11 = nI (cn (dc D) 0) := (rc_to hx.1).1 0 (by decide)
    have : cn (dc D) 0 ≤ 6 := wf.1.1
    rw [y16, nmd_e, r_1_1 rfl]
    refine ok_neg (nI_pos (by omega)) (ok_neg (show ¬ nI (cn (dc D) 0) < nI 6 from nI_nlt (by omega) (by omega)) (ln_no hb h (fun b hb' e => ?_) (fun w hw e => by omega) (fun j hj e => by omega)))
    rw [show b = 0 by omega]
    exact hc
theorem s_stoolX {N t d p : Nat} {τ : Tape} {D : Dr} {σ : St} (hN : 20000 ≤ N) (hb : ∀ j, j < τ.1 → τ.2 j < 256) (hd : isT d) (wf : WfD D) (h : LXs τ p σ) (hx : DX d D σ) (hk : tk τ p = 13) : Ok (f_X7_stoolLine N (RR t) 1 d σ) (LnX τ d p D) := by
  have hd9 := (isT_le hd).1
  rw [gL_s, r_1_3 rfl, rt4 rfl hd, rt5 rfl hd, rt6 rfl hd, rt7 rfl hd]
  by_cases hc : cn (dc D) 1 < 5
  · refine ok_mono (s_recX (b := 1) (n1 := 5) (k2 := 5) (k3 := 14) (lo3 := 0) (hi3 := 3) (k4 := 4) (hi4 := 99) hN hb hd9 (by decide) rfl rfl (by decide) (by decide) (by decide) (by decide) (by decide) (by decide) rfl rfl rfl rfl rfl rfl (fun a b c d h1 h2 _ h4 h5 => vf_s h1 h2 h4 h5) wf h hx hc) (fun r σ' z => ?_)
    exact ⟨_, Or.inl ⟨1, by decide, hk, hc, rfl⟩, lnO_rec (b := 1) (by decide) wf hc z⟩
  · unfold gLn
    have y16 : σ.1 d 12 = nI (cn (dc D) 1) := (rc_to hx.1).1 1 (by decide)
    have : cn (dc D) 1 ≤ 5 := wf.1.2.1
    rw [y16, nmd_e, r_1_1 rfl]
    refine ok_neg (nI_pos (by omega)) (ok_neg (show ¬ nI (cn (dc D) 1) < nI 5 from nI_nlt (by omega) (by omega)) (ln_no hb h (fun b hb' e => ?_) (fun w hw e => by omega) (fun j hj e => by omega)))
    rw [show b = 1 by omega]
    exact hc
