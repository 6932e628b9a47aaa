/-! UNITS, RELATIONS, ONE; the whole formula of the class -/
theorem LexX_cg {τ : Tape} {p : Nat} {σ σ' : St} (h : LexX τ p σ) (e1 : σ'.1 3 = σ.1 3) (e2 : σ'.2 3 = σ.2 3) : LexX τ p σ' := by
  unfold LexX
  rw [e1, e2]
  exact h
theorem bb0 : bb 0 = true := rfl
theorem bb1 : bb 1 = true := rfl
theorem lvl_relation {N t f d : Nat} {τ : Tape} {G : Nat → Nat → Int32 → St → Option (Int32 × St)} (hN : 20000 ≤ N) (hf : isF f) (hb : ∀ j, j < τ.1 → τ.2 j < 256) (hG : HG τ 5 f d G) : HG τ 4 f d (fun a b c σ => fo_X2_relation N (RR t) a b c G σ) := by
  intro p u E σ pre
  have pre' := pre
  obtain ⟨tx, wd, lx, hp, fx, hE, hu, hd⟩ := pre
  have cup : ∀ O, ctx τ 4 p O → ctx τ 5 p O := fun O h => ctx_up (by decide) (by decide) (by decide) (fun z => absurd z (by decide)) h
  show Ok (fo_X2_relation N (RR t) 2 f (nI d) G σ) _
  unfold fo_X2_relation
  refine ok_call (hG p u E σ pre') (fun r1 σ1 h1 => ?_)
  obtain ⟨h1, a1⟩ := h1
  rcases h1 with ⟨rfl, p1, u1, C1, sm, gc, lx1, hp1, fx1, e7, e8⟩ | ⟨rfl, j, sb1, flt⟩
  · have hk := tk_lt (p := p1) hb
    have ho := op_tk _ hk
    rw [r_2_0 rfl, lx1.2.1]
    refine ok_neg (by decide) (ok_nmd ?_)
    have go : ∀ s, opk (tk τ p1) = some s → tg s = 4 → Ok (f_X2_relation_39 N (RR t) 2 f (nI d) G (nI (tk τ p1)) σ1) (PstX τ 4 f d p u E σ) := by
      intro s es hs
      have h10 := opk_lt es
      unfold f_X2_relation_39
      rw [r_2_0 rfl, (ho.1 s es).2.2.2.2.2]
      refine ok_call (s_advance hN (FA_tap hf tx a1) (FA_wrd hf wd a1) (tn_le hp1) lx1.2.2.2.2) (fun _ σ3 h3 => ?_)
      obtain ⟨⟨lx3, e73, e83⟩, a3⟩ := h3
      have a13 := ag_trans a1 (FA_3 (f := f) a3)
      have f3 : f ≠ 3 ∧ f + 1 ≠ 3 := by unfold isF at hf; omega
      have fx3 : FrX f (E ++ C1) u1 σ3 := FrX_cg fx1 (a3 f f3.1).1 (a3 (f + 1) f3.2).1
      have hlen : (E ++ C1).length ≤ 9 * u1 := by rw [List.length_append]; have := len9 gc.2.2.1 hE gc.1; omega
      refine ok_call (hG _ u1 (E ++ C1) σ3 ⟨FA_tap hf tx a13, FA_wrd hf wd a13, lx3, tn_le hp1, fx3, hlen, gc.2.1, hd⟩) (fun r8 σ4 h4 => ?_)
      obtain ⟨h4, a4⟩ := h4
      have a14 := ag_trans a13 a4
      rcases h4 with ⟨rfl, p2, u2, C2, sm2, gc2, lx4, hp2, fx4, e74, e84⟩ | ⟨rfl, j, sb2, flt⟩
      · have hlen2 : (E ++ C1 ++ C2).length < 270 := by
          have := len9 gc2.2.2.1 hlen gc2.1
          have := gc2.2.1
          rw [List.length_append]
          omega
        refine ok_call (s_add (c := outc s) hf fx4 hlen2 (opC_enc h10)) (fun _ σ5 h5 => ok_gd bb1 (ok_ret ?_))
        obtain ⟨fx5, a5⟩ := h5
        have q3 : σ5.1 3 = σ4.1 3 ∧ σ5.2 3 = σ4.2 3 := a5 3 (by omega)
        refine ⟨Or.inl ⟨rfl, p2, u2, C1 ++ C2 ++ [outc s], sim_rel sm es hs sm2, GC_join h10 gc gc2, LexX_cg lx4 q3.1 q3.2, hp2, ?_, ?_, ?_⟩, ag_trans a14 (FA_f a5)⟩
        · rw [← List.append_assoc, ← List.append_assoc]
          exact fx5
        · rw [q3.1, e74, e73]; exact e7
        · rw [q3.1, e84, e83]; exact e8
      · refine ok_call (s_add0 hf) (fun _ σ5 a5 => ok_gd bb0 (ok_ret ?_))
        have q3 : σ5.1 3 = σ4.1 3 := (a5 3 (by omega)).1
        refine ⟨Or.inr ⟨rfl, j, simB_rel sm es hs sb2, ?_⟩, ag_trans a14 (FA_f a5)⟩
        unfold FltX
        rw [q3]
        exact flt
    by_cases hop : ∃ s, opk (tk τ p1) = some s ∧ tg s = 4
    · obtain ⟨s, es, hs⟩ := hop
      have hkk := (ho.1 s es).2.2.2.2.1.mp hs
      have g := go s es hs
      by_cases k1 : tk τ p1 = 60
      · exact ok_pos (by rw [k1]; rfl) g
      · refine ok_neg (show ¬ nI (tk τ p1) = nI 60 from tk_ne hk (by decide) k1) ?_
        by_cases k2 : tk τ p1 = 62
        · exact ok_pos (by rw [k2]; rfl) g
        · refine ok_neg (show ¬ nI (tk τ p1) = nI 62 from tk_ne hk (by decide) k2) (ok_pos (by rw [show tk τ p1 = 61 by omega]; rfl) g)
    · have hn : tk τ p1 ≠ 60 ∧ tk τ p1 ≠ 62 ∧ tk τ p1 ≠ 61 := by
        cases h : opk (tk τ p1) with
        | none => have := ho.2 h; omega
        | some s =>
          have : ¬ (tk τ p1 = 60 ∨ tk τ p1 = 62 ∨ tk τ p1 = 61) := fun z => hop ⟨s, h, (ho.1 s h).2.2.2.2.1.mpr z⟩
          omega
      refine ok_neg (show ¬ nI (tk τ p1) = nI 60 from tk_ne hk (by decide) hn.1) (ok_neg (show ¬ nI (tk τ p1) = nI 62 from tk_ne hk (by decide) hn.2.1) (ok_neg (show ¬ nI (tk τ p1) = nI 61 from tk_ne hk (by decide) hn.2.2) (ok_ret ⟨Or.inl ⟨rfl, p1, u1, C1, sim_stop (sim_up sm (by decide) cup) (fun s es hl => ?_), gc, lx1, hp1, fx1, e7, e8⟩, a1⟩)))
      have : tg s ≠ 4 := fun z => hop ⟨s, es, z⟩
      omega
  · exact ok_pos rfl (ok_ret ⟨Or.inr ⟨rfl, j, simB_up sb1 cup, flt⟩, a1⟩)
theorem d_lt {d : Nat} (h : d ≤ 6) : nI d < (7 : Int32) := (nI_lt (show d < 7 by omega) (by decide) : nI d < nI 7)
theorem d_nlt {d : Nat} (h : ¬ d ≤ 6) (h7 : d ≤ 7) : ¬ nI d < (7 : Int32) := (nI_nlt (show 7 ≤ d by omega) (by omega) : ¬ nI d < nI 7)
theorem lvl_one {N t f d : Nat} {τ : Tape} {G G' : Nat → Nat → Int32 → St → Option (Int32 × St)} (hN : 20000 ≤ N) (hf : isF f) (hb : ∀ j, j < τ.1 → τ.2 j < 256) (hG : HG τ 4 f d G) (hG' : d ≤ 6 → HG τ 3 f (d + 1) G') : HG τ 3 f d (fun a b c σ => fo_X2_one N (RR t) a b c G' G σ) := by
  intro p u E σ pre
  have pre' := pre
  obtain ⟨tx, wd, lx, hp, fx, hE, hu, hd⟩ := pre
  have hk := tk_lt (p := p) hb
  show Ok (fo_X2_one N (RR t) 2 f (nI d) G' G σ) _
  unfold fo_X2_one
  rw [r_2_0 rfl, lx.2.1]
  by_cases h9 : tk τ p = 9
  · refine ok_pos (by rw [h9]; rfl) ?_
    by_cases hd6 : d ≤ 6
    · refine ok_pos (d_lt hd6) (ok_call (s_advance hN tx wd (tn_le hp) lx.2.2.2.2) (fun _ σ1 h1 => ?_))
      obtain ⟨⟨lx1, e71, e81⟩, a1⟩ := h1
      have a1' := FA_3 (f := f) a1
      have f3 : f ≠ 3 ∧ f + 1 ≠ 3 := by unfold isF at hf; omega
      have fx1 : FrX f E u σ1 := FrX_cg fx (a1 f f3.1).1 (a1 (f + 1) f3.2).1
      rw [nI_1 d]
      refine ok_call (hG' hd6 _ u E σ1 ⟨FA_tap hf tx a1', FA_wrd hf wd a1', lx1, tn_le hp, fx1, hE, hu, by omega⟩) (fun r2 σ2 h2 => ?_)
      obtain ⟨h2, a2⟩ := h2
      have a12 := ag_trans a1' a2
      rcases h2 with ⟨rfl, p2, u2, C, sm, gc, lx2, hp2, fx2, e72, e82⟩ | ⟨rfl, j, sb2, flt⟩
      · have hlen : (E ++ C).length < 270 := by
          have := len9 gc.2.2.1 hE gc.1
          have := gc.2.1
          rw [List.length_append]
          omega
        refine ok_call (s_add (c := outc 10) hf fx2 hlen rfl) (fun _ σ3 h3 => ok_gd bb1 (ok_ret ?_))
        obtain ⟨fx3, a3⟩ := h3
        have q3 : σ3.1 3 = σ2.1 3 ∧ σ3.2 3 = σ2.2 3 := a3 3 (by omega)
        refine ⟨Or.inl ⟨rfl, p2, u2, C ++ [outc 10], sim_nt h9 hd6 sm, GC_nt hd6 gc, LexX_cg lx2 q3.1 q3.2, hp2, ?_, ?_, ?_⟩, ag_trans a12 (FA_f a3)⟩
        · rw [← List.append_assoc]
          exact fx3
        · rw [q3.1, e72, e71]
        · rw [q3.1, e82, e81]
      · refine ok_call (s_add0 hf) (fun _ σ3 a3 => ok_gd bb0 (ok_ret ?_))
        have q3 : σ3.1 3 = σ2.1 3 := (a3 3 (by omega)).1
        refine ⟨Or.inr ⟨rfl, j, simB_ntB h9 hd6 sb2, ?_⟩, ag_trans a12 (FA_f a3)⟩
        unfold FltX
        rw [q3]
        exact flt
    · refine ok_neg (d_nlt hd6 hd) (ok_call (s_refuse lx (by omega)) (fun r σ1 h1 => ?_))
      obtain ⟨rfl, flt, a1⟩ := h1
      exact ok_gd bb0 (ok_ret ⟨Or.inr ⟨rfl, p, simB_nt h9 hd6, flt⟩, FA_3 a1⟩)
  · have cup : ∀ O, ctx τ 3 p O → ctx τ 4 p O := fun O h => ctx_up (by decide) (by decide) (by decide) (fun _ _ => h9) h
    refine ok_neg (show ¬ nI (tk τ p) = nI 9 from tk_ne hk (by decide) h9) (ok_call (hG p u E σ pre') (fun r σ1 h1 => ?_))
    obtain ⟨h1, a1⟩ := h1
    rcases h1 with ⟨rfl, p1, u1, C1, sm, gc, lx1, hp1, fx1, e7, e8⟩ | ⟨rfl, j, sb1, flt⟩
    · refine ok_gd bb1 (ok_ret ⟨Or.inl ⟨rfl, p1, u1, C1, sim_stop (sim_up sm (by decide) cup) (fun s es hl => ?_), gc, lx1, hp1, fx1, e7, e8⟩, a1⟩)
      have := (tg_op s (opk_lt es)).2.2
      omega
    · exact ok_gd bb0 (ok_ret ⟨Or.inr ⟨rfl, j, simB_up sb1 cup, flt⟩, a1⟩)
theorem tk_100 {τ : Tape} {p : Nat} (h : tk τ p = 100) : td τ p ≤ 4 ∧ ∀ i, i < td τ p → 48 ≤ τ.2 (tq τ p + i) ∧ τ.2 (tq τ p + i) ≤ 57 := by
  refine ⟨?_, fun i hi => of_decide_eq_true (td_in hi).2⟩
  unfold tk at h
  split at h
  · split at h
    · split at h
      · have := kw_r (lw τ.2 (tq τ p) (tl τ p)); omega
      · cases h
    · split at h
      · split at h
        · rename_i hh; exact hh.1
        · cases h
      · split at h
        · rename_i _ _ _ hs
          have : isSg 100 = true := by rw [← h]; exact hs
          exact absurd this (by decide)
        · cases h
  · cases h
theorem nvl_lt {bt : Nat → Nat} {q : Nat} : ∀ n, (∀ i, i < n → 48 ≤ bt (q + i) ∧ bt (q + i) ≤ 57) → nvl bt q n < 10 ^ n
  | 0, _ => (by decide : 0 < 1)
  | n + 1, h => by
    have ih := nvl_lt n (fun i hi => h i (by omega))
    have := h n (by omega)
    rw [nvl, Nat.pow_succ]
    omega
theorem tv_lt {τ : Tape} {p : Nat} (h : tk τ p = 100) : tv τ p < 10000 := by
  obtain ⟨h1, h2⟩ := tk_100 h
  have a := nvl_lt (td τ p) h2
  have b : 10 ^ td τ p ≤ 10 ^ 4 := Nat.pow_le_pow_right (by decide) h1
  have c : (10 : Nat) ^ 4 = 10000 := by decide
  unfold tv
  omega
theorem FrX_u {f u : Nat} {E : List Cd} {σ σ' : St} (h : FrX f E u σ) (n : ∀ q, q ≠ f → σ'.1 q = σ.1 q) (e : σ'.1 f = upd (σ.1 f) 3 (nI (u + 1))) : FrX f E (u + 1) σ' := ⟨by rw [e, pk_un (by decide)]; exact h.1, by rw [e, pk_us], fun j hj => by rw [n (f + 1) (by omega)]; exact h.2.2 j hj⟩
set_option maxHeartbeats 800000 in
theorem lvl_unit {N t f d : Nat} {τ : Tape} {G : Nat → Nat → Int32 → St → Option (Int32 × St)} (hN : 20000 ≤ N) (hf : isF f) (hb : ∀ j, j < τ.1 → τ.2 j < 256) (hG : d ≤ 6 → HG τ 1 f (d + 1) G) : HG τ 7 f d (fun a b c σ => fo_X2_unit N (RR t) a b c G σ) := by
  intro p u E σ pre
  obtain ⟨tx, wd, lx, hp, fx, hE, hu, hd⟩ := pre
  have hk := tk_lt (p := p) hb
  have f3 : f ≠ 3 ∧ f + 1 ≠ 3 := by unfold isF at hf; omega
  show Ok (fo_X2_unit N (RR t) 2 f (nI d) G σ) _
  unfold fo_X2_unit
  rw [r_2_0 rfl, lx.2.1]
  refine ok_nmd ?_
  have bad : ¬ (u < 30 ∧ ((tk τ p = 40 ∧ d ≤ 6) ∨ ¬ untC τ p = none)) → Ok (f_X2_unit_87 N (RR t) 2 f (nI d) G σ) (PstX τ 7 f d p u E σ) := by
    intro hn
    unfold f_X2_unit_87
    rw [r_2_0 rfl]
    refine ok_call (s_refuse lx (by omega)) (fun r σ1 h1 => ?_)
    obtain ⟨rfl, flt, a1⟩ := h1
    exact ok_gd bb0 (ok_ret ⟨Or.inr ⟨rfl, p, simB_unit hn, flt⟩, FA_3 a1⟩)
  have plain : ∀ (c : Cd) (x : Int32) σ1, u < 30 → untC τ p = some c → okCd c → (∀ h, h < 30 → htc h c = some (h + 1)) → x = encC c → FrX f E (u + 1) σ1 → Ag (FA f) σ σ1 → σ1.1 3 = σ.1 3 → σ1.2 3 = σ.2 3 → Ok (f_X2_unit_129 N (RR t) 2 f (nI d) G 0 x σ1) (PstX τ 7 f d p u E σ) := by
    intro c x σ1 hu30 hc okc hpush hx fx1 a1 q1 q2
    unfold f_X2_unit_129 f_X2_unit_132 f_X2_unit_167 f_X2_unit_172
    rw [r_2_0 rfl]
    refine ok_call (s_add (c := c) hf fx1 (by omega) hx) (fun _ σ2 h2 => ?_)
    obtain ⟨fx2, a2⟩ := h2
    have z3 : σ2.1 3 = σ1.1 3 ∧ σ2.2 3 = σ1.2 3 := a2 3 (by omega)
    have a12 := ag_trans a1 (FA_f a2)
    have lx2 : LexX τ p σ2 := LexX_cg lx (z3.1.trans q1) (z3.2.trans q2)
    refine ok_call (s_advance hN (FA_tap hf tx a12) (FA_wrd hf wd a12) (tn_le hp) lx2.2.2.2.2) (fun _ σ3 h3 => ok_pos rfl (ok_gd bb1 (ok_ret ?_)))
    obtain ⟨⟨lx3, e73, e83⟩, a3⟩ := h3
    exact ⟨Or.inl ⟨rfl, tn τ p, u + 1, [c], sim_unit hu30 hc, GC_unit hd hu30 okc hpush, lx3, tn_le hp, FrX_cg fx2 (a3 f f3.1).1 (a3 (f + 1) f3.2).1, by rw [e73, z3.1, q1], by rw [e83, z3.1, q1]⟩, ag_trans a12 (FA_3 a3)⟩
  have nest : tk τ p = 40 → d ≤ 6 → u < 30 → ∀ σ1, FrX f E (u + 1) σ1 → Ag (FA f) σ σ1 → σ1.1 3 = σ.1 3 → σ1.2 3 = σ.2 3 → Ok (f_X2_unit_132 N (RR t) 2 f (nI d) G 1 σ1) (PstX τ 7 f d p u E σ) := by
    intro h40 hd6 hu30 σ1 fx1 a1 q1 q2
    unfold f_X2_unit_132 f_X2_unit_167 f_X2_unit_171 f_X2_unit_172
    rw [r_2_0 rfl, nI_1 d]
    have lx1 : LexX τ p σ1 := LexX_cg lx q1 q2
    refine ok_call (s_advance hN (FA_tap hf tx a1) (FA_wrd hf wd a1) (tn_le hp) lx1.2.2.2.2) (fun _ σ2 h2 => ok_neg (by decide) ?_)
    obtain ⟨⟨lx2, e72, e82⟩, a2⟩ := h2
    have a12 := ag_trans a1 (FA_3 (f := f) a2)
    refine ok_call (hG hd6 _ (u + 1) E σ2 ⟨FA_tap hf tx a12, FA_wrd hf wd a12, lx2, tn_le hp, FrX_cg fx1 (a2 f f3.1).1 (a2 (f + 1) f3.2).1, by omega, by omega, by omega⟩) (fun r3 σ3 h3 => ?_)
    obtain ⟨h3, a3⟩ := h3
    have a13 := ag_trans a12 a3
    rcases h3 with ⟨rfl, p2, u2, C, sm, gc, lx3, hp2, fx3, e73, e83⟩ | ⟨rfl, j, sb3, flt⟩
    · refine ok_neg (by decide) ?_
      unfold f_X5_pass
      rw [lx3.2.1]
      by_cases h41 : tk τ p2 = 41
      · rw [if_pos (show nI (tk τ p2) = 41 by rw [h41]; rfl)]
        refine ok_call (P := fun r σ' => r = 1 ∧ LexX τ (tn τ p2) σ' ∧ σ'.1 3 7 = σ3.1 3 7 ∧ σ'.1 3 8 = σ3.1 3 8 ∧ Ag (fun q => q = 3) σ3 σ') (ok_call (s_advance hN (FA_tap hf tx a13) (FA_wrd hf wd a13) (tn_le hp2) lx3.2.2.2.2) (fun _ σ4 h4 => ok_ret ⟨rfl, h4.1.1, h4.1.2.1, h4.1.2.2, h4.2⟩)) (fun r σ4 h4 => ?_)
        obtain ⟨rfl, lx4, e74, e84, a4⟩ := h4
        refine ok_neg (by decide) (ok_gd bb1 (ok_ret ⟨Or.inl ⟨rfl, tn τ p2, u2, C, sim_br h40 hu30 hd6 sm h41, GC_br hd6 gc, lx4, tn_le hp2, FrX_cg fx3 (a4 f f3.1).1 (a4 (f + 1) f3.2).1, ?_, ?_⟩, ag_trans a13 (FA_3 a4)⟩))
        · rw [e74, e73, e72, q1]
        · rw [e84, e83, e82, q1]
      · rw [if_neg (show ¬ nI (tk τ p2) = (41 : Int32) from tk_ne (a := 41) (tk_lt hb) (by decide) h41)]
        have hk2 := tk_lt (p := p2) hb
        refine ok_call (P := fun r σ' => r = 0 ∧ FltX τ p2 σ' ∧ Ag (fun q => q = 3) σ3 σ') (ok_call (s_refuse lx3 (by omega)) (fun r σ4 h4 => by obtain ⟨rfl, h42, h43⟩ := h4; exact ok_gd bb0 (ok_ret ⟨rfl, h42, h43⟩))) (fun r σ4 h4 => ?_)
        obtain ⟨rfl, flt, a4⟩ := h4
        exact ok_pos rfl (ok_gd bb0 (ok_ret ⟨Or.inr ⟨rfl, p2, simB_br h40 hu30 hd6 sm h41, flt⟩, ag_trans a13 (FA_3 a4)⟩))
    · exact ok_pos rfl (ok_gd bb0 (ok_ret ⟨Or.inr ⟨rfl, j, simB_brB h40 hu30 hd6 sb3, flt⟩, a13⟩))
  have aU : ∀ σ1 : St, (∀ q, q ≠ f → σ1.1 q = σ.1 q) → σ1.2 = σ.2 → Ag (FA f) σ σ1 := fun σ1 n e q hq => ⟨n q (fun z => hq (Or.inr (Or.inl z))), by rw [e]⟩
  have u30 : u < 30 → ¬ (30 : Int32) ≤ σ.1 f 3 := fun z => by rw [fx.2.1]; exact nI_ge z (by decide)
  have u30' : ¬ u < 30 → (30 : Int32) ≤ σ.1 f 3 := fun z => by rw [fx.2.1]; exact (nI_le (show 30 ≤ u by omega) (by omega) : nI 30 ≤ nI u)
  have e96 : ∀ x3 x4 x5, (∀ σ1 : St, (∀ q, q ≠ f → σ1.1 q = σ.1 q) → σ1.1 f = upd (σ.1 f) 3 (nI (u + 1)) → σ1.2 = σ.2 → Ok (if x5 = 0 then (if x4 = 0 then f_X2_unit_129 N (RR t) 2 f (nI d) G x5 (σ1.1 3 5) σ1 else f_X2_unit_129 N (RR t) 2 f (nI d) G x5 (-x3) σ1) else f_X2_unit_132 N (RR t) 2 f (nI d) G x5 σ1) (PstX τ 7 f d p u E σ)) → Ok (f_X2_unit_96 N (RR t) 2 f (nI d) G x3 x4 x5 σ) (PstX τ 7 f d p u E σ) := by
    intro x3 x4 x5 h
    unfold f_X2_unit_96
    rw [fx.2.1, nI_1 u, r_2_0 rfl]
    exact ok_sI2 fun σ1 n1 u1 f1 => h σ1 n1 u1 f1
  by_cases hnm : 1 ≤ tk τ p ∧ tk τ p ≤ 6
  · have hc : untC τ p = some (.inr (.inl (tk τ p - 1))) := by unfold untC; rw [if_neg (by omega), if_pos hnm]
    refine ok_neg (show ¬ nI (tk τ p) < nI 1 from nI_nlt hnm.1 (by omega)) (ok_neg (show ¬ nI 6 < nI (tk τ p) from nI_nlt hnm.2 (by decide)) ?_)
    unfold f_X2_unit_24 f_X2_unit_37 f_X2_unit_55 f_X2_unit_60
    refine ok_neg (show ¬ nI (tk τ p) = nI 40 from tk_ne hk (by decide) (by omega)) (ok_neg (by decide) (ok_neg (by decide) ?_))
    by_cases hu30 : u < 30
    · refine ok_neg (u30 hu30) (ok_pos rfl (e96 _ _ _ (fun σ1 n1 u1 f1 => ok_pos rfl (ok_neg (by decide) (plain _ _ σ1 hu30 hc (show tk τ p - 1 < 6 by omega) (fun h hh => if_pos hh) ?_ (FrX_u fx n1 u1) (aU σ1 n1 f1) (n1 3 (by omega)) (by rw [f1]))))))
      show -(nI (tk τ p)) = -(nI (tk τ p - 1 + 1))
      rw [show tk τ p - 1 + 1 = tk τ p by omega]
    · exact ok_pos (u30' hu30) (bad (fun z => hu30 z.1))
  · have go : Ok (f_X2_unit_23 N (RR t) 2 f (nI d) G (nI (tk τ p)) σ) (PstX τ 7 f d p u E σ) := by
      unfold f_X2_unit_23 f_X2_unit_24 f_X2_unit_37 f_X2_unit_55 f_X2_unit_60
      by_cases h40 : tk τ p = 40
      · refine ok_pos (by rw [h40]; rfl) (ok_pos rfl (ok_neg (by decide) (ok_neg (by decide) ?_)))
        by_cases hu30 : u < 30
        · refine ok_neg (u30 hu30) (ok_neg (by decide) ?_)
          by_cases hd6 : d ≤ 6
          · exact ok_pos (d_lt hd6) (e96 _ _ _ (fun σ1 n1 u1 f1 => ok_neg (by decide) (nest h40 hd6 hu30 σ1 (FrX_u fx n1 u1) (aU σ1 n1 f1) (n1 3 (by omega)) (by rw [f1]))))
          · refine ok_neg (d_nlt hd6 hd) (bad (fun z => ?_))
            rcases z.2 with z | z
            · exact hd6 z.2
            · exact z (by unfold untC; rw [if_neg (by omega), if_neg (by omega)])
        · exact ok_pos (u30' hu30) (bad (fun z => hu30 z.1))
      · refine ok_neg (show ¬ nI (tk τ p) = nI 40 from tk_ne hk (by decide) h40) (ok_pos rfl (ok_pos rfl ?_))
        by_cases h100 : tk τ p = 100
        · have hc : untC τ p = some (.inl (nI (tv τ p))) := by unfold untC; rw [if_pos h100]
          have hv := tv_lt h100
          refine ok_pos (by rw [h100]; rfl) (ok_neg (by decide) ?_)
          by_cases hu30 : u < 30
          · refine ok_neg (u30 hu30) (ok_pos rfl (e96 _ _ _ (fun σ1 n1 u1 f1 => ok_pos rfl (ok_pos rfl (plain _ _ σ1 hu30 hc (show 0 ≤ nI (tv τ p) from nI_pos' (by omega)) (fun h hh => if_pos hh) ?_ (FrX_u fx n1 u1) (aU σ1 n1 f1) (n1 3 (by omega)) (by rw [f1]))))))
            rw [n1 3 (by omega)]
            exact lx.2.2.1 h100
          · exact ok_pos (u30' hu30) (bad (fun z => hu30 z.1))
        · refine ok_neg (show ¬ nI (tk τ p) = nI 100 from tk_ne hk (by decide) h100) (ok_pos rfl (bad (fun z => ?_)))
          rcases z.2 with z | z
          · exact h40 z.1
          · exact z (by unfold untC; rw [if_neg h100, if_neg hnm])
    by_cases h1 : tk τ p < 1
    · exact ok_pos (show nI (tk τ p) < nI 1 from nI_lt h1 (by decide)) go
    · exact ok_neg (show ¬ nI (tk τ p) < nI 1 from nI_nlt (by omega) (by omega)) (ok_pos (show nI 6 < nI (tk τ p) from nI_lt (by omega) (by omega)) go)
theorem lvl_all {N t f : Nat} {τ : Tape} (hN : 20000 ≤ N) (hf : isF f) (hb : ∀ j, j < τ.1 → τ.2 j < 256) : ∀ D, ∀ tag d, tag ≤ 6 → d ≤ 7 → 7 * (7 - d) + (6 - tag) + 1 ≤ D → HG τ (tag + 1) f d (fr_X2 N (RR t) D tag)
  | 0, tag, d, _, _, h => by omega
  | D + 1, tag, d, ht, hd, h => by
    have ih := lvl_all (t := t) hN hf hb D
    rcases (show tag = 0 ∨ tag = 1 ∨ tag = 2 ∨ tag = 3 ∨ tag = 4 ∨ tag = 5 ∨ tag = 6 by omega) with rfl | rfl | rfl | rfl | rfl | rfl | rfl
    · exact lvl_either hN hf hb (ih 1 d (by decide) hd (by omega))
    · exact lvl_both hN hf hb (ih 2 d (by decide) hd (by omega))
    · exact lvl_one hN hf hb (ih 3 d (by decide) hd (by omega)) (fun h6 => ih 2 (d + 1) (by decide) (by omega) (by omega))
    · exact lvl_relation hN hf hb (ih 4 d (by decide) hd (by omega))
    · exact lvl_sum hN hf hb (ih 5 d (by decide) hd (by omega))
    · exact lvl_term hN hf hb (ih 6 d (by decide) hd (by omega))
    · exact lvl_unit hN hf hb (fun h6 => ih 0 (d + 1) (by decide) (by omega) (by omega))
theorem s_either {N t f p u : Nat} {τ : Tape} {E : List Cd} {σ : St} (hN : 20000 ≤ N) (hf : isF f) (hb : ∀ j, j < τ.1 → τ.2 j < 256) (pre : PreX τ f 0 p u E σ) : Ok (f_X2_either N (RR t) 2 f 0 σ) (PstX τ 1 f 0 p u E σ) := lvl_all hN hf hb 100 0 0 (by decide) (by decide) (by decide) p u E σ pre
