/-! THE TEXT, read by the class -/
def semO (τ : Tape) (o1 o : Lo) : Prop := match o1 with
  | .inr e => o = .inr e
  | .inl (p', D') => if tk τ p' = 59 then o = .inl (tn τ p', D') else o = .inr (2, p')
def LineS (τ : Tape) (p : Nat) (D : Dr) (o : Lo) : Prop := ∃ o1, LineR τ p D o1 ∧ semO τ o1 o
def RunR (τ : Tape) : Nat → Nat → Dr → (Dr ⊕ Flt) → Prop
  | 0, _, _, _ => False
  | n + 1, p, D, o => (tk τ p = 102 ∧ o = .inl D) ∨ (tk τ p ≠ 102 ∧ ((∃ e, LineS τ p D (.inr e) ∧ o = .inr e) ∨ (∃ p' D', LineS τ p D (.inl (p', D')) ∧ WfD D' ∧ RunR τ n p' D' o)))
def RnO (τ : Tape) (d : Nat) (o : Dr ⊕ Flt) (r : Int32) (σ' : St) : Prop := match o with
  | .inl D' => r = 1 ∧ (σ'.1 3 7 = 0 ∧ σ'.1 3 8 = -1) ∧ DX d D' σ' ∧ WfD D'
  | .inr e => r = 0 ∧ FXs τ e σ'
def RnX (τ : Tape) (d p : Nat) (D : Dr) (r : Int32) (σ' : St) : Prop := ∃ o n, n ≤ τ.1 - p + 1 ∧ RunR τ n p D o ∧ RnO τ d o r σ'
theorem s_runX {N t d : Nat} {τ : Tape} (hN : 20000 ≤ N) (hb : ∀ j, j < τ.1 → τ.2 j < 256) (hd : isT d) : ∀ m i p D σ, τ.1 - p < m → i ≤ p → WfD D → LXs τ p σ → DX d D σ → Ok (f_X7_readInto_20 N (RR t) 1 d m 1 (nI i) σ) (RnX τ d p D) := by
  have tl := isT_le hd
  intro m
  induction m with
  | zero => intro i p D σ h; exact absurd h (Nat.not_lt_zero _)
  | succ m ih =>
    intro i p D σ hm hi wf h hx
    have hk := tk_lt (p := p) hb
    have hL := h.1.1
    show Ok (b_X7_readInto_20 N (RR t) 1 d (f_X7_readInto_20 N (RR t) 1 d m) 1 (nI i) σ) _
    unfold b_X7_readInto_20 f_X7_readInto_67 f_X7_readInto_68 f_X7_readInto_75
    rw [r_1_1 rfl, h.2.2.1.2.1, nI_1 i]
    refine ok_neg (by decide) ?_
    by_cases c : tk τ p = 102
    · have fin : RnX τ d p D 1 σ := ⟨.inl D, 1, by omega, Or.inl ⟨c, rfl⟩, rfl, ⟨h.2.2.2.2.1, h.2.2.2.2.2⟩, hx, wf⟩
      exact ok_ite (fun _ => ok_gd rfl (ok_ret fin)) (fun _ => ok_pos (by rw [c]; rfl) (ok_gd rfl (ok_ret fin)))
    · have hp1 := tn_gt c
      have hp2 := tn_le h.2.2.2.1
      obtain ⟨m', rfl⟩ : ∃ m', m = m' + 1 := ⟨m - 1, by omega⟩
      have stop : ∀ e σ2, LineS τ p D (.inr e) → FXs τ e σ2 → Ok (f_X7_readInto_20 N (RR t) 1 d (m' + 1) 0 (nI (i + 1)) σ2) (RnX τ d p D) := fun e σ2 hl fx => by
        show Ok (b_X7_readInto_20 N (RR t) 1 d (f_X7_readInto_20 N (RR t) 1 d m') 0 (nI (i + 1)) σ2) _
        unfold b_X7_readInto_20 f_X7_readInto_75
        exact ok_pos rfl (ok_gd rfl (ok_ret ⟨.inr e, 1, by omega, Or.inr ⟨c, Or.inl ⟨e, hl, rfl⟩⟩, rfl, fx⟩))
      refine ok_neg (show ¬ nI 1600 ≤ nI i from nI_ge (by omega) (by decide)) (ok_neg (tk_ne (a := 102) hk (by decide) c) (ok_call (s_lineX hN hb hd wf h hx) (fun r σ1 z => ?_)))
      obtain ⟨o, hl, ho⟩ := z
      cases o with
      | inr e =>
        obtain ⟨rfl, fx⟩ := ho
        exact ok_pos rfl (stop e σ1 ⟨_, hl, rfl⟩ fx)
      | inl q =>
        obtain ⟨p', D'⟩ := q
        obtain ⟨rfl, h1, hx1, wf1, hlt⟩ := ho
        refine ok_neg (by decide) ?_
        unfold f_X5_pass
        rw [h1.2.2.1.2.1]
        have hk' := tk_lt (p := p') hb
        by_cases c9 : tk τ p' = 59
        · rw [if_pos (by rw [c9]; rfl), bnd_as]
          refine ok_call (lx_adv hN h1) (fun _ σ2 z2 => ?_)
          obtain ⟨h2, a2⟩ := z2
          have hx2 : DX d D' σ2 := DX_cg hx1 (fun q q1 q2 => (a2 q (by omega)).1) (fun x i hx _ => by rw [(a2 (7 + x) (by omega)).2]) (by rw [(a2 1 (by decide)).1])
          have hge := tn_ge (τ := τ) (p := p')
          have hle := h2.2.2.2.1
          rw [bnd_e (rfl : some ((1 : Int32), σ2) = some (1, σ2))]
          refine ok_neg (show ¬ (1 : Int32) = 0 by decide) (ok_mono (ih (i + 1) (tn τ p') D' σ2 (by omega) (by omega) wf1 h2 hx2) (fun r3 σ3 z3 => ?_))
          obtain ⟨o, n, hn, hr, hO⟩ := z3
          refine ⟨o, n + 1, by omega, Or.inr ⟨c, Or.inr ⟨tn τ p', D', ⟨_, hl, ?_⟩, wf1, hr⟩⟩, hO⟩
          show if tk τ p' = 59 then _ else _
          rw [if_pos c9]
        · rw [if_neg (show ¬ nI (tk τ p') = 59 from tk_ne (a := 59) hk' (by decide) c9), bnd_as]
          refine ok_call (lx_ref rfl hb h1) (fun r2 σ2 z2 => ?_)
          obtain ⟨rfl, fx, _⟩ := z2
          rw [gd_t (show bb 0 = true from rfl), bnd_e (rfl : some ((0 : Int32), σ2) = some (0, σ2))]
          refine ok_pos rfl (stop (2, p') σ2 ⟨_, hl, ?_⟩ fx)
          show if tk τ p' = 59 then _ else _
          rw [if_neg c9]
def D0 : Dr := (((0, 0), (fun k i => if k = 8 ∧ i = 0 then 7 else 0), ([], [])), (fun _ _ => []), (0, 0), fun _ => false)
theorem D0_wf : WfD D0 := by
  refine ⟨⟨by decide, by decide, fun h hh => absurd hh (Nat.not_lt_zero _), fun h hh => absurd hh (Nat.not_lt_zero _), by decide, by decide, by decide, by decide, ⟨by decide, Or.inl rfl⟩, ⟨by decide, Or.inl rfl⟩⟩, ⟨by decide, by decide, fun _ => rfl, fun _ => rfl, by decide⟩, fun b i hb hi => ?_⟩
  rcases (show b = 0 ∨ b = 1 by omega) with rfl | rfl <;> exact absurd hi (Nat.not_lt_zero _)
theorem s_readX {N t d : Nat} {τ : Tape} {σ : St} (hN : 20000 ≤ N) (hb : ∀ j, j < τ.1 → τ.2 j < 256) (hd : isT d) (tx : TapX τ σ) (wd : WrdI σ) : Ok (f_X7_readInto N (RR t) 1 d σ) (RnX τ d 0 D0) := by
  have tl := isT_le hd
  have hL := tx.1
  unfold f_X7_readInto f_X0_clear f_X1_clear f_X5_begin
  rw [r_1_1 rfl, rt8 rfl hd, rt9 rfl hd]
  simp only [nmd_e, bnd_e rfl]
  obtain ⟨σ1, e1⟩ : ∃ σ1, σ1 = sI (sI (sI (sI (sI (sI (sI (sI (sI σ d 11 0) d 12 0) d 13 7) d 14 0) d 15 0) (d + 9) 2 0) (d + 9) 3 0) (d + 12) 2 0) (d + 12) 3 0 := ⟨_, rfl⟩
  rw [← e1]
  obtain ⟨σ2, e2⟩ : ∃ σ2, σ2 = sI (sI (sI (sI σ1 1 4 0) 3 2 0) 3 7 0) 3 8 (-1) := ⟨_, rfl⟩
  rw [← e2]
  have n1 : ∀ q, q ≠ d → q ≠ d + 9 → q ≠ d + 12 → σ1.1 q = σ.1 q := fun q a b c => by rw [e1, sI_ne c, sI_ne c, sI_ne b, sI_ne b, sI_ne a, sI_ne a, sI_ne a, sI_ne a, sI_ne a]
  have n2 : ∀ q, q ≠ 1 → q ≠ 3 → σ2.1 q = σ1.1 q := fun q a b => by rw [e2, sI_ne b, sI_ne b, sI_ne b, sI_ne a]
  have f2 : σ2.2 = σ.2 := by rw [e2, e1]; rfl
  have tx2 : TapX τ σ2 := TapX_cg tx (by rw [n2 4 (by decide) (by decide), n1 4 (by omega) (by omega) (by omega)]) (by rw [n2 5 (by decide) (by decide), n1 5 (by omega) (by omega) (by omega)])
  have wd2 : WrdI σ2 := WrdI_cg wd (by rw [f2])
  have v3 : σ2.1 3 2 = nI 0 ∧ σ2.1 3 7 = 0 ∧ σ2.1 3 8 = -1 := by
    rw [e2]
    refine ⟨?_, ?_, ?_⟩
    · rw [sI_up, pk_un (by decide), sI_up, pk_un (by decide), sI_up, pk_us]; rfl
    · rw [sI_up, pk_un (by decide), sI_up, pk_us]
    · rw [sI_up, pk_us]
  have v1 : σ2.1 1 4 = 0 := by rw [e2, sI_ne (by decide), sI_ne (by decide), sI_ne (by decide), sI_up, pk_us]
  have vd : σ2.1 d = upd (upd (upd (upd (upd (σ.1 d) 11 0) 12 0) 13 7) 14 0) 15 0 := by
    rw [n2 d (by omega) (by omega), e1, sI_ne (by omega), sI_ne (by omega), sI_ne (by omega), sI_ne (by omega), sI_up, sI_up, sI_up, sI_up, sI_up]
  have v9 : σ2.1 (d + 9) = upd (upd (σ.1 (d + 9)) 2 0) 3 0 := by
    rw [n2 _ (by omega) (by omega), e1, sI_ne (by omega), sI_ne (by omega), sI_up, sI_up, sI_ne (by omega), sI_ne (by omega), sI_ne (by omega), sI_ne (by omega), sI_ne (by omega)]
  have v12 : σ2.1 (d + 12) = upd (upd (σ.1 (d + 12)) 2 0) 3 0 := by
    rw [n2 _ (by omega) (by omega), e1, sI_up, sI_up, sI_ne (by omega), sI_ne (by omega), sI_ne (by omega), sI_ne (by omega), sI_ne (by omega), sI_ne (by omega), sI_ne (by omega)]
  have dx2 : DX d D0 σ2 := by
    refine ⟨rc_of (fun b hb => ?_) (fun j hj => ?_) (fun k i hk hi => ?_) ⟨?_, fun j hj => absurd hj (Nat.not_lt_zero _), ?_, fun j hj => absurd hj (Nat.not_lt_zero _), ?_⟩, ⟨?_, ?_, fun j hj => absurd hj (Nat.not_lt_zero _)⟩, ⟨?_, ?_, fun j hj => absurd hj (Nat.not_lt_zero _)⟩, fun b i hb hi => ?_, v1⟩
    · rw [vd]
      rcases (show b = 0 ∨ b = 1 by omega) with rfl | rfl <;> rfl
    · rw [vd]
      rcases (show j = 0 ∨ j = 1 ∨ j = 2 by omega) with rfl | rfl | rfl <;> rfl
    · have : cn (dc D0) (k / 4) = 0 := by unfold cn; split <;> rfl
      omega
    · rw [v9]; rfl
    · rw [v12]; rfl
    · rw [v9, v12]; rfl
    · rw [v9]; rfl
    · rw [v9]; rfl
    · rw [v12]; rfl
    · rw [v12]; rfl
    · have : cn (dc D0) b = 0 := by unfold cn; split <;> rfl
      omega
  rw [bnd_as]
  refine ok_call (s_advance hN tx2 wd2 (Nat.zero_le _) v3.1) (fun _ σ3 z3 => ?_)
  obtain ⟨⟨l3, e7, e8⟩, a3⟩ := z3
  have h3 : LXs τ 0 σ3 := ⟨TapX_cg tx2 (a3 4 (by decide)).1 (a3 5 (by decide)).1, WrdI_cg wd2 (a3 6 (by decide)).2, l3, Nat.zero_le _, e7.trans v3.2.1, e8.trans v3.2.2⟩
  have hx3 : DX d D0 σ3 := DX_cg dx2 (fun q q1 q2 => (a3 q (by omega)).1) (fun x i hx _ => by rw [(a3 (7 + x) (by omega)).2]) (by rw [(a3 1 (by decide)).1])
  exact s_runX hN hb hd N 0 0 D0 σ3 (by omega) (Nat.le_refl _) D0_wf h3 hx3
