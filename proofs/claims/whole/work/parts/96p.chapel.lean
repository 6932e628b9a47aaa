/-! CHAPEL -/
theorem ok_gdr {o : Option (Int32 × St)} {Q : Int32 → St → Prop} (h : Ok o Q) (hr : ∀ r σ, Q r σ → ¬ r = -1) : Ok (gdr o) Q := by
  obtain ⟨r, σ, e, q⟩ := h
  refine ⟨r, σ, ?_, q⟩
  rw [e]
  unfold gdr
  simp [hr r σ q]
theorem tT {t : Nat} (h : isT t) : isT (34 - t) := by
  rcases h with rfl | rfl
  · exact Or.inr rfl
  · exact Or.inl rfl
theorem RR_sw {t : Nat} (h : isT t) : sR (sR (RR t) 0 2 (34 - t)) 0 3 t = RR (34 - t) := by
  have e : 34 - (34 - t) = t := by rcases h with rfl | rfl <;> rfl
  funext p j
  unfold RR sR
  rw [e]
  by_cases h3 : p = 0 ∧ j = 3
  · rw [if_pos h3, if_pos h3]
  · rw [if_neg h3, if_neg h3, if_neg h3]
    by_cases h2 : p = 0 ∧ j = 2
    · rw [if_pos h2, if_pos h2]
    · rw [if_neg h2, if_neg h2, if_neg h2]
def AcX (d p : Nat) : Prop := p = 0 ∨ p = 1 ∨ p = 3 ∨ p = 4 ∨ p = 7 ∨ p = 8 ∨ (d ≤ p ∧ p ≤ d + 13)
def AcY (d p : Nat) : Prop := AcX d p ∨ (41 ≤ p ∧ p ≤ 45) ∨ p = 51 ∨ p = 52 ∨ p = 54 ∨ p = 68
def CxO (τ : Tape) (t : Nat) (σ : St) (o : Dr ⊕ Flt) (r : Int32) (σ1 : St) : Prop := match o with
  | .inr e => r = -1 ∧ σ1.1 4 1 = 0 ∧ (σ1.1 0 15 = nI (if tk τ e.2 = 103 then 1 else e.1) ∧ σ1.1 0 16 = nI (tq τ e.2)) ∧ σ1.1 0 14 = σ.1 0 14 ∧ Ag (AcX (34 - t)) σ σ1
  | .inl D => r = nI (ns (dc D)) ∧ WfD D ∧ RepC (34 - t) (dc D) σ1 ∧ RepS 41 (dc D) (bgn (dc D) (dt (dc D) 8 2)) σ1 ∧ HX 0 0 (dc D) (fun _ => bgn (dc D) (dt (dc D) 8 2)) σ1 ∧ (σ1.1 68 6 = 0 ∧ σ1.1 68 7 = σ.1 68 7) ∧ (σ1.1 0 14 = 0 ∧ σ1.1 0 15 = 0 ∧ σ1.1 0 16 = -1) ∧ (∀ b, b < 3 → σ1.1 54 b = 0) ∧ σ1.1 4 1 = 0 ∧ Ag (AcY (34 - t)) σ σ1
def CxQ (τ : Tape) (t : Nat) (σ : St) (r : Int32) (σ1 : St) : Prop := ∃ o n, n ≤ τ.1 + 1 ∧ RunR τ n 0 D0 o ∧ CxO τ t σ o r σ1
theorem s_chapX {N t : Nat} {τ : Tape} {σ : St} (hN : 20000 ≤ N) (ht : isT t) (hb : ∀ j, j < τ.1 → τ.2 j < 256) (tx : TapX τ σ) (wd : WrdI σ) : Ok (f_X11_chapel N (RR t) 0 σ) (CxQ τ t σ) := by
  have hd := tT ht
  have tl := isT_le hd
  unfold f_X11_chapel
  rw [r_0_1 rfl, r_0_3 rfl, r_0_0 rfl, r_1_1 rfl, r_0_2 rfl]
  simp only [nmd_e]
  rw [RR_sw ht, r_0_4 (rfl : RR (34 - t) = _), r_0_2 (rfl : RR (34 - t) = _), r_0_6 (rfl : RR (34 - t) = _), r_0_11 (rfl : RR (34 - t) = _)]
  obtain ⟨r4, σ5, e5, o, n, hn, hr, ho⟩ := s_readX (N := N) (t := t) hN hb hd tx wd
  have fr : Ag (AcX (34 - t)) σ σ5 := by
    have := m_X7_readInto e5
    rw [r_1_1 rfl, r_1_2 rfl, r_1_3 rfl, r_1_0 rfl, r_2_0 rfl, rt0 rfl hd, rt1 rfl hd, rt2 rfl hd, rt3 rfl hd, rt4 rfl hd, rt5 rfl hd, rt6 rfl hd, rt7 rfl hd, rt8 rfl hd, rt9 rfl hd, rb0 rfl hd, rw0 rfl hd] at this
    exact ag_mono this (fun p hp => by unfold AcX; omega)
  rw [bnd_e e5]
  obtain ⟨σ9, e9⟩ : ∃ σ9, σ9 = sI (sI (sI σ5 4 1 0) 0 15 ((sI σ5 4 1 0).1 3 7)) 0 16 ((sI (sI σ5 4 1 0) 0 15 ((sI σ5 4 1 0).1 3 7)).1 3 8) := ⟨_, rfl⟩
  rw [← e9]
  have n9 : ∀ q, q ≠ 0 → q ≠ 4 → σ9.1 q = σ5.1 q := fun q a b => by rw [e9, sI_ne a, sI_ne a, sI_ne b]
  have f9 : σ9.2 = σ5.2 := by rw [e9]; rfl
  have v0 : σ9.1 0 15 = σ5.1 3 7 ∧ σ9.1 0 16 = σ5.1 3 8 ∧ σ9.1 0 14 = σ5.1 0 14 ∧ σ9.1 4 1 = 0 := by
    rw [e9]
    refine ⟨?_, ?_, ?_, ?_⟩
    · rw [sI_up, pk_un (by decide), sI_up, pk_us, sI_ne (by decide)]
    · rw [sI_up, pk_us, sI_ne (by decide), sI_ne (by decide)]
    · rw [sI_up, pk_un (by decide), sI_up, pk_un (by decide), sI_ne (by decide)]
    · rw [sI_ne (by decide), sI_ne (by decide), sI_up, pk_us]
  have fr9 : Ag (AcX (34 - t)) σ σ9 := fun p hp => ⟨by rw [n9 p (fun z => hp (by unfold AcX; omega)) (fun z => hp (by unfold AcX; omega))]; exact (fr p hp).1, by rw [f9]; exact (fr p hp).2⟩
  have z14 : σ5.1 0 14 = σ.1 0 14 := by
    have := m_X7_readInto e5
    rw [r_1_1 rfl, r_1_2 rfl, r_1_3 rfl, r_1_0 rfl, r_2_0 rfl, rt0 rfl hd, rt1 rfl hd, rt2 rfl hd, rt3 rfl hd, rt4 rfl hd, rt5 rfl hd, rt6 rfl hd, rt7 rfl hd, rt8 rfl hd, rt9 rfl hd, rb0 rfl hd, rw0 rfl hd] at this
    rw [(this 0 (by omega)).1]
  cases o with
  | inr e =>
    obtain ⟨rfl, fx⟩ := ho
    exact ok_pos rfl (ok_ret ⟨.inr e, n, hn, hr, rfl, v0.2.2.2, ⟨by rw [v0.1]; exact fx.1, by rw [v0.2.1]; exact fx.2⟩, by rw [v0.2.2.1]; exact z14, fr9⟩)
  | inl D =>
    obtain ⟨rfl, ⟨z7, z8⟩, dx, wf⟩ := ho
    have wc := wf.1
    have l2 : ns (dc D) ≤ 5 := wc.2.1
    refine ok_neg (by decide) ?_
    have rc9 : RepC (34 - t) (dc D) σ9 := RepC_cg dx.1 (fun p a b _ => n9 p (by omega) (by omega))
    refine ok_call (s_begin (t := 34 - t) hN ⟨34 - t, rfl⟩ hd (Or.inl rfl) wc rc9) (fun _ σ10 h10 => ?_)
    obtain ⟨rs10, a10⟩ := h10
    refine ok_call (s_beginH rfl wc rs10) (fun _ σ11 h11 => ?_)
    obtain ⟨hx11, a11⟩ := h11
    unfold f_X6_forget
    rw [nmd_e, bnd_e (rfl : some ((0 : Int32), sI σ11 68 6 0) = some (0, sI σ11 68 6 0))]
    obtain ⟨σ12, e12⟩ : ∃ σ12, σ12 = sI (sI σ11 68 6 0) 0 14 0 := ⟨_, rfl⟩
    rw [← e12]
    have n12 : ∀ q, q ≠ 0 → q ≠ 68 → σ12.1 q = σ11.1 q := fun q a b => by rw [e12, sI_ne a, sI_ne b]
    have f12 : σ12.2 = σ11.2 := by rw [e12]; rfl
    have v12 : σ12.1 68 6 = 0 ∧ σ12.1 68 7 = σ11.1 68 7 ∧ σ12.1 0 14 = 0 ∧ σ12.1 0 15 = σ11.1 0 15 ∧ σ12.1 0 16 = σ11.1 0 16 := by
      rw [e12]
      refine ⟨?_, ?_, ?_, ?_, ?_⟩
      · rw [sI_ne (by decide), sI_up, pk_us]
      · rw [sI_ne (by decide), sI_up, pk_un (by decide)]
      · rw [sI_up, pk_us]
      · rw [sI_up, pk_un (by decide), sI_ne (by decide)]
      · rw [sI_up, pk_un (by decide), sI_ne (by decide)]
    have g11 : ∀ p, ¬ ((41 ≤ p ∧ p ≤ 45) ∨ p = 51 ∨ p = 52) → σ11.1 p = σ9.1 p ∧ σ11.2 p = σ9.2 p := fun p hp => ⟨(a11 p (by omega)).1.trans (a10 p (by omega)).1, (a11 p (by omega)).2.trans (a10 p (by omega)).2⟩
    have core : Ok (f_X11_chapel_108 N (RR (34 - t)) 0 N 0 σ12) (fun r σ1 => r = nI (ns (dc D)) ∧ (∀ b, b < 3 → σ1.1 54 b = 0) ∧ (∀ q, q ≠ 54 → σ1.1 q = σ12.1 q) ∧ σ1.2 = σ12.2) := by
      refine lp (F := fun m i b => f_X11_chapel_108 N (RR (34 - t)) 0 m (nI i) b) 3 (fun i b => (∀ j, j < i → b.1 54 j = 0) ∧ (∀ q, q ≠ 54 → b.1 q = σ12.1 q) ∧ b.2 = σ12.2) ?_ ?_ N 0 σ12 (Nat.zero_le _) (by omega) ⟨fun j hj => absurd hj (Nat.not_lt_zero _), fun _ _ => rfl, rfl⟩
      · intro m i b hi hI k
        obtain ⟨i1, i2, i3⟩ := hI
        show Ok (b_X11_chapel_108 N (RR (34 - t)) 0 (f_X11_chapel_108 N (RR (34 - t)) 0 m) (nI i) b) _
        unfold b_X11_chapel_108
        rw [r_0_8 rfl, nI_clamp (show i < 2 ^ 31 by omega), nI_1 i, show vp_nar .boolean 0 = (0 : Int32) from rfl]
        refine ok_neg (show ¬ nI 3 ≤ nI i from nI_ge hi (by decide)) (ok_gd (ib_nI hi (by decide)) (ok_sI2 fun σ8 n8 u8 f8 => k σ8 ⟨fun j hj => ?_, fun q hq => by rw [n8 q hq, i2 q hq], by rw [f8, i3]⟩))
        rw [u8]
        by_cases e : j = i
        · rw [e, pk_us]
        · rw [pk_un e]; exact i1 j (by omega)
      · intro m b hI
        obtain ⟨i1, i2, i3⟩ := hI
        show Ok (b_X11_chapel_108 N (RR (34 - t)) 0 (f_X11_chapel_108 N (RR (34 - t)) 0 m) (nI 3) b) _
        unfold b_X11_chapel_108
        rw [r_0_2 rfl]
        refine ok_pos (by decide) (ok_ret ⟨?_, i1, i2, i3⟩)
        rw [i2 _ (by omega), n12 _ (by omega) (by omega), (g11 _ (by omega)).1]
        exact rc9.2.1
    refine ok_mono (ok_gdr core (fun r σ1 z y => nI_pos (show ns (dc D) < 2 ^ 31 by omega) (by rw [← z.1, y]; decide))) (fun r σ1 z => ?_)
    obtain ⟨zr, zb, zn, zf⟩ := z
    have all : ∀ p, p ≠ 0 → p ≠ 54 → p ≠ 68 → σ1.1 p = σ11.1 p := fun p a b c => by rw [zn p b, n12 p a c]
    refine ⟨.inl D, n, hn, hr, zr, wf, RepC_cg rc9 (fun p a b _ => by rw [all p (by omega) (by omega) (by omega), (g11 p (by omega)).1]), RepS_cg rs10 (fun p a b => by rw [all p (by omega) (by omega) (by omega), (a11 p (by omega)).1]), HX_cg hx11 (all 51 (by decide) (by decide) (by decide)) (all 52 (by decide) (by decide) (by decide)), ⟨?_, ?_⟩, ⟨?_, ?_, ?_⟩, zb, ?_, fun p hp => ⟨?_, ?_⟩⟩
    · rw [zn 68 (by decide)]; exact v12.1
    · rw [zn 68 (by decide), v12.2.1, (g11 68 (by decide)).1, (fr9 68 (by unfold AcX; omega)).1]
    · rw [zn 0 (by decide)]; exact v12.2.2.1
    · rw [zn 0 (by decide), v12.2.2.2.1, (g11 0 (by decide)).1, v0.1]; exact z7
    · rw [zn 0 (by decide), v12.2.2.2.2, (g11 0 (by decide)).1, v0.2.1]; exact z8
    · rw [all 4 (by decide) (by decide) (by decide), (g11 4 (by decide)).1]; exact v0.2.2.2
    · have hp' : ¬ (AcX (34 - t) p ∨ (41 ≤ p ∧ p ≤ 45) ∨ p = 51 ∨ p = 52 ∨ p = 54 ∨ p = 68) := hp
      have h1 : ¬ AcX (34 - t) p := fun z => hp' (Or.inl z)
      have h0 : p ≠ 0 := fun z => h1 (Or.inl z)
      rw [all p h0 (by omega) (by omega), (g11 p (by omega)).1]
      exact (fr9 p h1).1
    · have hp' : ¬ (AcX (34 - t) p ∨ (41 ≤ p ∧ p ≤ 45) ∨ p = 51 ∨ p = 52 ∨ p = 54 ∨ p = 68) := hp
      have h1 : ¬ AcX (34 - t) p := fun z => hp' (Or.inl z)
      rw [zf, f12, (g11 p (by omega)).2]
      exact (fr9 p h1).2
/-- the model's -/
def MxO (τ : Tape) (σ : St) (o : Dr ⊕ Flt) (r : Int32) (σ2 : St) : Prop := σ2.1 90 1 = 0 ∧ match o with
  | .inr e => r = -1 ∧ FMd τ e σ2 ∧ (∀ k, ¬ nG k → k ≠ 1 → k ≠ 5 → σ2.1 90 k = σ.1 90 k) ∧ ∀ q, 96 ≤ q → q ≠ 99 → q ≠ 101 → ¬ (103 ≤ q ∧ q ≤ 110) → σ2.1 q = σ.1 q
  | .inl D => McQ D σ2 r σ2 ∧ (σ2.1 90 2 = 0 ∧ σ2.1 90 3 = -1) ∧ σ2.1 90 27 = σ.1 90 27 ∧ σ2.1 90 75 = σ.1 90 75
theorem s_chapelM {N t n : Nat} {τ : Tape} {o : Dr ⊕ Flt} {σ : St} (hN : 20000 ≤ N) (hb : ∀ j, j < τ.1 → τ.2 j < 256) (hL : τ.1 ≤ 1600) (h1 : σ.1 90 1 = nI τ.1) (h91 : ∀ j, j < τ.1 → σ.1 91 j = nI (τ.2 j)) (hr : RunR τ n 0 D0 o) (hn : n ≤ τ.1 + 1) (wf : ∀ D, o = .inl D → WfD D) : Ok (f_X12_chapel N (RR t) 90 σ) (MxO τ σ o) := by
  obtain ⟨r, σ1, e1, z1, z2, z3⟩ := s_readM (N := N) (t := t) hN hb hL h1 h91 hr (by omega)
  have fr := m_X12_readAll e1
  rw [r_90_11 rfl, r_90_12 rfl, r_90_13 rfl, r_90_17 rfl, r_90_19 rfl, r_90_10 rfl, r_90_32 rfl, r_90_33 rfl, r_90_34 rfl, r_90_35 rfl, r_90_28 rfl, r_90_29 rfl, r_90_30 rfl, r_90_31 rfl] at fr
  unfold f_X12_chapel
  rw [bnd_e e1]
  cases o with
  | inr e =>
    refine ok_neg (fm_nz z1).2 (ok_ret ⟨z2, rfl, z1, z3, fun q a b c d => (fr q (by omega)).1⟩)
  | inl D =>
    obtain ⟨⟨z4, z5⟩, dm⟩ := z1
    refine ok_pos (by rw [z4]; decide) (ok_mono (s_chapM hN (wf D rfl) dm) (fun r σ2 y => ?_))
    obtain ⟨y1, y2, y3, y4, y5, y6⟩ := y
    have k : ∀ k, k ≠ 62 → k ≠ 63 → k ≠ 74 → k ≠ 65 → k ≠ 23 → ¬ (49 ≤ k ∧ k ≤ 52) → σ2.1 90 k = σ1.1 90 k := y5
    refine ⟨?_, ⟨y1, y2, y3, y4, fun _ _ _ _ _ _ _ => rfl, y6⟩, ⟨?_, ?_⟩, ?_, ?_⟩
    · rw [k 1 (by decide) (by decide) (by decide) (by decide) (by decide) (by decide)]; exact z2
    · rw [k 2 (by decide) (by decide) (by decide) (by decide) (by decide) (by decide)]; exact z4
    · rw [k 3 (by decide) (by decide) (by decide) (by decide) (by decide) (by decide)]; exact z5
    · rw [k 27 (by decide) (by decide) (by decide) (by decide) (by decide) (by decide), z3 27 (by unfold nG nF; omega) (by decide) (by decide)]
    · rw [k 75 (by decide) (by decide) (by decide) (by decide) (by decide) (by decide), z3 75 (by unfold nG nF; omega) (by decide) (by decide)]
def AmX (p : Nat) : Prop := p = 90 ∨ (92 ≤ p ∧ p ≤ 120) ∨ p = 138
theorem fr_chapM {N t : Nat} {r : Int32} {σ σ' : St} (e : f_X12_chapel N (RR t) 90 σ = some (r, σ')) : Ag AmX σ σ' := by
  have fr := m_X12_chapel e
  rw [r_90_14 rfl, r_90_15 rfl, r_90_16 rfl, r_90_80 rfl, r_90_57 rfl, r_90_56 rfl, r_90_40 rfl, r_90_41 rfl, r_90_42 rfl, r_90_43 rfl, r_90_36 rfl, r_90_37 rfl, r_90_38 rfl, r_90_39 rfl, r_90_11 rfl, r_90_12 rfl, r_90_13 rfl, r_90_17 rfl, r_90_19 rfl, r_90_10 rfl, r_90_32 rfl, r_90_33 rfl, r_90_34 rfl, r_90_35 rfl, r_90_28 rfl, r_90_29 rfl, r_90_30 rfl, r_90_31 rfl] at fr
  exact ag_mono fr (fun p hp => by unfold AmX; omega)
