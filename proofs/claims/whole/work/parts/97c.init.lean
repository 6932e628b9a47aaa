/-! A NEW OBJECT -/
theorem s_fillJ2 {N n a : Nat} {ρ : Nat → Nat → Nat} {x : Int32} {σ : St} (hN : n < N) (hn : n ≤ 1000) : Ok (f_J7_fill_53178 N ρ a n x σ) (fun _ σ' => (∀ j, j < n → σ'.1 a j = x) ∧ Ag (fun p => p = a) σ σ') := by
  refine ok_ag ?_ (fun r σ' e => m_J7_fill_53178 e)
  unfold f_J7_fill_53178
  refine ok_nmd ?_
  refine lp_ok (F := fun m (a' : Int32 × St) => f_J7_fill_53178_5 N ρ a n x m a'.1 (nI n) a'.2) n (fun i a' => a'.1 = nI i ∧ (∀ j, j < i → a'.2.1 a j = x)) ?_ ?_ N 0 (0, σ) (Nat.zero_le _) (by omega) ⟨rfl, fun j hj => absurd hj (by omega)⟩
  · rintro m i ⟨j, σ1⟩ hi ⟨e2, h1⟩ kk
    have e2 : j = _ := e2
    have h1 : ∀ j, j < i → σ1.1 a j = x := h1
    subst e2
    show Ok (b_J7_fill_53178_5 N ρ a n x (f_J7_fill_53178_5 N ρ a n x m) (nI i) (nI n) σ1) _
    unfold b_J7_fill_53178_5
    rw [nI_clamp (by omega), nI_1]
    refine ok_neg (nI_ge hi (by omega)) (ok_gd (ib_nI hi (by omega)) (ok_sI fun σ2 n2 u2 => ?_))
    refine kk (_, σ2) ⟨rfl, fun j hj => ?_⟩
    show σ2.1 a j = x
    rw [u2]
    by_cases e : j = i
    · subst e; rw [pk_us]
    · rw [pk_un e]; exact h1 j (by omega)
  · rintro m ⟨j, σ1⟩ ⟨e2, h1⟩
    have e2 : j = _ := e2
    subst e2
    show Ok (b_J7_fill_53178_5 N ρ a n x (f_J7_fill_53178_5 N ρ a n x m) (nI n) (nI n) σ1) _
    unfold b_J7_fill_53178_5
    exact ok_pos (Int32.le_refl _) (ok_ret h1)
def c0 : CDat := dc D0
def S0 : SDat := bgn c0 (dt c0 8 2)
theorem s_b9 {ρ : Nat → Nat → Nat} {σ : St} (h0 : ρ 41 0 = 42) (h1 : ρ 41 1 = 43) (h2 : ρ 41 2 = 44) (h3 : ρ 41 3 = 45) (hz : σ.1 9 15 = 0) : Ok (f_X9_begin 200 ρ 41 9 σ) (fun _ σ' => RepS 41 c0 S0 σ' ∧ Ag (fun p => 41 ≤ p ∧ p ≤ 45) σ σ') := by
  refine ok_ag ?_ (fun r σ' e => by have := m_X9_begin e; rw [h0, h1, h2, h3] at this; exact ag_mono this (fun p hp => by omega))
  unfold f_X9_begin
  rw [h0, h1, h2, h3]
  refine ok_gd rfl (ok_cpy fun σ1 n1 w1 => ok_gd rfl (ok_cpy fun σ2 n2 w2 => ?_))
  refine ok_call (s_fillJ2 (by decide) (by decide)) (fun _ σ3 g3 => ok_call (s_fillJ2 (by decide) (by decide)) (fun _ σ4 g4 => ok_sI fun σ5 n5 u5 => ok_sI fun σ6 n6 u6 => ok_ret ?_))
  refine ⟨fun s hs => absurd hs (Nat.not_lt_zero _), fun s _ b => ?_, ?_, ?_⟩
  · rw [n6 45 (by decide), n5 45 (by decide)]; exact g4.1 s b
  · rw [u6, pk_un (by decide), u5, pk_us]; rfl
  · rw [u6, pk_us, n5 9 (by decide), (g4.2 9 (by decide)).1, (g3.2 9 (by decide)).1, n2 9 (by decide), n1 9 (by decide), hz]; rfl
theorem b4_rho {ρ : Nat → Nat → Nat} {σ : St} (h0 : ρ 41 0 = 42) (h1 : ρ 41 1 = 43) (h2 : ρ 41 2 = 44) (h3 : ρ 41 3 = 45) (h51 : ρ 51 0 = 52) : f_X4_begin 200 ρ 51 41 σ = f_X4_begin 200 (RR 9) 51 41 σ := by
  unfold f_X4_begin f_X9_keepIn f_X9_keepIn_13
  rw [h0, h1, h2, h3, h51, r_41_0 rfl, r_41_1 rfl, r_41_2 rfl, r_41_3 rfl, r_51_0 rfl]
def InQ (σ : St) (σ' : St) : Prop := RepS 41 c0 S0 σ' ∧ HX 0 0 c0 (fun _ => S0) σ' ∧ Ag (fun p => (41 ≤ p ∧ p ≤ 45) ∨ p = 51 ∨ p = 52) σ σ'
theorem s_init {ρ : Nat → Nat → Nat} {σ : St} (h02 : ρ 0 2 = 9) (h04 : ρ 0 4 = 41) (h06 : ρ 0 6 = 51) (h0 : ρ 41 0 = 42) (h1 : ρ 41 1 = 43) (h2 : ρ 41 2 = 44) (h3 : ρ 41 3 = 45) (h51 : ρ 51 0 = 52) (hz : σ.1 9 15 = 0) : Ok (f_X11_init_s161 200 ρ 0 σ) (fun _ σ' => InQ σ σ') := by
  unfold f_X11_init_s161
  rw [h02, h04, h06]
  refine ok_call (s_b9 h0 h1 h2 h3 hz) (fun _ σ1 z1 => ?_)
  obtain ⟨rs1, a1⟩ := z1
  rw [b4_rho h0 h1 h2 h3 h51]
  refine ok_call (s_beginH rfl D0_wf.1 rs1) (fun _ σ2 z2 => ok_ret ?_)
  obtain ⟨hx, a2⟩ := z2
  refine ⟨RepS_cg rs1 (fun p a b => (a2 p (by omega)).1), hx, fun p hp => ?_⟩
  have q1 := a1 p (fun z => hp (Or.inl z))
  have q2 := a2 p (fun z => hp (Or.inr z))
  exact ⟨q2.1.trans q1.1, q2.2.trans q1.2⟩
theorem in_ok (W : Nat → Int64) : Ok (f_X11_init_s161 200 (rhoOf (xH W)) 0 (sgI (xH W), sgJ (xH W))) (fun _ σ' => InQ (sgI (xH W), sgJ (xH W)) σ') := s_init rfl rfl rfl rfl rfl rfl rfl rfl rfl
theorem in_all : ∀ W : Nat → Int64, ∃ q, f_X11_init_s161 200 (rhoOf (xH W)) 0 (sgI (xH W), sgJ (xH W)) = some q := fun W => by
  obtain ⟨r, σ', e, _⟩ := in_ok W
  exact ⟨_, e⟩
theorem wS_lt {σ : St} {p : Nat} (h : p < 90) : (wS σ).1 p = σ.1 p ∧ (wS σ).2 p = σ.2 p := by
  constructor
  · funext j; show (if p < 90 then σ.1 p j else _) = _; rw [if_pos h]
  · funext j; show (if p < 90 then σ.2 p j else _) = _; rw [if_pos h]
theorem in_inv : ∀ (W : Nat → Int64) (r : Int32) (σ' : St), (∀ k, k < 20 → W k = WT k) → f_X11_init_s161 200 (rhoOf (xH W)) 0 (sgI (xH W), sgJ (xH W)) = some (r, σ') → Inv (wR (rhoOf (xH W))) (wS σ') := by
  intro W r σ' hW hf
  obtain ⟨r1, σ1, e1, rs, hx, a⟩ := in_ok W
  rw [hf] at e1
  have e2 : σ' = σ1 := by cases e1; rfl
  subst e2
  have g : ∀ p, p < 90 → ¬ ((41 ≤ p ∧ p ≤ 45) ∨ p = 51 ∨ p = 52) → (wS σ').1 p = sgI (xH W) p := fun p h h2 => (wS_lt h).1.trans (a p h2).1
  have wS0 := bgn_wf D0_wf.1 (show dt c0 8 2 ≤ 999 by decide)
  rw [wR_W]
  refine ⟨9, c0, S0, rfl, Or.inl rfl, D0_wf.1, wS0, Nat.zero_le _, ⟨?_, RepS_cg rs (fun p a b => (wS_lt (by omega)).1)⟩, ⟨?_, ?_, rfl⟩, ⟨0, 0, fun _ => S0, ⟨by decide, rfl, fun k _ => ⟨wS0, Nat.zero_le _⟩⟩, HX_cg hx (wS_lt (by decide)).1 (wS_lt (by decide)).1, rfl, rfl, fun k hk => absurd hk (Nat.not_lt_zero _), fun k a b => absurd b (by omega)⟩, fun b hb => Or.inl ⟨?_, ?_⟩, ⟨0, by decide, ?_, rfl, fun i hi => absurd hi (Nat.not_lt_zero _)⟩, ⟨?_, ?_⟩, ⟨0, 0, fun _ _ => 0, by decide, by decide, ?_, rfl, ?_, rfl, fun j hj => absurd hj (Nat.not_lt_zero _)⟩, ⟨0, fun _ => 0, by decide, ?_, rfl, fun j hj => absurd hj (Nat.not_lt_zero _)⟩, fun k hk => ?_⟩
  · refine ⟨?_, ?_, ?_, ?_, ?_, fun k i _ h => absurd h (Nat.not_lt_zero _), fun k i _ _ h => absurd h (Nat.not_lt_zero _), ?_, fun j h => absurd h (Nat.not_lt_zero _), ?_, fun j h => absurd h (Nat.not_lt_zero _), ?_⟩
    · rw [g 9 (by decide) (by decide)]; rfl
    · rw [g 9 (by decide) (by decide)]; rfl
    · rw [g 9 (by decide) (by decide)]; rfl
    · rw [g 9 (by decide) (by decide)]; rfl
    · rw [g 9 (by decide) (by decide)]; rfl
    · rw [g (9 + 9) (by decide) (by decide)]; rfl
    · rw [g (9 + 12) (by decide) (by decide)]; rfl
    · rw [g (9 + 9) (by decide) (by decide), g (9 + 12) (by decide) (by decide)]; rfl
  · exact ⟨rfl, rfl, rfl, rfl, rfl, fun k i _ h => absurd h (Nat.not_lt_zero _), fun k i _ _ h => absurd h (Nat.not_lt_zero _), rfl, fun j h => absurd h (Nat.not_lt_zero _), rfl, fun j h => absurd h (Nat.not_lt_zero _)⟩
  · exact ⟨fun s hs => absurd hs (Nat.not_lt_zero _), rfl, rfl⟩
  · rw [g 54 (by decide) (by decide)]; rfl
  · rfl
  · rw [g 0 (by decide) (by decide)]; rfl
  · rw [g 0 (by decide) (by decide)]; rfl
  · rw [g 0 (by decide) (by decide)]; rfl
  · rw [g 68 (by decide) (by decide)]; rfl
  · rw [g 68 (by decide) (by decide)]; rfl
  · rw [g 4 (by decide) (by decide)]; rfl
  · rw [(wS_lt (by decide)).2, (a 6 (by decide)).2]
    exact hW k hk
