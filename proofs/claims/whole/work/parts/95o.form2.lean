/-! THE MODEL's FORMULA from its word on -/
theorem s_formula {N t w n0 p : Nat} {τ : Tape} {σ : St} {r : Res} (hN : 20000 ≤ N) (hb : ∀ j, j < τ.1 → τ.2 j < 256) (hp : p ≤ τ.1) (h0 : n0 ≤ 30) (hw : w < 2) (hk : tk τ p ≠ 103) (tm : TapM τ σ) (lm : LexM τ p σ) (h2 : σ.1 90 2 = 0) (h22 : σ.1 90 22 = nI n0) (mr : MR τ true (tn τ p) [] [] 0 r) :
    ∃ σ0 : St, OtM w σ σ0 ∧ (∀ k, ¬ nY k → σ0.1 90 k = σ.1 90 k) ∧ Ok (f_X12_formula N (RR t) 90 (nI w) σ) (fun _ σ' => QM τ w n0 σ0 r σ' ∧ σ'.1 101 = upd (σ.1 101) w 1) := by
  obtain ⟨r1, σ1, e1, ⟨lm1, k1⟩, a1⟩ := s_token (N := N) (t := t) hN tm (tn_le hp) (lm.2.2.2.2 hk)
  have hw31 : w < 2 ^ 31 := by omega
  have x1 : ∀ k, ¬ nY k → σ1.1 90 k = σ.1 90 k := fun k hk' => k1 k (fun z => hk' (by unfold nY nF; omega)) (fun z => hk' (by unfold nY nF; omega)) (fun z => hk' (by unfold nY nF; omega)) (fun z => hk' (by unfold nY nF; omega))
  obtain ⟨σ5, h5⟩ : ∃ σ5, σ5 = sI (sI (sI (sI (sI (sI σ1 90 20 (nI w)) 101 w 1) 95 w 0) 90 21 0) 90 25 0) 90 24 0 := ⟨_, rfl⟩
  have n5 : ∀ q, q ≠ 90 → q ≠ 101 → q ≠ 95 → σ5.1 q = σ1.1 q := fun q a b c => by rw [h5, sI_ne a, sI_ne a, sI_ne a, sI_ne c, sI_ne b, sI_ne a]
  have v90 : σ5.1 90 = upd (upd (upd (upd (σ1.1 90) 20 (nI w)) 21 0) 25 0) 24 0 := by
    rw [h5, sI_up, sI_up, sI_up, sI_ne (by decide), sI_ne (by decide), sI_up]
  have v95 : σ5.1 95 = upd (σ1.1 95) w 0 := by
    rw [h5, sI_ne (by decide), sI_ne (by decide), sI_ne (by decide), sI_up, sI_ne (by decide), sI_ne (by decide)]
  have f5 : σ5.2 = σ1.2 := by rw [h5]; rfl
  have k5 : ∀ k, k ≠ 20 → k ≠ 21 → k ≠ 24 → k ≠ 25 → σ5.1 90 k = σ1.1 90 k := fun k a b c d => by rw [v90, pk_un c, pk_un d, pk_un b, pk_un a]
  have z93 : ∀ q, q = 93 ∨ q = 94 → σ5.1 q = σ.1 q := fun q hq => by rw [n5 q (by omega) (by omega) (by omega)]; exact (a1 q (by omega)).1
  refine ⟨σ5, ⟨fun k _ => ⟨by rw [z93 93 (by omega)], by rw [z93 94 (by omega)]⟩, fun k hk' => by rw [v95, pk_un hk', (a1 95 (by decide)).1]⟩, fun k hk' => by rw [k5 k (fun z => hk' (by unfold nY nF; omega)) (fun z => hk' (by unfold nY nF; omega)) (fun z => hk' (by unfold nY nF; omega)) (fun z => hk' (by unfold nY nF; omega))]; exact x1 k hk', ?_⟩
  have y : YM τ w n0 σ5 (tn τ p) [] [] 0 σ5 := by
    refine ⟨TapM_cg tm (by rw [k5 5 (by decide) (by decide) (by decide) (by decide)]; exact x1 5 (by unfold nY nF; omega)) (by rw [n5 91 (by decide) (by decide) (by decide)]; exact (a1 91 (by decide)).1), lm_cg lm1 (fun k hk' => k5 k (by omega) (by omega) (by omega) (by omega)) f5, ?_, ?_, ?_, trivial, ?_, ?_, ?_, ⟨?_, fun j hj => absurd hj (Nat.not_lt_zero _)⟩, ot_refl, fun _ _ => rfl⟩
    · rw [k5 2 (by decide) (by decide) (by decide) (by decide), k1 2 (by decide) (by decide) (by decide) (by decide)]; exact h2
    · rw [v90, pk_un (by decide), pk_un (by decide), pk_un (by decide), pk_us]
    · rw [v90, pk_un (by decide), pk_un (by decide), pk_us]; rfl
    · rw [v90, pk_un (by decide), pk_us]; rfl
    · rw [v90, pk_us]; rfl
    · rw [k5 22 (by decide) (by decide) (by decide) (by decide), k1 22 (by decide) (by decide) (by decide) (by decide)]; exact h22
    · rw [v95, pk_us]; rfl
  have run := mr _ (clo_all (N := N) (t := t) (w := w) (n0 := n0) (σ0 := σ5) hN hb h0 hw) (tn_le hp) ⟨fun x hx => (by cases hx), by decide, by decide, by decide, by decide⟩ σ5 y N N (by have := tm.1; omega) (by have := tm.1; omega)
  rw [if_pos rfl] at run
  unfold f_X12_formula
  rw [bnd_e e1]
  have i2 : ib (nI w) 2 = true := ib_nI hw (by decide)
  have g1 : (sI σ1 90 20 (nI w)).1 90 20 = nI w := by rw [sI_up, pk_us]
  rw [nmd_e, g1, gd_t i2, nI_clamp hw31, r_90_19 rfl, r_90_13 rfl, nmd_e, sI_ne (show 90 ≠ 101 by decide), g1, gd_t i2, nI_clamp hw31, nmd_e, nmd_e, nmd_e, nmd_e, show vp_nar .boolean 1 = (1 : Int32) from rfl, ← h5]
  refine ok_ag run (fun r σ' e => ?_)
  obtain ⟨_, σ6, q1, e⟩ := bnd_some e
  rw [(n_X12_formula_50 _ _ _ e 101 (by show ¬ (101 = 90 ∨ 101 = RR t 90 11 ∨ 101 = RR t 90 12 ∨ 101 = RR t 90 13 ∨ 101 = RR t 90 17 ∨ False); rw [r_90_11 rfl, r_90_12 rfl, r_90_13 rfl, r_90_17 rfl]; decide)).1, (m_X12_unit_2 _ _ _ q1 101 (by show ¬ (101 = RR t 90 17 ∨ 101 = 90 ∨ 101 = RR t 90 11 ∨ 101 = RR t 90 12 ∨ 101 = RR t 90 13); rw [r_90_11 rfl, r_90_12 rfl, r_90_13 rfl, r_90_17 rfl]; decide)).1, h5, sI_ne (by decide), sI_ne (by decide), sI_ne (by decide), sI_ne (by decide), sI_up, sI_ne (by decide), (a1 101 (by decide)).1]
