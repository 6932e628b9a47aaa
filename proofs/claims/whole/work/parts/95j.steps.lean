/-! THE MODEL's RUN: its steps -/
theorem em_cg {w : Nat} {E : List Cd} {σ σ' : St} (h : EmM w E σ) (e : ∀ q, 93 ≤ q → q ≤ 95 → σ'.1 q = σ.1 q) : EmM w E σ' := by
  unfold EmM
  rw [e 93 (by decide) (by decide), e 94 (by decide) (by decide), e 95 (by decide) (by decide)]
  exact h
theorem ot_cg {w : Nat} {σ0 σ σ' : St} (h : OtM w σ0 σ) (e : ∀ q, 93 ≤ q → q ≤ 95 → σ'.1 q = σ.1 q) : OtM w σ0 σ' := by
  unfold OtM
  rw [e 93 (by decide) (by decide), e 94 (by decide) (by decide), e 95 (by decide) (by decide)]
  exact h
theorem ym_tok {N t w n0 p u : Nat} {τ : Tape} {σ0 σ : St} {O : List Nat} {E : List Cd} (hN : 20000 ≤ N) (hp : p ≤ τ.1) (h3 : tk τ p ≠ 103) (y : YM τ w n0 σ0 p O E u σ) : Ok (f_X12_token N (RR t) 90 σ) (fun _ σ' => YM τ w n0 σ0 (tn τ p) O E u σ') := by
  obtain ⟨y1, y2, y3, y4, y5, y6, y7, y8, y9, y10, y11, y12⟩ := y
  refine ok_mono (s_token hN y1 (tn_le hp) (y2.2.2.2.2 h3)) (fun r σ' h => ?_)
  obtain ⟨⟨lm, k⟩, a⟩ := h
  have e : ∀ q, q ≠ 90 → σ'.1 q = σ.1 q := fun q hq => (a q hq).1
  refine ⟨TapM_cg y1 (k 5 (by decide) (by decide) (by decide) (by decide)) (e 91 (by decide)), lm, ?_, ?_, ?_, ?_, ?_, ?_, ?_, em_cg y10 (fun q _ _ => e q (by omega)), ot_cg y11 (fun q _ _ => e q (by omega)), fun j hj => ?_⟩
  · rw [k 2 (by decide) (by decide) (by decide) (by decide)]; exact y3
  · rw [k 20 (by decide) (by decide) (by decide) (by decide)]; exact y4
  · rw [k 21 (by decide) (by decide) (by decide) (by decide)]; exact y5
  · rw [e 99 (by decide)]; exact y6
  · rw [k 25 (by decide) (by decide) (by decide) (by decide)]; exact y7
  · rw [k 24 (by decide) (by decide) (by decide) (by decide)]; exact y8
  · rw [k 22 (by decide) (by decide) (by decide) (by decide)]; exact y9
  · rw [k j (fun z => hj (by unfold nY nF; omega)) (fun z => hj (by unfold nY nF; omega)) (fun z => hj (by unfold nY nF; omega)) (fun z => hj (by unfold nY nF; omega))]; exact y12 j hj
theorem lm_cg {τ : Tape} {p : Nat} {σ σ' : St} (h : LexM τ p σ) (e : ∀ k, k = 4 ∨ k = 6 ∨ k = 7 ∨ k = 8 → σ'.1 90 k = σ.1 90 k) (e2 : σ'.2 = σ.2) : LexM τ p σ' := by
  unfold LexM
  rw [e 4 (by omega), e 6 (by omega), e 7 (by omega), e 8 (by omega), e2]
  exact h
theorem ym_push {N t w n0 p u x : Nat} {τ : Tape} {σ0 σ : St} {O : List Nat} {E : List Cd} (hN : 20000 ≤ N) (hp : p ≤ τ.1) (h3 : tk τ p ≠ 103) (hl : O.length < 160) (hx : x = 10 ∨ x = 11) (y : YM τ w n0 σ0 p O E u σ) : Ok (f_X12_openUp N (RR t) 90 (enO x) σ) (fun _ σ' => YM τ w n0 σ0 (tn τ p) (x :: O) E u σ') := by
  obtain ⟨y1, y2, y3, y4, y5, y6, y7, y8, y9, y10, y11, y12⟩ := y
  unfold f_X12_openUp f_X12_openUp_41
  rw [r_90_17 rfl, y5, nI_clamp (show O.length < 2 ^ 31 by omega)]
  refine ok_gd (ib_nI hl (by decide)) (ok_sI2 fun σ1 n1 u1 f1 => ok_sI2 fun σ2 n2 u2 f2 => ok_sI2 fun σ3 n3 u3 f3 => ?_)
  have k3 : ∀ k, k ≠ 21 → k ≠ 25 → σ3.1 90 k = σ.1 90 k := fun k a b => by rw [u3, pk_un b, u2, pk_un a, n1 90 (by decide)]
  have e3 : ∀ q, q ≠ 90 → q ≠ 99 → σ3.1 q = σ.1 q := fun q a b => by rw [n3 q a, n2 q a, n1 q b]
  have f0 : σ3.2 = σ.2 := by rw [f3, f2, f1]
  refine ok_pos (by rw [k3 2 (by decide) (by decide)]; exact y3) (ok_call (ym_tok (w := w) (n0 := n0) (σ0 := σ0) (u := u) (O := x :: O) (E := E) hN hp h3 ⟨TapM_cg y1 (k3 5 (by decide) (by decide)) (e3 91 (by decide) (by decide)), lm_cg y2 (fun k hk => k3 k (by omega) (by omega)) f0, ?_, ?_, ?_, ?_, ?_, ?_, ?_, em_cg y10 (fun q _ _ => e3 q (by omega) (by omega)), ot_cg y11 (fun q _ _ => e3 q (by omega) (by omega)), fun j hj => ?_⟩) (fun _ σ4 h4 => ok_ret h4))
  · rw [k3 2 (by decide) (by decide)]; exact y3
  · rw [k3 20 (by decide) (by decide)]; exact y4
  · rw [u3, pk_un (by decide), u2, pk_us, n1 90 (by decide), y5, nI_1 O.length]; rfl
  · rw [n3 99 (by decide), n2 99 (by decide), u1]
    exact ⟨pk_us, stO_upd (Nat.le_refl _) y6⟩
  · rw [u3, pk_us, u2, pk_un (by decide), n1 90 (by decide), y7, nI_1 (dpt O), dpt, if_pos (by omega), Nat.add_comm]
  · rw [k3 24 (by decide) (by decide)]; exact y8
  · rw [k3 22 (by decide) (by decide)]; exact y9
  · rw [k3 j (fun z => hj (by unfold nY nF; omega)) (fun z => hj (by unfold nY nF; omega))]; exact y12 j hj
theorem ym_count {N t w n0 p u : Nat} {τ : Tape} {σ0 σ : St} {O : List Nat} {E : List Cd} (y : YM τ w n0 σ0 p O E u σ) : Ok (f_X12_countUnit N (RR t) 90 σ) (fun _ σ' => YM τ w n0 σ0 p O E (u + 1) σ') := by
  obtain ⟨y1, y2, y3, y4, y5, y6, y7, y8, y9, y10, y11, y12⟩ := y
  unfold f_X12_countUnit
  refine ok_sI2 fun σ1 n1 u1 f1 => ok_sI2 fun σ2 n2 u2 f2 => ok_ret ?_
  have k2 : ∀ k, k ≠ 22 → k ≠ 24 → σ2.1 90 k = σ.1 90 k := fun k a b => by rw [u2, pk_un b, u1, pk_un a]
  have e2 : ∀ q, q ≠ 90 → σ2.1 q = σ.1 q := fun q a => by rw [n2 q a, n1 q a]
  refine ⟨TapM_cg y1 (k2 5 (by decide) (by decide)) (e2 91 (by decide)), lm_cg y2 (fun k hk => k2 k (by omega) (by omega)) (by rw [f2, f1]), ?_, ?_, ?_, ?_, ?_, ?_, ?_, em_cg y10 (fun q _ _ => e2 q (by omega)), ot_cg y11 (fun q _ _ => e2 q (by omega)), fun j hj => ?_⟩
  · rw [k2 2 (by decide) (by decide)]; exact y3
  · rw [k2 20 (by decide) (by decide)]; exact y4
  · rw [k2 21 (by decide) (by decide)]; exact y5
  · rw [e2 99 (by decide)]; exact y6
  · rw [k2 25 (by decide) (by decide)]; exact y7
  · rw [u2, pk_us, u1, pk_un (by decide), y8, nI_1 u]
  · rw [u2, pk_un (by decide), u1, pk_us, y9, nI_1 (n0 + u)]; rfl
  · rw [k2 j (fun z => hj (by unfold nY nF; omega)) (fun z => hj (by unfold nY nF; omega))]; exact y12 j hj
theorem flt_open {N t k j : Nat} {τ : Tape} {x : Int32} {σ0 σ : St} (h : FltM τ σ0 j σ) (h21 : σ.1 90 21 = nI k) (hk : k < 160) : Ok (f_X12_openUp N (RR t) 90 x σ) (fun _ σ' => FltM τ σ0 j σ') := by
  unfold f_X12_openUp f_X12_openUp_41
  rw [r_90_17 rfl, h21, nI_clamp (show k < 2 ^ 31 by omega)]
  refine ok_gd (ib_nI hk (by decide)) (ok_sI2 fun σ1 n1 u1 f1 => ok_sI2 fun σ2 n2 u2 f2 => ok_sI2 fun σ3 n3 u3 f3 => ?_)
  have k3 : ∀ k, k ≠ 21 → k ≠ 25 → σ3.1 90 k = σ.1 90 k := fun k a b => by rw [u3, pk_un b, u2, pk_un a, n1 90 (by decide)]
  have hf : FltM τ σ0 j σ3 := ⟨by rw [k3 2 (by decide) (by decide)]; exact h.1, by rw [k3 3 (by decide) (by decide)]; exact h.2.1, fun k hk' => by rw [k3 k (fun z => hk' (by unfold nF; omega)) (fun z => hk' (by unfold nF; omega))]; exact h.2.2 k hk'⟩
  exact ok_neg (flt_nz hf).1 (ok_ret hf)
theorem flt_count {N t j : Nat} {τ : Tape} {σ0 σ : St} (h : FltM τ σ0 j σ) : Ok (f_X12_countUnit N (RR t) 90 σ) (fun _ σ' => FltM τ σ0 j σ' ∧ σ'.1 90 21 = σ.1 90 21) := by
  unfold f_X12_countUnit
  refine ok_sI2 fun σ1 n1 u1 f1 => ok_sI2 fun σ2 n2 u2 f2 => ok_ret ?_
  have k2 : ∀ k, k ≠ 22 → k ≠ 24 → σ2.1 90 k = σ.1 90 k := fun k a b => by rw [u2, pk_un b, u1, pk_un a]
  exact ⟨⟨by rw [k2 2 (by decide) (by decide)]; exact h.1, by rw [k2 3 (by decide) (by decide)]; exact h.2.1, fun k hk' => by rw [k2 k (fun z => hk' (by unfold nF; omega)) (fun z => hk' (by unfold nF; omega))]; exact h.2.2 k hk'⟩, k2 21 (by decide) (by decide)⟩
theorem s_full {N t n0 u : Nat} {σ : St} (h22 : σ.1 90 22 = nI (n0 + u)) (h24 : σ.1 90 24 = nI u) (h0 : n0 ≤ 30) (hu : u ≤ 30) : f_X12_isFull N (RR t) 90 σ = some (fl (decide (¬ u < 30)), σ) := by
  unfold f_X12_isFull f_X12_isFull_18 f_X12_isFull_23
  rw [h22, h24]
  by_cases h : u < 30
  · rw [if_neg (show ¬ nI (n0 + u) = (60 : Int32) from fun z => absurd ((nI_eq (b := 60) (by omega) (by decide)).mp z) (by omega)), if_neg (show ¬ nI u = (30 : Int32) from fun z => absurd ((nI_eq (b := 30) (by omega) (by decide)).mp z) (by omega)), decide_eq_false (fun z => z h)]
    rfl
  · rw [decide_eq_true h]
    by_cases c : n0 + u = 60
    · rw [if_pos (show nI (n0 + u) = (60 : Int32) by rw [c]; rfl)]; rfl
    · rw [if_neg (show ¬ nI (n0 + u) = (60 : Int32) from fun z => c ((nI_eq (b := 60) (by omega) (by decide)).mp z)), if_pos (show nI u = (30 : Int32) by rw [show u = 30 by omega]; rfl)]; rfl
