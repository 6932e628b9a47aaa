/-! THE MODEL's LINE -/
def LnM (τ : Tape) (σ : St) (o : Lo) (_ : Int32) (σ' : St) : Prop := (match o with
  | .inl (p', D') => LMd τ p' σ' ∧ DM D' σ'
  | .inr e => FMd τ e σ') ∧ KG σ σ'
theorem lnM_rec {τ : Tape} {b : Nat} {D : Dr} {w : List Nat} {σ : St} {o : (Nat × (Nat → Nat)) ⊕ Flt} {r : Int32} {σ' : St} (h : RcM τ b D w σ o r σ') : LnM τ σ (recO D b w o) r σ' := by
  cases o with
  | inl q => exact h
  | inr e => exact h
theorem s_hearthM {N t p : Nat} {τ : Tape} {D : Dr} {σ : St} (hN : 20000 ≤ N) (hb : ∀ j, j < τ.1 → τ.2 j < 256) (wf : WfD D) (h : LMd τ p σ) (hx : DM D σ) (hk : tk τ p = 10) (hc : cn (dc D) 0 < 6) : Ok (f_X12_readHearth N (RR t) 90 σ) (LnM τ σ (recO D 0 (tw τ (tn τ p)) (recQ τ p D 0))) := by
  rw [gR_h, r_90_28 rfl, r_90_29 rfl, r_90_30 rfl, r_90_31 rfl]
  exact ok_mono (s_recM (b := 0) (n1 := 6) (k2 := 1) (k3 := 12) (lo3 := 1) (hi3 := 5) (k4 := 3) (hi4 := 9) hN hb (by decide) rfl rfl (by decide) (by decide) (by decide) (by decide) (by decide) (by decide) (by decide +kernel) (by decide +kernel) rfl rfl (by decide +kernel) rfl wf h hx hc (by omega)) (fun r σ' z => lnM_rec z)
theorem s_stoolM {N t p : Nat} {τ : Tape} {D : Dr} {σ : St} (hN : 20000 ≤ N) (hb : ∀ j, j < τ.1 → τ.2 j < 256) (wf : WfD D) (h : LMd τ p σ) (hx : DM D σ) (hk : tk τ p = 13) (hc : cn (dc D) 1 < 5) : Ok (f_X12_readStool N (RR t) 90 σ) (LnM τ σ (recO D 1 (tw τ (tn τ p)) (recQ τ p D 1))) := by
  rw [gR_s, r_90_32 rfl, r_90_33 rfl, r_90_34 rfl, r_90_35 rfl]
  exact ok_mono (s_recM (b := 1) (n1 := 5) (k2 := 5) (k3 := 14) (lo3 := 0) (hi3 := 3) (k4 := 4) (hi4 := 99) hN hb (by decide) rfl rfl (by decide) (by decide) (by decide) (by decide) (by decide) (by decide) (by decide +kernel) (by decide +kernel) rfl rfl (by decide +kernel) rfl wf h hx hc (by omega)) (fun r σ' z => lnM_rec z)
theorem em_ot {w w' : Nat} {E : List Cd} {σ σ' : St} (hw : w' ≠ w) (hl : E.length ≤ 320) (h : EmM w' E σ) (o : OtM w σ σ') : EmM w' E σ' := by
  refine ⟨by rw [o.2 w' hw]; exact h.1, fun j hj => ?_⟩
  have := o.1 (320 * w' + j) (by omega)
  rw [this.1, this.2]
  exact h.2 j hj
theorem s_formM {N t p w : Nat} {τ : Tape} {D : Dr} {x : Int32} {r : Res} {σ : St} (hN : 20000 ≤ N) (hb : ∀ j, j < τ.1 → τ.2 j < 256) (hw : w < 2) (ex : x = nI w) (wf : WfD D) (h : LMd τ p σ) (hx : DM D σ) (hk : tk τ p = 15 + w) (h0 : fE (dc D) w = []) (mr : MR τ true (tn τ p) [] [] 0 r) (hr : frOk τ r) : Ok (f_X12_formula N (RR t) 90 x σ) (LnM τ σ (frO D w r)) := by
  subst ex
  have hwf := wf
  obtain ⟨_, ⟨b1, b2, b3, b4, b5⟩, _⟩ := wf
  obtain ⟨tm, lm, hp, h2, h3⟩ := h
  have n30 : db D + dw D ≤ 30 := by
    rcases (show w = 0 ∨ w = 1 by omega) with rfl | rfl
    · have := b3 h0; omega
    · have := b4 h0; omega
  obtain ⟨σ0, o0, k0, run⟩ := s_formula (N := N) (t := t) hN hb hp n30 hw (by omega) tm lm h2 hx.1.2.2.2 mr
  obtain ⟨r', σ', er, ⟨q, e101⟩⟩ := run
  have fr := m_X12_formula er
  rw [r_90_11 rfl, r_90_12 rfl, r_90_13 rfl, r_90_17 rfl, r_90_19 rfl] at fr
  refine ok_eq er ?_
  cases r with
  | inr j =>
    obtain ⟨q1, q2, q3⟩ := q
    refine ⟨⟨⟨Nat.le_of_ble_eq_true rfl, Nat.le_of_ble_eq_true rfl⟩, q1, q2⟩, fun k hk' => ?_⟩
    rw [q3 k (fun z => hk' (Or.inl z)), k0 k (fun z => hk' (Or.inl z.1))]
  | inl v =>
    obtain ⟨p', u', C⟩ := v
    obtain ⟨q1, q2, q3, q4, q5, q6, q7⟩ := q
    obtain ⟨hp', hC⟩ := hr
    have ot := ot_trans o0 q6
    have g : ∀ k, ¬ nY k → σ'.1 90 k = σ.1 90 k := fun k hk' => (q7 k hk').trans (k0 k hk')
    obtain ⟨⟨d1, d2, d3, d4⟩, ⟨d5, d6⟩, d7, d8, d9, d10⟩ := hx
    refine ⟨⟨⟨q1, q2, hp', q3, ?_⟩, ?_⟩, fun k hk' => g k (fun z => hk' (Or.inl z.1))⟩
    · rw [g 3 (fun z => z.2 rfl)]; exact h3
    have c1 : ∀ b, b < 2 → σ'.1 90 (44 + b) = nI (cn (dc (upF D w C u')) b) := fun b hb => by rw [g _ (by unfold nY nF; omega)]; exact d1 b hb
    have c2 : ∀ j, j < 3 → σ'.1 90 (46 + j) = nI (dt (dc (upF D w C u')) 8 j) := fun j hj => by
      rw [g _ (by unfold nY nF; omega)]
      show _ = nI (if 8 = 8 ∧ j = 3 then dt (dc D) 8 3 + u' else dt (dc D) 8 j)
      rw [if_neg (by omega)]
      exact d2 j hj
    have c3 : ∀ j, j < 3 → σ'.1 90 (53 + j) = fl (dh D j) := fun j hj => by rw [g _ (by unfold nY nF; omega)]; exact d3 j hj
    have c7 : ∀ k i, k < 8 → i < cn (dc (upF D w C u')) (k / 4) → σ'.1 (103 + k) i = nI (dt (dc (upF D w C u')) k i) := fun k i hk hi => by
      rw [(fr (103 + k) (by omega)).1]
      show _ = nI (if k = 8 ∧ i = 3 then dt (dc D) 8 3 + u' else dt (dc D) k i)
      rw [if_neg (by omega)]
      exact d7 k i hk hi
    have c8 : ∀ b i, b < 2 → i < cn (dc (upF D w C u')) b → σ'.2 92 (6 * b + i) = lO (vM (dn D b i)) := fun b i hb hi => by rw [(fr 92 (by decide)).2]; exact d8 b i hb hi
    rcases (show w = 0 ∨ w = 1 by omega) with rfl | rfl
    · have z := b3 h0
      refine ⟨⟨c1, c2, c3, ?_⟩, ⟨?_, ?_⟩, c7, c8, fun _ => q5, fun y => em_ot (by decide) (Nat.le_trans hwf.1.2.2.2.2.2.2.2.2.2.1 (by decide)) (d10 y) ot⟩
      · rw [q4]
        show nI (db D + dw D + u') = nI (u' + dw D)
        congr 1
        omega
      · rw [e101, pk_us]
        exact (fl_y hC).symm
      · rw [e101, pk_un (by decide)]
        exact d6
    · have z := b4 h0
      refine ⟨⟨c1, c2, c3, ?_⟩, ⟨?_, ?_⟩, c7, c8, fun y => em_ot (by decide) (Nat.le_trans hwf.1.2.2.2.2.2.2.2.2.1.1 (by decide)) (d9 y) ot, fun _ => q5⟩
      · rw [q4]
        show nI (db D + dw D + u') = nI (db D + u')
        congr 1
        omega
      · rw [e101, pk_un (by decide)]
        exact d5
      · rw [e101, pk_us]
        exact (fl_y hC).symm
theorem tdO_M {N t p j : Nat} {τ : Tape} {D : Dr} {x : Int64} {a b : Int32} {σ : St} {G : St → Option (Int32 × St)} {Q : Int32 → St → Prop} (hN : 20000 ≤ N) (hb : ∀ j, j < τ.1 → τ.2 j < 256) (hj : j < 3) (ex : x = lO (vM (WL (17 + j)))) (ea : a = nI (oLo j)) (eb : b = nI (oHi j)) (h : LMd τ p σ) (hx : DM D σ)
    (k : ∀ r σ', LnM τ σ (tdO D j (tdP τ p (17 + j) (oLo j) (oHi j))) r σ' → Ok (G σ') Q) :
    Ok (nmd (sI σ 90 (53 + j) 1) fun σ18 => bnd (f_X12_told N (RR t) 90 x a b σ18) fun r19 σ20 => nmd (sI σ20 90 (46 + j) r19) fun σ22 => G σ22) Q := by
  have ob : oLo j < 10000 ∧ oHi j < 10000 := by rcases (show j = 0 ∨ j = 1 ∨ j = 2 by omega) with rfl | rfl | rfl <;> exact ⟨by decide, by decide⟩
  refine ok_sI2 fun σ1 n1 u1 f1 => ?_
  have h1 : LMd τ p σ1 := LMd_cg h (fun k hk => by rw [u1, pk_un (by omega)]) (n1 91 (by decide)) (by rw [f1])
  have k1 : KG σ σ1 := fun k hk => by rw [u1, pk_un (fun z => hk (by unfold nG; omega))]
  refine toldM_k (k := 17 + j) hN hb (by omega) (by omega) ex ob.1 ob.2 ea eb h1 (fun p' v σ2 t2 h2 w2 => ?_) (fun e r σ2 t2 fx w2 => ?_)
  · refine ok_sI2 fun σ3 n3 u3 f3 => k (nI v) σ3 ?_
    rw [t2]
    have h3 : LMd τ p' σ3 := LMd_cg h2 (fun k hk => by rw [u3, pk_un (by omega)]) (n3 91 (by decide)) (by rw [f3])
    refine ⟨⟨h3, ?_⟩, kg_trans k1 (kg_trans (kg_kt w2) (fun k hk => by rw [u3, pk_un (fun z => hk (by unfold nG; omega))]))⟩
    obtain ⟨⟨d1, d2, d3, d4⟩, ⟨d5, d6⟩, d7, d8, d9, d10⟩ := hx
    have e90 : ∀ i, 9 ≤ i → i ≠ 46 + j → i ≠ 53 + j → σ3.1 90 i = σ.1 90 i := fun i i0 i1 i2 => by rw [u3, pk_un i1, w2.1 i (nT_n i0), u1, pk_un i2]
    have eq : ∀ q, q ≠ 90 → σ3.1 q = σ.1 q := fun q hq => by rw [n3 q hq, (w2.2 q hq).1, n1 q hq]
    refine ⟨⟨fun b hb => ?_, fun i hi => ?_, fun i hi => ?_, ?_⟩, ⟨by rw [eq 101 (by decide)]; exact d5, by rw [eq 101 (by decide)]; exact d6⟩, fun k i hk hi => ?_, fun b i hb hi => ?_, fun z => em_cg (d9 z) (fun q a b => eq q (by omega)), fun z => em_cg (d10 z) (fun q a b => eq q (by omega))⟩
    · rw [e90 _ (by omega) (by omega) (by omega)]; exact d1 b hb
    · show _ = nI (if 8 = 8 ∧ i = j then v else dt (dc D) 8 i)
      by_cases e : i = j
      · rw [if_pos ⟨rfl, e⟩, e, u3, pk_us]
      · rw [if_neg (fun z => e z.2), e90 _ (by omega) (by omega) (by omega)]; exact d2 i hi
    · show _ = fl (if i = j then true else dh D i)
      by_cases e : i = j
      · rw [if_pos e, e, u3, pk_un (by omega), w2.1 _ (nT_n (by omega)), u1, pk_us]; rfl
      · rw [if_neg e, e90 _ (by omega) (by omega) (by omega)]; exact d3 i hi
    · rw [e90 22 (by omega) (by omega) (by omega)]; exact d4
    · rw [eq _ (by omega)]
      show _ = nI (if k = 8 ∧ i = j then v else dt (dc D) k i)
      rw [if_neg (by omega)]
      exact d7 k i hk hi
    · rw [f3, (w2.2 92 (by unfold A90; decide)).2, f1]
      exact d8 b i hb hi
  · refine ok_sI2 fun σ3 n3 u3 f3 => k r σ3 ?_
    rw [t2]
    exact ⟨FMd_cg fx (by rw [u3, pk_un (by omega)]) (by rw [u3, pk_un (by omega)]), kg_trans k1 (kg_trans (kg_kt w2) (fun k hk => by rw [u3, pk_un (fun z => hk (by unfold nG; omega))]))⟩
