/-! THE MODEL's LINE of a hearth or a stool, whole -/
set_option maxHeartbeats 1000000 in
theorem s_recM {N t p b n1 k2 k3 lo3 hi3 k4 hi4 : Nat} {τ : Tape} {D : Dr} {frm : Int32} {x2 x3 : Int64} {y3 z3 : Int32} {x4 : Int64} {z4 : Int32} {σ : St} (hN : 20000 ≤ N) (hb : ∀ j, j < τ.1 → τ.2 j < 256) (hb2 : b < 2) (hn1 : n1 = 6 - b) (hf : frm = nI (6 * b)) (hk2 : 1 ≤ k2 ∧ k2 ≤ 19) (hk3 : 1 ≤ k3 ∧ k3 ≤ 19) (hk4 : 1 ≤ k4 ∧ k4 ≤ 19) (hlo3 : lo3 < 10000) (hhi3 : hi3 < 10000) (hhi4 : hi4 < 10000) (e2 : x2 = lO (vM (WL k2))) (e3 : x3 = lO (vM (WL k3))) (f3 : y3 = nI lo3) (g3 : z3 = nI hi3) (e4 : x4 = lO (vM (WL k4))) (g4 : z4 = nI hi4)
    (wf : WfD D) (h : LMd τ p σ) (hx : DM D σ) (hc : cn (dc D) b < n1) (h103 : tk τ p ≠ 103) :
    Ok (gR N (RR t) frm (44 + b) n1 (103 + (4 * b + 0)) (103 + (4 * b + 1)) (103 + (4 * b + 2)) (103 + (4 * b + 3)) x2 x3 y3 z3 x4 z4 σ) (RcM τ b D (tw τ (tn τ p)) σ (recP τ p (cn (dc D) b) (dn D b) k2 k3 lo3 hi3 k4 hi4)) := by
  have y16 : σ.1 90 (44 + b) = nI (cn (dc D) b) := hx.1.1 b hb2
  have hc6 : cn (dc D) b < 6 := by omega
  have hy : ib (nI (cn (dc D) b)) n1 = true := ib_nI hc (by omega)
  have cl : (nI (cn (dc D) b)).toNatClampNeg = cn (dc D) b := nI_clamp (by omega)
  unfold gR
  refine ok_call (s_newNameM (b := 6 * b) (n := cn (dc D) b) (nm := dn D b) hN hb h103 hf y16 (by omega) (fun i hi => ⟨wf.2.2 b i hb2 hi, hx.2.2.2.1 b i hb2 hi⟩) h) (fun _ σ2 z2 => ?_)
  obtain ⟨z2, k2', a2⟩ := z2
  have kg2 : KG σ σ2 := fun k hk => k2' k (fun z => hk (by unfold nT at z; unfold nG nF; omega))
  rw [k2' (44 + b) (nT_n (by omega)), y16, nmd_e]
  unfold recP
  revert z2
  cases hnm : nmP τ (tn τ p) (cn (dc D) b) (dn D b) with
  | inr e =>
    intro z2
    exact rcM_f (gR0_f hy (by omega) (by omega) (by omega) (by omega) z2) kg2
  | inl p1 =>
    intro z2
    obtain ⟨h2, hw, u2⟩ := z2
    rw [obn_l]
    have m0 : MidM b D (tw τ (tn τ p)) 0 (vf 0 0 0 0) σ2 := by
      refine ⟨DM_cg hx (fun k hk => k2' k (nT_n (by omega))) (fun q hq => (a2 q (by unfold A92; omega)).1) (fun x i hx hi => ?_), by rw [u2, if_pos rfl], fun j hj => absurd hj (Nat.not_lt_zero _)⟩
      rw [u2, if_neg]
      have h0 : cn (dc D) 0 ≤ 6 := wf.1.1
      intro z
      by_cases e : x = b
      · subst e; omega
      · rcases (show (x = 0 ∧ b = 1) ∨ (x = 1 ∧ b = 0) by omega) with ⟨rfl, rfl⟩ | ⟨rfl, rfl⟩ <;> omega
    refine rcM_tr ?_ kg2
    unfold gR0
    refine toldM_k (k := 11) (lo := 0) (hi := 99) hN hb (by decide) (by decide) (by decide +kernel) (by decide) (by decide) rfl rfl h2 (fun p2 v0 σ3 t3 h3 w3 => ?_) (fun e r σ3 t3 fx w3 => ?_)
    rotate_left
    · rw [t3, obn_r]; exact rcM_f (wr_f hy (by omega) fx (fun σ' h' => gR1_f hy (by omega) (by omega) (by omega) h')) (kg_kt w3)
    rw [t3, obn_l]
    refine rcM_tr ?_ (kg_kt w3)
    have m3 := midM_kt m0 w3
    refine ok_gd hy (ok_sI2 fun σ4 n4 u4 f4 => ?_)
    rw [cl] at u4
    have m4 : MidM b D (tw τ (tn τ p)) 1 (vf v0 0 0 0) σ4 := midM_wr hb2 (by decide) (midM_v m3 (fun j hj => absurd hj (Nat.not_lt_zero _))) n4 u4 f4
    have h4 : LMd τ p2 σ4 := lmd_o h3 (by omega) n4 f4
    refine rcM_tr ?_ (kg_o (n4 90 (by omega)))
    unfold gR1
    refine toldM_k (k := k2) (lo := 0) (hi := 99) hN hb hk2.1 hk2.2 e2 (by decide) (by decide) rfl rfl h4 (fun p3 v1 σ5 t5 h5 w5 => ?_) (fun e r σ5 t5 fx w5 => ?_)
    rotate_left
    · rw [t5, obn_r]; exact rcM_f (wr_f hy (by omega) fx (fun σ' h' => gR2_f hy (by omega) (by omega) h')) (kg_kt w5)
    rw [t5, obn_l]
    refine rcM_tr ?_ (kg_kt w5)
    have m5 := midM_kt m4 w5
    refine ok_gd hy (ok_sI2 fun σ6 n6 u6 f6 => ?_)
    rw [cl] at u6
    have m6 : MidM b D (tw τ (tn τ p)) 2 (vf v0 v1 0 0) σ6 := midM_wr hb2 (by decide) (midM_v m5 (fun j hj => by rw [show j = 0 by omega]; rfl)) n6 u6 f6
    have h6 : LMd τ p3 σ6 := lmd_o h5 (by omega) n6 f6
    refine rcM_tr ?_ (kg_o (n6 90 (by omega)))
    unfold gR2
    refine optM_k (k := k3) (lo := lo3) (hi := hi3) hN hb hk3.1 hk3.2 e3 hlo3 hhi3 f3 g3 h6 (fun p4 v2 σ7 t7 h7 w7 => ?_) (fun e r σ7 t7 fx w7 => ?_)
    rotate_left
    · rw [t7, obn_r]; exact rcM_f (wr_f hy (by omega) fx (fun σ' h' => gR3_f hy (by omega) h')) (kg_kt w7)
    rw [t7, obn_l]
    refine rcM_tr ?_ (kg_kt w7)
    have m7 := midM_kt m6 w7
    refine ok_gd hy (ok_sI2 fun σ8 n8 u8 f8 => ?_)
    rw [cl] at u8
    have m8 : MidM b D (tw τ (tn τ p)) 3 (vf v0 v1 v2 0) σ8 := midM_wr hb2 (by decide) (midM_v m7 (fun j hj => by rcases (show j = 0 ∨ j = 1 by omega) with rfl | rfl <;> rfl)) n8 u8 f8
    have h8 : LMd τ p4 σ8 := lmd_o h7 (by omega) n8 f8
    refine rcM_tr ?_ (kg_o (n8 90 (by omega)))
    unfold gR3
    refine optM_k (k := k4) (lo := 0) (hi := hi4) hN hb hk4.1 hk4.2 e4 (by decide) hhi4 rfl g4 h8 (fun p5 v3 σ9 t9 h9 w9 => ?_) (fun e r σ9 t9 fx w9 => ?_)
    rotate_left
    · rw [t9, obn_r]; exact rcM_f (wr_f hy (by omega) fx (fun σ' h' => gR4_f h')) (kg_kt w9)
    rw [t9, obn_l]
    refine rcM_tr ?_ (kg_kt w9)
    have m9 := midM_kt m8 w9
    refine ok_gd hy (ok_sI2 fun σ10 n10 u10 f10 => ?_)
    rw [cl] at u10
    have m10 : MidM b D (tw τ (tn τ p)) 4 (vf v0 v1 v2 v3) σ10 := midM_wr hb2 (by decide) (midM_v m9 (fun j hj => by rcases (show j = 0 ∨ j = 1 ∨ j = 2 by omega) with rfl | rfl | rfl <;> rfl)) n10 u10 f10
    have h10 : LMd τ p5 σ10 := lmd_o h9 (by omega) n10 f10
    refine rcM_tr ?_ (kg_o (n10 90 (by omega)))
    unfold gR4
    refine ok_pos h10.2.2.2.1 (ok_sI2 fun σ11 n11 u11 f11 => ok_ret ?_)
    rw [m10.1.1.1 b hb2, nI_1] at u11
    refine ⟨⟨?_, midM_end hb2 m10 n11 u11 f11⟩, fun k hk => ?_⟩
    · exact LMd_cg h10 (fun k hk => by rw [u11, pk_un (by omega)]) (n11 91 (by decide)) (by rw [f11])
    · rw [u11, pk_un (fun z => hk (by unfold nG; omega))]
