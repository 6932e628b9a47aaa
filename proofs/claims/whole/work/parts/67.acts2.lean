/-! EVENING, UNDO, REDO, IMAGE, BACK -/
set_option maxHeartbeats 400000 in
theorem api_evening {N : Nat} (hN : 20000 ≤ N) : Api Inv (fun ρ σ => f_X11_evening N ρ 0 σ) (fun ρ σ => f_X12_evening N ρ 90 σ) := by
  refine api_a (fun t c S σ d u H hi ho hX hM => ?_)
  obtain ⟨ht, wf, ws, hd, ⟨rc, rs⟩, _⟩ := hi
  have hnh := wf.1
  have hns := wf.2.1
  have tl := isT_le ht
  by_cases h9 : S 4 0 < 999
  · have wd := drS_wf ws
    have d40 : drS c S 4 0 = S 4 0 := by unfold drS; rw [pu_n (by omega)]
    have we : WfS c (ev c (drS c S) (cld c S)) := ev_wf wf wd (by rw [d40]; omega)
    have e40 : ev c (drS c S) (cld c S) 4 0 ≤ 999 := by rw [ev40, d40]; omega
    refine ⟨bits (cld c S) (nh c), ev c (drS c S) (cld c S), hD d, 0, hH d H (ev c (drS c S) (cld c S)), we, e40, HOk_add ho we e40, ?_, fun σ1 _ rm ra hx hm => ?_⟩
    · show Ok (f_X11_evening N (RR t) 0 σ) _
      unfold f_X11_evening
      rw [r_0_2 rfl, r_0_4 rfl, r_0_6 rfl, rs.2.2.1]
      refine ok_pos (show nI (S 4 0) < nI 999 from nI_lt h9 (by decide)) ?_
      refine ok_call (s_drawCold hN ht q41 wf ws rc rs) (fun r σ1 h1 => ?_)
      obtain ⟨⟨rfl, rs1⟩, a1⟩ := h1
      have rc1 := RepC_sk ht q41 rc a1
      refine ok_call (s_passEvening hN rfl ht q41 wf wd rc1 rs1 (Nat.le_refl _) hnh) (fun _ σ2 h2 => ?_)
      obtain ⟨rs2, a2⟩ := h2
      have a12 := ag_trans a1 a2
      have hX2 : HX d u c H σ2 := HX_cg hX (a12 51 (by unfold Sk Sc; omega)).1 (a12 52 (by unfold Sk Sc; omega)).1
      refine ok_call (s_addC rfl wf ho.1 hX2 rs2) (fun _ σ3 h3 => ok_ret ⟨rfl, RepS_cg rs2 (fun p a b => (h3.2 p (by omega)).1), h3.1, ?_⟩)
      exact ag_trans (ag_mono a12 (fun p hp => by unfold Sk Sc at hp; unfold AX ScX; omega)) (ag_mono h3.2 (fun p hp => by unfold AX; omega))
    · show Ok (f_X12_evening N (RR t) 90 σ1) _
      unfold f_X12_evening
      rw [r_90_56 rfl, show σ1.1 119 (20 : Int32).toNatClampNeg = nI (S 4 0) from ra.2.1]
      refine ok_gd rfl (ok_neg (fun z => by rw [show (999 : Int32) = nI 999 from rfl, nI_eq (by omega) (by decide)] at z; omega) ?_)
      refine ok_call (s_act hN rfl wf ho hm ra (ev c (drS c S) (cld c S))) (fun _ σ2 h2 => ?_)
      obtain ⟨⟨g1, g2, g3⟩, a2⟩ := h2
      have rm2 : RepM c σ2 := RepM_cg2 rm (fun k hk => g3 k (by omega) (by omega)) (fun p hp => (a2 p (by omega)).1)
      have ra2 : RepA 120 c S σ2 := RepA_mv ra hns g2
      have hx2 : σ2.1 90 27 = 0 := by rw [g3 27 (by decide) (by decide)]; exact hx
      refine ok_call (s_drawColdM hN rfl wf ws rm2 ra2) (fun r σ3 h3 => ?_)
      obtain ⟨⟨rfl, ra3⟩, a3⟩ := h3
      have e90 : σ3.1 90 = σ2.1 90 := (a3 90 (by unfold Se; omega)).1
      refine ok_call (s_goEvening hN rfl wf wd (RepM_ai rm2 (ai_of a3)) ra3 (by rw [e90]; exact hx2) (Nat.le_refl _) hnh) (fun _ σ4 h4 => ?_)
      obtain ⟨ra4, a4⟩ := h4
      refine ok_call (s_keepAir hN rfl) (fun _ σ5 h5 => ok_ret ⟨rfl, RepA_mv ra4 hns h5.1, ?_, fun k k1 k2 => ?_, ?_⟩)
      · have e1 : σ5.1 90 = σ2.1 90 := by rw [(h5.2 90 (by decide)).1, (a4 90 (by unfold Se; omega)).1, e90]
        refine HM_cg g1 (by rw [e1]) (by rw [e1]) ?_
        rw [(h5.2 124 (by decide)).1, (a4 124 (by unfold Se; omega)).1, (a3 124 (by unfold Se; omega)).1]
      · rw [(h5.2 90 (by decide)).1, (a4 90 (by unfold Se; omega)).1, e90]
        exact g3 k k1 k2
      · exact ag_trans (ag_mono a2 (fun p hp => by unfold AM ScM; omega)) (ag_trans (ag_mono (ag_trans a3 a4) (fun p hp => by unfold Se at hp; unfold AM ScM; omega)) (ag_mono h5.2 (fun p hp => by unfold AM ScM; omega)))
  · have e9 : S 4 0 = 999 := by omega
    refine ⟨-1, S, d, u, H, ws, hd, ho, nc_x ht rs hX ?_, fun σ1 _ rm ra hx hm => nc_m ra hm ?_⟩
    · show Ok (f_X11_evening N (RR t) 0 σ) _
      unfold f_X11_evening
      rw [r_0_4 rfl, rs.2.2.1, e9]
      exact ok_neg (by decide) (ok_ret ⟨rfl, ag_refl⟩)
    · show Ok (f_X12_evening N (RR t) 90 σ1) _
      unfold f_X12_evening
      rw [r_90_56 rfl, show σ1.1 119 (20 : Int32).toNatClampNeg = nI (S 4 0) from ra.2.1, e9]
      exact ok_gd rfl (ok_pos rfl (ok_ret ⟨rfl, ag_refl⟩))
set_option maxHeartbeats 400000 in
theorem api_undo {N : Nat} (hN : 20000 ≤ N) : Api Inv (fun ρ σ => f_X11_undo N ρ 0 σ) (fun ρ σ => f_X12_undo N ρ 90 σ) := by
  refine api_a (fun t c S σ d u H hi ho hX hM => ?_)
  obtain ⟨ht, wf, ws, hd, ⟨rc, rs⟩, _⟩ := hi
  have hns := wf.2.1
  have tl := isT_le ht
  have ho' := ho
  obtain ⟨o1, o2, o3⟩ := ho'
  by_cases h0 : d = 0
  · refine ⟨0, S, d, u, H, ws, hd, ho, nc_x ht rs hX ?_, fun σ1 _ rm ra hx hm => nc_m ra hm ?_⟩
    · show Ok (f_X11_undo N (RR t) 0 σ) _
      unfold f_X11_undo
      refine ok_bnd (r := 0) (σ := σ) ?_ (ok_gd rfl (ok_ret ⟨rfl, ag_refl⟩))
      rw [r_0_4 rfl, r_0_6 rfl]
      unfold f_X4_stepBack
      rw [hX.1, h0, if_pos (show nI 0 = 0 from rfl)]
    · show Ok (f_X12_undo N (RR t) 90 σ1) _
      unfold f_X12_undo
      rw [hm.1, h0]
      exact ok_pos rfl (ok_ret ⟨rfl, ag_refl⟩)
  · obtain ⟨e, rfl⟩ : ∃ e, d = e + 1 := ⟨d - 1, by omega⟩
    have oe := o3 e (by omega)
    refine ⟨1, H e, e, u + 1, H, oe.1, oe.2, ⟨by omega, rfl, fun k hk => o3 k (by omega)⟩, ?_, fun σ1 _ rm ra hx hm => ?_⟩
    · show Ok (f_X11_undo N (RR t) 0 σ) _
      unfold f_X11_undo f_X4_stepBack
      rw [r_0_4 rfl, r_0_6 rfl, r_51_0 rfl, hX.1]
      have hne : ¬ nI (e + 1) = 0 := nI_ne0 (by omega) (by omega)
      rw [if_neg hne]
      have key : Ok (nmd (sI σ 51 1 (nI (e + 1) - 1)) fun σ2 => nmd (sI σ2 51 2 ((σ2.1 51 2) + 1)) fun σ3 => bnd (f_X9_takeFrom N (RR t) 41 52 902 ((σ3.1 51 1) * 22) σ3) fun _ σ5 => some (1, σ5)) (fun r σ1 => r = 1 ∧ RepS 41 c (H e) σ1 ∧ HX e (u + 1) c H σ1 ∧ Ag (AX t) σ σ1) := by
        refine ok_nmd (ok_nmd ?_)
        have n2 : ∀ p, p ≠ 51 → (sI (sI σ 51 1 (nI (e + 1) - 1)) 51 2 ((sI σ 51 1 (nI (e + 1) - 1)).1 51 2 + 1)).1 p = σ.1 p := fun p hp => by rw [sI_ne hp, sI_ne hp]
        have u1 : (sI (sI σ 51 1 (nI (e + 1) - 1)) 51 2 ((sI σ 51 1 (nI (e + 1) - 1)).1 51 2 + 1)).1 51 1 = nI e := by rw [sI_up, pk_un (by decide), sI_up, pk_us, nI_pred]
        have u2 : (sI (sI σ 51 1 (nI (e + 1) - 1)) 51 2 ((sI σ 51 1 (nI (e + 1) - 1)).1 51 2 + 1)).1 51 2 = nI (u + 1) := by rw [sI_up, pk_us, sI_up, pk_un (by decide), hX.2.1, nI_1]
        have x2 : (sI (sI σ 51 1 (nI (e + 1) - 1)) 51 2 ((sI σ 51 1 (nI (e + 1) - 1)).1 51 2 + 1)).2 = σ.2 := rfl
        generalize sI (sI σ 51 1 (nI (e + 1) - 1)) 51 2 ((sI σ 51 1 (nI (e + 1) - 1)).1 51 2 + 1) = σ2 at n2 u1 u2 x2 ⊢
        rw [u1, m22]
        refine ok_call (s_takeFrom rfl q41 (p := 52) (f := 22 * e) (n1 := 902) (Or.inr (by decide)) (by omega) (by decide) wf (RepKx_cg (hX.2.2 e (by omega)) (n2 52 (by decide)))) (fun _ σ3 h3 => ok_ret ⟨rfl, h3.1, ⟨?_, ?_, fun k hk => RepKx_cg (hX.2.2 k (by omega)) ?_⟩, ?_⟩)
        · rw [(h3.2 51 (by decide)).1]; exact u1
        · rw [(h3.2 51 (by decide)).1]; exact u2
        · rw [(h3.2 52 (by decide)).1]; exact n2 52 (by decide)
        · intro p hp
          have q := h3.2 p (fun z => hp (by unfold AX; omega))
          rw [q.1, q.2, x2]
          exact ⟨n2 p (fun z => hp (by unfold AX; omega)), rfl⟩
      exact ok_call key (fun r σ1 h1 => ok_gd (by rw [h1.1]; rfl) (ok_ret h1))
    · show Ok (f_X12_undo N (RR t) 90 σ1) _
      unfold f_X12_undo
      rw [hm.1]
      refine ok_neg (nI_ne0 (by omega) (by omega)) (ok_nmd (ok_nmd ?_))
      have n2 : ∀ p, p ≠ 90 → (sI (sI σ1 90 62 (nI (e + 1) - 1)) 90 63 ((sI σ1 90 62 (nI (e + 1) - 1)).1 90 63 + 1)).1 p = σ1.1 p := fun p hp => by rw [sI_ne hp, sI_ne hp]
      have u1 : (sI (sI σ1 90 62 (nI (e + 1) - 1)) 90 63 ((sI σ1 90 62 (nI (e + 1) - 1)).1 90 63 + 1)).1 90 62 = nI e := by rw [sI_up, pk_un (by decide), sI_up, pk_us, nI_pred]
      have u2 : (sI (sI σ1 90 62 (nI (e + 1) - 1)) 90 63 ((sI σ1 90 62 (nI (e + 1) - 1)).1 90 63 + 1)).1 90 63 = nI (u + 1) := by rw [sI_up, pk_us, sI_up, pk_un (by decide), hm.2.1, nI_1]
      have u3 : ∀ k, k ≠ 62 → k ≠ 63 → (sI (sI σ1 90 62 (nI (e + 1) - 1)) 90 63 ((sI σ1 90 62 (nI (e + 1) - 1)).1 90 63 + 1)).1 90 k = σ1.1 90 k := fun k k1 k2 => by rw [sI_up, pk_un k2, sI_up, pk_un k1]
      have x2 : (sI (sI σ1 90 62 (nI (e + 1) - 1)) 90 63 ((sI σ1 90 62 (nI (e + 1) - 1)).1 90 63 + 1)).2 = σ1.2 := rfl
      generalize sI (sI σ1 90 62 (nI (e + 1) - 1)) 90 63 ((sI σ1 90 62 (nI (e + 1) - 1)).1 90 63 + 1) = σ2 at n2 u1 u2 u3 x2 ⊢
      rw [u1, m22']
      refine ok_call (s_exchange hN rfl (f := 22 * e) (by omega)) (fun _ σ3 h3 => ok_ret ⟨rfl, ?_, ⟨?_, ?_, fun k hk => ?_, fun k k1 k2 => ?_⟩, fun k k1 k2 => ?_, ?_⟩)
      · refine RepK_0.mp (RepK_mv (hm.2.2.1 e (by omega)) hns (fun j hj => ?_))
        rw [Nat.zero_add, (h3.1.1 j hj).2, n2 124 (by decide)]
      · rw [(h3.2 90 (by decide)).1]; exact u1
      · rw [(h3.2 90 (by decide)).1]; exact u2
      · refine RepK_mv (hm.2.2.1 k (by omega)) hns (fun j hj => ?_)
        rw [h3.1.2 _ (Or.inl (by omega)), n2 124 (by decide)]
      · by_cases ek : k = e
        · subst ek
          rw [o2]
          refine RepK_mv (RepK_0.mpr ra) hns (fun j hj => ?_)
          rw [Nat.zero_add, (h3.1.1 j hj).1, n2 119 (by decide)]
        · refine RepK_mv (hm.2.2.2 k (by omega) (by omega)) hns (fun j hj => ?_)
          rw [h3.1.2 _ (Or.inr (by omega)), n2 124 (by decide)]
      · rw [(h3.2 90 (by decide)).1]; exact u3 k k1 k2
      · intro p hp
        have q := h3.2 p (fun z => hp (by unfold AM; omega))
        rw [q.1, q.2, x2]
        exact ⟨n2 p (fun z => hp (by unfold AM; omega)), rfl⟩
set_option maxHeartbeats 400000 in
theorem api_redo {N : Nat} (hN : 20000 ≤ N) : Api Inv (fun ρ σ => f_X11_redo N ρ 0 σ) (fun ρ σ => f_X12_redo N ρ 90 σ) := by
  refine api_a (fun t c S σ d u H hi ho hX hM => ?_)
  obtain ⟨ht, wf, ws, hd, ⟨rc, rs⟩, _⟩ := hi
  have hns := wf.2.1
  have tl := isT_le ht
  have ho' := ho
  obtain ⟨o1, o2, o3⟩ := ho'
  by_cases h0 : u = 0
  · refine ⟨0, S, d, u, H, ws, hd, ho, nc_x ht rs hX ?_, fun σ1 _ rm ra hx hm => nc_m ra hm ?_⟩
    · show Ok (f_X11_redo N (RR t) 0 σ) _
      unfold f_X11_redo
      refine ok_bnd (r := 0) (σ := σ) ?_ (ok_gd rfl (ok_ret ⟨rfl, ag_refl⟩))
      rw [r_0_4 rfl, r_0_6 rfl]
      unfold f_X4_stepOn
      rw [hX.2.1, h0, if_pos (show nI 0 = 0 from rfl)]
    · show Ok (f_X12_redo N (RR t) 90 σ1) _
      unfold f_X12_redo
      rw [hm.2.1, h0]
      exact ok_pos rfl (ok_ret ⟨rfl, ag_refl⟩)
  · obtain ⟨e, rfl⟩ : ∃ e, u = e + 1 := ⟨u - 1, by omega⟩
    have oe := o3 (d + 1) (by omega)
    refine ⟨1, H (d + 1), d + 1, e, H, oe.1, oe.2, ⟨by omega, rfl, fun k hk => o3 k (by omega)⟩, ?_, fun σ1 _ rm ra hx hm => ?_⟩
    · show Ok (f_X11_redo N (RR t) 0 σ) _
      unfold f_X11_redo f_X4_stepOn
      rw [r_0_4 rfl, r_0_6 rfl, r_51_0 rfl, hX.2.1]
      have hne : ¬ nI (e + 1) = 0 := nI_ne0 (by omega) (by omega)
      rw [if_neg hne]
      have key : Ok (nmd (sI σ 51 2 (nI (e + 1) - 1)) fun σ2 => nmd (sI σ2 51 1 ((σ2.1 51 1) + 1)) fun σ3 => bnd (f_X9_takeFrom N (RR t) 41 52 902 ((σ3.1 51 1) * 22) σ3) fun _ σ5 => some (1, σ5)) (fun r σ1 => r = 1 ∧ RepS 41 c (H (d + 1)) σ1 ∧ HX (d + 1) e c H σ1 ∧ Ag (AX t) σ σ1) := by
        refine ok_nmd (ok_nmd ?_)
        have n2 : ∀ p, p ≠ 51 → (sI (sI σ 51 2 (nI (e + 1) - 1)) 51 1 ((sI σ 51 2 (nI (e + 1) - 1)).1 51 1 + 1)).1 p = σ.1 p := fun p hp => by rw [sI_ne hp, sI_ne hp]
        have u1 : (sI (sI σ 51 2 (nI (e + 1) - 1)) 51 1 ((sI σ 51 2 (nI (e + 1) - 1)).1 51 1 + 1)).1 51 1 = nI (d + 1) := by rw [sI_up, pk_us, sI_up, pk_un (by decide), hX.1, nI_1]
        have u2 : (sI (sI σ 51 2 (nI (e + 1) - 1)) 51 1 ((sI σ 51 2 (nI (e + 1) - 1)).1 51 1 + 1)).1 51 2 = nI e := by rw [sI_up, pk_un (by decide), sI_up, pk_us, nI_pred]
        have x2 : (sI (sI σ 51 2 (nI (e + 1) - 1)) 51 1 ((sI σ 51 2 (nI (e + 1) - 1)).1 51 1 + 1)).2 = σ.2 := rfl
        generalize sI (sI σ 51 2 (nI (e + 1) - 1)) 51 1 ((sI σ 51 2 (nI (e + 1) - 1)).1 51 1 + 1) = σ2 at n2 u1 u2 x2 ⊢
        rw [u1, m22]
        refine ok_call (s_takeFrom rfl q41 (p := 52) (f := 22 * (d + 1)) (n1 := 902) (Or.inr (by decide)) (by omega) (by decide) wf (RepKx_cg (hX.2.2 (d + 1) (by omega)) (n2 52 (by decide)))) (fun _ σ3 h3 => ok_ret ⟨rfl, h3.1, ⟨?_, ?_, fun k hk => RepKx_cg (hX.2.2 k (by omega)) ?_⟩, ?_⟩)
        · rw [(h3.2 51 (by decide)).1]; exact u1
        · rw [(h3.2 51 (by decide)).1]; exact u2
        · rw [(h3.2 52 (by decide)).1]; exact n2 52 (by decide)
        · intro p hp
          have q := h3.2 p (fun z => hp (by unfold AX; omega))
          rw [q.1, q.2, x2]
          exact ⟨n2 p (fun z => hp (by unfold AX; omega)), rfl⟩
      exact ok_call key (fun r σ1 h1 => ok_gd (by rw [h1.1]; rfl) (ok_ret h1))
    · show Ok (f_X12_redo N (RR t) 90 σ1) _
      unfold f_X12_redo
      rw [hm.2.1, hm.1, m22']
      refine ok_neg (nI_ne0 (by omega) (by omega)) ?_
      refine ok_call (s_exchange hN rfl (f := 22 * d) (by omega)) (fun _ σ2 h2 => ok_nmd (ok_nmd (ok_ret ?_)))
      have e90 : σ2.1 90 = σ1.1 90 := (h2.2 90 (by decide)).1
      have n2 : ∀ p, p ≠ 90 → (sI (sI σ2 90 62 (σ2.1 90 62 + 1)) 90 63 ((sI σ2 90 62 (σ2.1 90 62 + 1)).1 90 63 - 1)).1 p = σ2.1 p := fun p hp => by rw [sI_ne hp, sI_ne hp]
      have u1 : (sI (sI σ2 90 62 (σ2.1 90 62 + 1)) 90 63 ((sI σ2 90 62 (σ2.1 90 62 + 1)).1 90 63 - 1)).1 90 62 = nI (d + 1) := by rw [sI_up, pk_un (by decide), sI_up, pk_us, e90, hm.1, nI_1]
      have u2 : (sI (sI σ2 90 62 (σ2.1 90 62 + 1)) 90 63 ((sI σ2 90 62 (σ2.1 90 62 + 1)).1 90 63 - 1)).1 90 63 = nI e := by rw [sI_up, pk_us, sI_up, pk_un (by decide), e90, hm.2.1, nI_pred]
      have u3 : ∀ k, k ≠ 62 → k ≠ 63 → (sI (sI σ2 90 62 (σ2.1 90 62 + 1)) 90 63 ((sI σ2 90 62 (σ2.1 90 62 + 1)).1 90 63 - 1)).1 90 k = σ1.1 90 k := fun k k1 k2 => by rw [sI_up, pk_un k2, sI_up, pk_un k1, e90]
      have x2 : (sI (sI σ2 90 62 (σ2.1 90 62 + 1)) 90 63 ((sI σ2 90 62 (σ2.1 90 62 + 1)).1 90 63 - 1)).2 = σ2.2 := rfl
      generalize sI (sI σ2 90 62 (σ2.1 90 62 + 1)) 90 63 ((sI σ2 90 62 (σ2.1 90 62 + 1)).1 90 63 - 1) = σ3 at n2 u1 u2 u3 x2 ⊢
      refine ⟨rfl, ?_, ⟨u1, u2, fun k hk => ?_, fun k k1 k2 => ?_⟩, u3, ?_⟩
      · refine RepK_0.mp (RepK_mv (hm.2.2.2 d (by omega) (by omega)) hns (fun j hj => ?_))
        rw [Nat.zero_add, n2 119 (by decide), (h2.1.1 j hj).2]
      · by_cases ek : k = d
        · subst ek
          rw [o2]
          refine RepK_mv (RepK_0.mpr ra) hns (fun j hj => ?_)
          rw [Nat.zero_add, n2 124 (by decide), (h2.1.1 j hj).1]
        · refine RepK_mv (hm.2.2.1 k (by omega)) hns (fun j hj => ?_)
          rw [n2 124 (by decide), h2.1.2 _ (Or.inl (by omega))]
      · refine RepK_mv (hm.2.2.2 k (by omega) (by omega)) hns (fun j hj => ?_)
        rw [n2 124 (by decide), h2.1.2 _ (Or.inr (by omega))]
      · intro p hp
        have q := h2.2 p (fun z => hp (by unfold AM; omega))
        rw [x2, ← q.1, ← q.2]
        exact ⟨n2 p (fun z => hp (by unfold AM; omega)), rfl⟩
