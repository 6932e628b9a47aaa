/-! IMAGE AND BACK -/
theorem s_isBox_y {N b : Nat} {ρ : Nat → Nat → Nat} {σ : St} (h : b < 3) : f_X12_isBox N ρ (nI b) σ = some (1, σ) := by
  unfold f_X12_isBox f_X12_isBox_14
  rw [if_neg (nI_pos (by omega)), if_neg (show ¬ (3 : Int32) ≤ nI b from nI_ge (show b < 3 from h) (by decide))]
  rfl
theorem s_isBox_n {N : Nat} {ρ : Nat → Nat → Nat} {x : Int32} {σ : St} (h : x < 0 ∨ nI 3 ≤ x) : f_X12_isBox N ρ x σ = some (0, σ) := by
  unfold f_X12_isBox f_X12_isBox_13 f_X12_isBox_14
  by_cases h0 : x < 0
  · rw [if_pos h0]; rfl
  · rw [if_neg h0, if_pos (show (3 : Int32) ≤ x from h.resolve_left h0)]; rfl
set_option maxHeartbeats 400000 in
theorem s_imageM {N t b : Nat} {ρ : Nat → Nat → Nat} {c : CDat} {S : SDat} {σ : St} (hN : 20000 ≤ N) (hρ : ρ = RR t) (wf : WfC c) (hb : b < 3) (ra : RepA 119 c S σ) :
    Ok (f_X12_image_18 N ρ 90 (nI b) N 0 σ) (fun r σ' => (r = nI (S 4 0) ∧ RepK 139 (22 * b) c S σ' ∧ (∀ j, j < 22 * b ∨ 22 * b + 22 ≤ j → σ'.1 139 j = σ.1 139 j) ∧ σ'.1 138 = σ.1 138) ∧ Ag (fun p => p = 139 ∨ p = 138) σ σ') := by
  have hns := wf.2.1
  refine ok_ag ?_ (fun r σ' e => by have := m_X12_image_18 _ _ _ e; rw [r_90_81 hρ, r_90_80 hρ] at this; exact this)
  refine lp_ok (F := fun n (a : Int32 × St) => f_X12_image_18 N ρ 90 (nI b) n a.1 a.2) 22 (fun i a => a.1 = nI i ∧ (∀ j, j < i → a.2.1 139 (22 * b + j) = σ.1 119 j) ∧ (∀ j, j < 22 * b ∨ 22 * b + 22 ≤ j → a.2.1 139 j = σ.1 139 j) ∧ Ai (fun p => p = 139) σ a.2) ?_ ?_ N 0 (0, σ) (Nat.zero_le _) (by omega) ⟨rfl, fun j hj => absurd hj (by omega), fun j hj => rfl, ai_refl⟩
  · rintro n i ⟨j, σ1⟩ hi ⟨e2, h1, h2, ha⟩ kk
    have e2 : j = _ := e2
    have h1 : ∀ j, j < i → σ1.1 139 (22 * b + j) = σ.1 119 j := h1
    have h2 : ∀ j, j < 22 * b ∨ 22 * b + 22 ≤ j → σ1.1 139 j = σ.1 139 j := h2
    have ha : Ai (fun p => p = 139) σ σ1 := ha
    subst e2
    show Ok (b_X12_image_18 N ρ 90 (nI b) (f_X12_image_18 N ρ 90 (nI b) n) (nI i) σ1) _
    unfold b_X12_image_18
    rw [r_90_56 hρ, r_90_81 hρ, m22', nI_add, nI_clamp (show i < 2 ^ 31 by omega), nI_clamp (show 22 * b + i < 2 ^ 31 by omega), nI_1 i]
    refine ok_neg (n22c hi) (ok_gd (ib_nI hi (by decide)) (ok_gd (ib_nI (by omega) (by decide)) (ok_sI fun σ2 n2 u2 => ?_)))
    refine kk (_, σ2) ⟨rfl, fun j hj => ?_, fun j hj => ?_, ai_tr ha (ai_w n2 rfl)⟩
    · show σ2.1 139 (22 * b + j) = _
      rw [u2]
      by_cases e : j = i
      · subst e; rw [pk_us, ha 119 (by decide)]
      · rw [pk_un (by omega)]; exact h1 j (by omega)
    · show σ2.1 139 j = _
      rw [u2, pk_un (by omega)]; exact h2 j hj
  · rintro n ⟨j, σ1⟩ ⟨e2, h1, h2, ha⟩
    have e2 : j = _ := e2
    have h1 : ∀ j, j < 22 → σ1.1 139 (22 * b + j) = σ.1 119 j := h1
    have h2 : ∀ j, j < 22 * b ∨ 22 * b + 22 ≤ j → σ1.1 139 j = σ.1 139 j := h2
    have ha : Ai (fun p => p = 139) σ σ1 := ha
    subst e2
    show Ok (b_X12_image_18 N ρ 90 (nI b) (f_X12_image_18 N ρ 90 (nI b) n) (nI 22) σ1) _
    unfold b_X12_image_18
    rw [r_90_56 hρ]
    refine ok_pos (show (22 : Int32) ≤ nI 22 by decide) (ok_gd rfl (ok_ret ⟨?_, RepK_mv (RepK_0.mpr ra) hns (fun j hj => by rw [Nat.zero_add]; exact h1 j hj), h2, ha 138 (by decide)⟩))
    rw [ha 119 (by decide)]
    exact ra.2.1
set_option maxHeartbeats 400000 in
theorem s_backM {N t b : Nat} {ρ : Nat → Nat → Nat} {c : CDat} {S : SDat} {σ : St} (hN : 20000 ≤ N) (hρ : ρ = RR t) (wf : WfC c) (hb : b < 3) (rk : RepK 139 (22 * b) c S σ) :
    Ok (f_X12_back_20 N ρ 90 (nI b) N 0 σ) (fun r σ' => (r = nI (S 4 0) ∧ RepA 119 c S σ' ∧ σ'.1 90 62 = nI 0 ∧ σ'.1 90 63 = nI 0 ∧ ∀ k, k ≠ 62 → k ≠ 63 → σ'.1 90 k = σ.1 90 k) ∧ Ag (fun p => p = 90 ∨ p = 119) σ σ') := by
  have hns := wf.2.1
  refine ok_ag ?_ (fun r σ' e => by have := m_X12_back_20 _ _ _ e; rw [r_90_56 hρ] at this; exact ag_mono this (fun p hp => by omega))
  refine lp_ok (F := fun n (a : Int32 × St) => f_X12_back_20 N ρ 90 (nI b) n a.1 a.2) 22 (fun i a => a.1 = nI i ∧ (∀ j, j < i → a.2.1 119 j = σ.1 139 (22 * b + j)) ∧ Ai (fun p => p = 119) σ a.2) ?_ ?_ N 0 (0, σ) (Nat.zero_le _) (by omega) ⟨rfl, fun j hj => absurd hj (by omega), ai_refl⟩
  · rintro n i ⟨j, σ1⟩ hi ⟨e2, h1, ha⟩ kk
    have e2 : j = _ := e2
    have h1 : ∀ j, j < i → σ1.1 119 j = σ.1 139 (22 * b + j) := h1
    have ha : Ai (fun p => p = 119) σ σ1 := ha
    subst e2
    show Ok (b_X12_back_20 N ρ 90 (nI b) (f_X12_back_20 N ρ 90 (nI b) n) (nI i) σ1) _
    unfold b_X12_back_20
    rw [r_90_56 hρ, r_90_81 hρ, m22', nI_add, nI_clamp (show i < 2 ^ 31 by omega), nI_clamp (show 22 * b + i < 2 ^ 31 by omega), nI_1 i]
    refine ok_neg (n22c hi) (ok_gd (ib_nI (by omega) (by decide)) (ok_gd (ib_nI hi (by decide)) (ok_sI fun σ2 n2 u2 => ?_)))
    refine kk (_, σ2) ⟨rfl, fun j hj => ?_, ai_tr ha (ai_w n2 rfl)⟩
    show σ2.1 119 j = _
    rw [u2]
    by_cases e : j = i
    · subst e; rw [pk_us, ha 139 (by decide)]
    · rw [pk_un e]; exact h1 j (by omega)
  · rintro n ⟨j, σ1⟩ ⟨e2, h1, ha⟩
    have e2 : j = _ := e2
    have h1 : ∀ j, j < 22 → σ1.1 119 j = σ.1 139 (22 * b + j) := h1
    have ha : Ai (fun p => p = 119) σ σ1 := ha
    subst e2
    show Ok (b_X12_back_20 N ρ 90 (nI b) (f_X12_back_20 N ρ 90 (nI b) n) (nI 22) σ1) _
    unfold b_X12_back_20
    rw [r_90_56 hρ]
    refine ok_pos (show (22 : Int32) ≤ nI 22 by decide) (ok_sI fun σ2 n2 u2 => ok_sI fun σ3 n3 u3 => ok_gd rfl (ok_ret ?_))
    have e119 : σ3.1 119 = σ1.1 119 := by rw [n3 119 (by decide), n2 119 (by decide)]
    have ra3 : RepA 119 c S σ3 := RepK_0.mp (RepK_mv rk hns (fun j hj => by rw [Nat.zero_add, e119]; exact h1 j hj))
    refine ⟨ra3.2.1, ra3, ?_, ?_, fun k k1 k2 => ?_⟩
    · rw [u3, pk_un (by decide), u2, pk_us]; rfl
    · rw [u3, pk_us]; rfl
    · rw [u3, pk_un k2, u2, pk_un k1, ha 90 (by decide)]
theorem api_back {N : Nat} (hN : 20000 ≤ N) (a1 : Int32) : Api Inv (fun ρ σ => f_X11_back N ρ 0 a1 σ) (fun ρ σ => f_X12_back N ρ 90 a1 σ) := by
  refine api_a (fun t c S σ d u H hi ho hX hM => ?_)
  obtain ⟨ht, wf, ws, hd, ⟨rc, rs⟩, _, _, hbox, _⟩ := hi
  have hns := wf.2.1
  have tl := isT_le ht
  rcases ix_of a1 (show 3 < 2 ^ 31 by decide) with ⟨b, hb, rfl⟩ | hn
  · have i3 : ib (nI b) 3 = true := ib_nI hb (by decide)
    have l3 : ¬ (3 : Int32) ≤ nI b := nI_ge (show b < 3 from hb) (by decide)
    rcases hbox b hb with ⟨k1, k2⟩ | ⟨k1, k2, B, b1, b2, b3, b4⟩
    · refine ⟨-1, S, d, u, H, ws, hd, ho, nc_x ht rs hX ?_, fun σ1 a1 rm ra hx hm => nc_m ra hm ?_⟩
      · show Ok (f_X11_back N (RR t) 0 (nI b) σ) _
        unfold f_X11_back f_X11_back_18
        rw [r_0_8 rfl, nI_clamp (show b < 2 ^ 31 by omega), k1]
        exact ok_neg (nI_pos (by omega)) (ok_neg l3 (ok_gd i3 (ok_pos rfl (ok_ret ⟨rfl, ag_refl⟩))))
      · show Ok (f_X12_back N (RR t) 90 (nI b) σ1) _
        unfold f_X12_back f_X12_back_16
        rw [r_90_80 rfl, nI_clamp (show b < 2 ^ 31 by omega)]
        refine ok_bnd (s_isBox_y hb) (ok_neg (by decide) (ok_gd i3 ?_))
        rw [(a1 138 (by unfold AX ScX; omega)).1, k2]
        exact ok_pos rfl (ok_ret ⟨rfl, ag_refl⟩)
    · refine ⟨nI (B 4 0), B, 0, 0, fun _ => B, b1, b2, ⟨by omega, rfl, fun k hk => ⟨b1, b2⟩⟩, ?_, fun σ1 a1 rm ra hx hm => ?_⟩
      · show Ok (f_X11_back N (RR t) 0 (nI b) σ) _
        unfold f_X11_back
        rw [r_0_4 rfl, r_0_6 rfl, r_0_7 rfl, r_0_8 rfl, nI_clamp (show b < 2 ^ 31 by omega), k1, m22]
        refine ok_neg (nI_pos (by omega)) (ok_neg l3 (ok_gd i3 (ok_neg (by decide) ?_)))
        refine ok_call (s_takeFrom rfl q41 (p := 53) (f := 22 * b) (n1 := 66) (Or.inr (by decide)) (by omega) (by decide) wf b3) (fun _ σ2 h2 => ?_)
        refine ok_call (s_beginH rfl wf h2.1) (fun _ σ3 h3 => ok_ret ?_)
        have rs3 : RepS 41 c B σ3 := RepS_cg h2.1 (fun p a b => (h3.2 p (by omega)).1)
        exact ⟨rs3.2.2.1, rs3, h3.1, ag_trans (ag_mono h2.2 (fun p hp => by unfold AX; omega)) (ag_mono h3.2 (fun p hp => by unfold AX; omega))⟩
      · show Ok (f_X12_back N (RR t) 90 (nI b) σ1) _
        unfold f_X12_back
        rw [r_90_80 rfl, nI_clamp (show b < 2 ^ 31 by omega)]
        refine ok_bnd (s_isBox_y hb) (ok_neg (by decide) (ok_gd i3 ?_))
        rw [(a1 138 (by unfold AX ScX; omega)).1, k2]
        refine ok_neg (by decide) ?_
        refine ok_mono (s_backM hN rfl wf hb (RepK_cg b4 (a1 139 (by unfold AX ScX; omega)).1)) (fun r σ2 hp => ?_)
        obtain ⟨⟨p1, p2, p3, p4, p5⟩, a2⟩ := hp
        exact ⟨p1, p2, ⟨p3, p4, fun k hk => absurd hk (by omega), fun k _ hk => absurd hk (by omega)⟩, p5, ag_mono a2 (fun p hp => by unfold AM; omega)⟩
  · refine ⟨-1, S, d, u, H, ws, hd, ho, nc_x ht rs hX ?_, fun σ1 a2 rm ra hx hm => nc_m ra hm ?_⟩
    · show Ok (f_X11_back N (RR t) 0 a1 σ) _
      unfold f_X11_back f_X11_back_18
      rcases hn with hn | hn
      · exact ok_pos hn (ok_ret ⟨rfl, ag_refl⟩)
      · exact ok_ite (fun _ => ok_ret ⟨rfl, ag_refl⟩) (fun _ => ok_pos hn (ok_ret ⟨rfl, ag_refl⟩))
    · show Ok (f_X12_back N (RR t) 90 a1 σ1) _
      unfold f_X12_back f_X12_back_16
      exact ok_bnd (s_isBox_n hn) (ok_pos rfl (ok_ret ⟨rfl, ag_refl⟩))
set_option maxHeartbeats 400000 in
theorem api_image {N : Nat} (hN : 20000 ≤ N) (a1 : Int32) : Api Inv (fun ρ σ => f_X11_image N ρ 0 a1 σ) (fun ρ σ => f_X12_image N ρ 90 a1 σ) := by
  rcases ix_of a1 (show 3 < 2 ^ 31 by decide) with ⟨b, hb, rfl⟩ | hn
  · intro ρ σ hI
    obtain ⟨t, c, S, rfl, hi⟩ := hI
    obtain ⟨ht, wf, ws, hd, ⟨rc, rs⟩, ⟨rm, ra, hx⟩, hhist, hbox, hlie, hflt, ⟨M, T, mk, hmem⟩, ⟨L, bt, htap⟩, hwrd⟩ := hi
    have hns := wf.2.1
    have tl := isT_le ht
    have i3 : ib (nI b) 3 = true := ib_nI hb (by decide)
    have hC : Ok (f_X11_image N (RR t) 0 (nI b) σ) (fun r σ' => r = nI (S 4 0) ∧ RepKx 53 (22 * b) c S σ' ∧ (∀ j, j < 22 * b ∨ 22 * b + 22 ≤ j → σ'.1 53 j = σ.1 53 j) ∧ σ'.1 54 = upd (σ.1 54) b 1 ∧ Ag (fun p => p = 53 ∨ p = 54) σ σ') := by
      unfold f_X11_image
      rw [r_0_4 rfl, r_0_7 rfl, r_0_8 rfl, nI_clamp (show b < 2 ^ 31 by omega), m22]
      refine ok_neg (nI_pos (by omega)) (ok_pos (show nI b < nI 3 from nI_lt hb (by decide)) ?_)
      refine ok_call (s_keepIn rfl q41 (p := 53) (f := 22 * b) (n1 := 66) (Or.inr (by decide)) (by omega) (by decide) wf rs) (fun _ σ2 h2 => ok_gd i3 ?_)
      obtain ⟨⟨h21, h22⟩, a2⟩ := h2
      show Ok (some ((sI σ2 54 b (vp_nar .boolean 1)).1 41 4, sI σ2 54 b (vp_nar .boolean 1))) _
      have e : ∀ p, p ≠ 54 → (sI σ2 54 b (vp_nar .boolean 1)).1 p = σ2.1 p := fun p hp => sI_ne hp
      refine ok_ret ⟨?_, RepKx_cg h21 (e 53 (by decide)), fun j hj => by rw [e 53 (by decide)]; exact h22 j hj, ?_, ?_⟩
      · rw [e 41 (by decide), (a2 41 (by decide)).1]; exact rs.2.2.1
      · rw [sI_up, (a2 54 (by decide)).1]; rfl
      · intro p hp
        have q := a2 p (fun z => hp (Or.inl z))
        exact ⟨(e p (fun z => hp (Or.inr z))).trans q.1, q.2⟩
    obtain ⟨r1, σ1, e1, rfl, c1, c2, c3, a1⟩ := hC
    have ra1 : RepA 119 c S σ1 := RepA_cg ra (a1 119 (by decide)).1
    have hM : Ok (f_X12_image N (RR t) 90 (nI b) σ1) (fun r σ' => r = nI (S 4 0) ∧ RepK 139 (22 * b) c S σ' ∧ (∀ j, j < 22 * b ∨ 22 * b + 22 ≤ j → σ'.1 139 j = σ1.1 139 j) ∧ σ'.1 138 = upd (σ1.1 138) b 1 ∧ Ag (fun p => p = 138 ∨ p = 139) σ1 σ') := by
      unfold f_X12_image
      rw [r_90_80 rfl, nI_clamp (show b < 2 ^ 31 by omega)]
      refine ok_bnd (s_isBox_y hb) (ok_neg (by decide) (ok_gd i3 ?_))
      show Ok (f_X12_image_18 N (RR t) 90 (nI b) N 0 (sI σ1 138 b (vp_nar .boolean 1))) _
      have e : ∀ p, p ≠ 138 → (sI σ1 138 b (vp_nar .boolean 1)).1 p = σ1.1 p := fun p hp => sI_ne hp
      refine ok_mono (s_imageM hN rfl wf hb (RepA_cg ra1 (e 119 (by decide)))) (fun r σ2 hp => ?_)
      obtain ⟨⟨p1, p2, p3, p4⟩, a2⟩ := hp
      refine ⟨p1, p2, fun j hj => by rw [p3 j hj, e 139 (by decide)], ?_, ?_⟩
      · rw [p4, sI_up]; rfl
      · intro p hp
        have q := a2 p (fun z => hp (z.elim Or.inr Or.inl))
        exact ⟨q.1.trans (e p (fun z => hp (Or.inl z))), q.2⟩
    obtain ⟨r2, σ2, e2, rfl, d1, d2, d3, a2⟩ := hM
    have y : ∀ p, p ≠ 53 → p ≠ 54 → p ≠ 138 → p ≠ 139 → σ2.1 p = σ.1 p ∧ σ2.2 p = σ.2 p := fun p h1 h2 h3 h4 => ⟨(a2 p (by omega)).1.trans (a1 p (by omega)).1, (a2 p (by omega)).2.trans (a1 p (by omega)).2⟩
    have y90 : ∀ k, σ2.1 90 k = σ.1 90 k := fun k => by rw [(y 90 (by decide) (by decide) (by decide) (by decide)).1]
    have y0 : ∀ k, σ2.1 0 k = σ.1 0 k := fun k => by rw [(y 0 (by decide) (by decide) (by decide) (by decide)).1]
    have x53 : σ2.1 53 = σ1.1 53 := (a2 53 (by decide)).1
    have x54 : σ2.1 54 = σ1.1 54 := (a2 54 (by decide)).1
    refine ⟨_, σ1, σ2, e1, e2, t, c, S, rfl, ht, wf, ws, hd, ⟨RepC_cg rc (fun p h1 h2 h3 => (y p (by omega) (by omega) (by omega) (by omega)).1), RepS_cg rs (fun p h1 h2 => (y p (by omega) (by omega) (by omega) (by omega)).1)⟩, ⟨RepM_cg rm (fun p hp => (y p (by omega) (by omega) (by omega) (by omega)).1), RepA_cg ra (y 119 (by decide) (by decide) (by decide) (by decide)).1, by rw [y90 27]; exact hx⟩, HistI_cg hhist (y 51 (by decide) (by decide) (by decide) (by decide)).1 (y 52 (by decide) (by decide) (by decide) (by decide)).1 (y90 62) (y90 63) (y 124 (by decide) (by decide) (by decide) (by decide)).1, ?_, LieI_cg hlie (y0 14) (y90 65) (y 89 (by decide) (by decide) (by decide) (by decide)).1 (y 125 (by decide) (by decide) (by decide) (by decide)).1, FltI_cg hflt (y0 15) (y0 16) (y90 2) (y90 3), ⟨M, T, mk, MemI_cg hmem (y 68 (by decide) (by decide) (by decide) (by decide)).1 (y90 74) (y90 75) (fun p h1 h2 => (y p (by omega) (by omega) (by omega) (by omega)).1) (fun p h1 h2 => (y p (by omega) (by omega) (by omega) (by omega)).1)⟩, ⟨L, bt, TapI_cg htap (y 4 (by decide) (by decide) (by decide) (by decide)).1 (y90 1) (y 91 (by decide) (by decide) (by decide) (by decide)).1 (y 5 (by decide) (by decide) (by decide) (by decide)).1⟩, WrdI_cg hwrd (y 6 (by decide) (by decide) (by decide) (by decide)).2⟩
    intro b' hb'
    rw [x54, c3, d3, (a1 138 (by decide)).1]
    by_cases eb : b' = b
    · subst eb
      rw [pk_us, pk_us]
      exact Or.inr ⟨rfl, rfl, S, ws, hd, RepKx_cg c1 x53, d1⟩
    · rw [pk_un eb, pk_un eb]
      rcases hbox b' hb' with h | ⟨h1, h2, B, h3, h4, h5, h6⟩
      · exact Or.inl h
      · refine Or.inr ⟨h1, h2, B, h3, h4, RepKx_mv h5 hns (fun j hj => ?_), RepK_mv h6 hns (fun j hj => ?_)⟩
        · rw [x53, c2 _ (by omega)]
        · rw [d2 _ (by omega), (a1 139 (by decide)).1]
  · refine api_v (fun c S wf ws hd => ⟨-1, fun t σ ht rc rs => ?_, fun t σ rm ra hx => ?_⟩)
    · show Ok (f_X11_image N (RR t) 0 a1 σ) _
      unfold f_X11_image f_X11_image_9
      rcases hn with hn | hn
      · exact ok_pos hn (ok_ret ⟨rfl, ag_refl⟩)
      · exact ok_ite (fun _ => ok_ret ⟨rfl, ag_refl⟩) (fun _ => ok_neg (i_nlt.mpr hn) (ok_ret ⟨rfl, ag_refl⟩))
    · show Ok (f_X12_image N (RR t) 90 a1 σ) _
      unfold f_X12_image
      exact ok_bnd (s_isBox_n hn) (ok_pos rfl (ok_ret ⟨rfl, ag_refl⟩))
