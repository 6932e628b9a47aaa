/-! ROUND and SERVICE, both -/
def FX (t p : Nat) : Prop := p = t + 11 ∨ p = t + 14 ∨ p = t + 15 ∨ (46 ≤ p ∧ p ≤ 50) ∨ (55 ≤ p ∧ p ≤ 67)
theorem s_find' {N t : Nat} {c : CDat} {S : SDat} {sv' : Bool} {σ : St} (hN : 20000 ≤ N) (ht : isT t) (wf : WfC c) (rc : RepC t c σ) (rs : RepS 41 c S σ) :
    Ok (f_X8_find N (RR t) 55 t 41 (fl sv') σ) (fun r σ' => (RepC t c σ' ∧ ((r = 0 ∧ ∀ V, ¬ VV c S sv' (nh c) V) ∨ (r = 1 ∧ ∃ V, Found c S sv' V ∧ σ'.1 55 5 = nI (qOf c S sv' V) ∧ σ'.1 55 6 = nI (Wk c V) ∧ ∀ s, s < ns c → σ'.1 60 s = sv (pv c V s)))) ∧ Ag (FX t) σ σ') := by
  refine ok_ag (s_find hN ht wf rc rs) (fun r σ' e => ?_)
  have := m_X8_find e
  rw [r_55_4 rfl, r_55_2 rfl, rt10 rfl ht, rt8 rfl ht, rb1 rfl ht, r_55_3 rfl, r_55_0 rfl, r_55_1 rfl] at this
  exact ag_mono this (fun p hp => by unfold FX; omega)
theorem s_layDown {N t : Nat} {c : CDat} {ls : Nat → Int32} {σ : St} (ht : isT t) (wf : WfC c) (rc : RepC t c σ) (h : ∀ s, s < ns c → σ.1 60 s = ls s) :
    Ok (f_X11_layDownSending N (RR t) 0 σ) (fun _ σ' => (σ'.1 0 14 = nI (ns c) ∧ (∀ s, s < ns c → σ'.1 89 s = ls s) ∧ ∀ k, k ≠ 14 → σ'.1 0 k = σ.1 0 k) ∧ Ag (fun p => p = 0 ∨ p = 89) σ σ') := by
  have hns := wf.2.1
  have tl := isT_le ht
  refine ok_ag ?_ (fun r σ' e => by have := m_X11_layDownSending e; rw [r_0_13 rfl] at this; exact this)
  unfold f_X11_layDownSending
  rw [r_0_2 rfl, r_0_9 rfl, r_55_4 rfl, r_0_13 rfl, rc.2.1]
  refine ok_sI fun σ1 n1 u1 => ?_
  rw [u1, pk_us]
  refine ok_gd (cpok_nI (a := 0) (b := 0) (by omega) (by omega) (by omega) (by omega)) (ok_cpy fun σ2 n2 w2 => ok_ret ⟨?_, fun s hs => ?_, fun k hk => ?_⟩)
  · rw [n2 0 (by decide), u1, pk_us]
  · rw [w2 s, if_pos ⟨Nat.zero_le _, by rw [nI_clamp (by omega)]; show s < 0 + ns c; omega⟩, n1 60 (by decide), show Int32.toNatClampNeg 0 + (s - Int32.toNatClampNeg 0) = s by show 0 + (s - 0) = s; omega]
    exact h s hs
  · rw [n2 0 (by decide), u1, pk_un hk]
set_option maxHeartbeats 800000 in
theorem api_round {N : Nat} (hN : 20000 ≤ N) (a1 : Int32) : Api Inv (fun ρ σ => f_X11_round N ρ 0 a1 σ) (fun ρ σ => f_X12_round N ρ 90 a1 σ) := by
  by_cases hbad : a1 < 0 ∨ 1 < a1
  · refine api_v (fun c S wf ws hd => ⟨-1, fun t σ ht rc rs => ?_, fun t σ rm ra hx => ?_⟩)
    · show Ok (f_X11_round N (RR t) 0 a1 σ) _
      unfold f_X11_round f_X11_round_9
      exact ok_ite (fun _ => ok_ret ⟨rfl, ag_refl⟩) (fun h1 => ok_neg (fun h2 => hbad.elim h1 (fun h3 => i_nlt.mpr h2 h3)) (ok_ret ⟨rfl, ag_refl⟩))
    · show Ok (f_X12_round N (RR t) 90 a1 σ) _
      unfold f_X12_round
      refine ok_bnd isIn_eq ?_
      rw [if_pos hbad]
      exact ok_pos rfl (ok_ret ⟨rfl, ag_refl⟩)
  · have g0 : ¬ a1 < 0 := fun h => hbad (Or.inl h)
    have g1 : a1 ≤ 1 := i_nlt.mp (fun h => hbad (Or.inr h))
    refine api_lie (fun c S wf ws hd => ?_)
    have hns := wf.2.1
    have hnh := wf.1
    obtain ⟨b, hb, hv, hmin⟩ := exmin (P := fun a => VV c S false (nh c) (Vc c a)) (f := fun a => PT c S (gOf false) (Vc c a)) _ (ex_f (c := c) (S := S))
    have hF : Found c S false (Vc c b) := found_code hv hmin
    refine ⟨if a1 = 0 then nI (Cn c S (Vc c b)) else nI (Wk c (Vc c b)), ns c, fun s => sv (pv c (Vc c b) s), hns, fun t σ ht rc rs => ?_, fun t σ rm ra hx => ?_⟩
    · have tl := isT_le ht
      refine ok_mono (P := fun r σ1 => (r = (if a1 = 0 then nI (Cn c S (Vc c b)) else nI (Wk c (Vc c b))) ∧ LX (ns c) (fun s => sv (pv c (Vc c b) s)) σ σ1) ∧ Ag (ALx t) σ σ1) ?_ (fun r σ1 hp => ⟨hp.1, fun p h => (hp.2 p h).1, (hp.2 6 (by unfold ALx ScX; omega)).2⟩)
      show Ok (f_X11_round N (RR t) 0 a1 σ) _
      unfold f_X11_round f_X11_round_53
      rw [r_0_2 rfl, r_0_4 rfl, r_0_9 rfl]
      refine ok_neg g0 (ok_pos g1 (ok_call (s_find' (sv' := false) hN ht wf rc rs) (fun r σ1 h1 => ?_)))
      obtain ⟨⟨rc1, h1⟩, ag1⟩ := h1
      rcases h1 with ⟨_, hno⟩ | ⟨_, V, hV, v5, v6, v60⟩
      · exact absurd hv (hno _)
      · obtain ⟨eq, ew, ep⟩ := found_eq wf hV hF
        refine ok_call (s_layDown (ls := fun s => sv (pv c (Vc c b) s)) ht wf rc1 (fun s hs => by rw [v60 s hs, ep s hs])) (fun _ σ2 h2 => ?_)
        obtain ⟨⟨p1, p2, p3⟩, ag2⟩ := h2
        have e55 : σ2.1 55 = σ1.1 55 := (ag2 55 (by decide)).1
        have lx : LX (ns c) (fun s => sv (pv c (Vc c b) s)) σ σ2 := ⟨p1, p2, fun k hk => by rw [p3 k hk, (ag1 0 (by unfold FX; omega)).1]⟩
        have ag : Ag (ALx t) σ σ2 := ag_trans (ag_mono ag1 (fun p hp => by unfold FX at hp; unfold ALx ScX; omega)) (ag_mono ag2 (fun p hp => by unfold ALx; omega))
        by_cases e : a1 = 0
        · refine ok_pos e (ok_ret ⟨⟨?_, lx⟩, ag⟩)
          rw [if_pos e, e55, v5, eq]
          rfl
        · refine ok_neg e (ok_ret ⟨⟨?_, lx⟩, ag⟩)
          rw [if_neg e, e55, v6, ew]
    · refine ok_ag ?_ (fun r σ' e => by have := m_X12_round e; rw [r_90_57 rfl, r_90_18 rfl, r_90_26 rfl, r_90_64 rfl] at this; exact ag_mono this (fun p hp => by unfold ALm ScM; omega))
      show Ok (f_X12_round N (RR t) 90 a1 σ) _
      unfold f_X12_round
      refine ok_bnd isIn_eq ?_
      rw [if_neg hbad]
      refine ok_neg (by decide) (m_fill hN rfl wf rm ra hx (fun _ σ1 b1 rm1 ra1 _ e90 hx1 => ?_))
      refine ok_mono (s_roundM hN wf ⟨rm1, Air_of ws ra1, hx1, fun _ _ => rfl⟩) (fun r σ2 h2 => ?_)
      obtain ⟨b', hF', rfl, ld', ek⟩ := h2
      obtain ⟨eq, ew, ep⟩ := found_eq wf hF' hF
      refine ⟨?_, ld'.1, fun s hs => by rw [ld'.2 s hs, ep s hs], fun k hk => by rw [ek k hk, e90]⟩
      by_cases e : a1 = 0
      · rw [if_pos e, if_pos e]
        exact congrArg nI eq
      · rw [if_neg e, if_neg e, ew]
set_option maxHeartbeats 800000 in
theorem api_service {N : Nat} (hN : 20000 ≤ N) : Api Inv (fun ρ σ => f_X11_service N ρ 0 σ) (fun ρ σ => f_X12_service N ρ 90 σ) := by
  refine api_lie (fun c S wf ws hd => ?_)
  have hns := wf.2.1
  have hnh := wf.1
  by_cases hex : ∃ a, a < (nh c + 1) ^ ns c ∧ VV c S true (nh c) (Vc c a)
  · obtain ⟨b, hb, hv, hmin⟩ := exmin (P := fun a => VV c S true (nh c) (Vc c a)) (f := fun a => PT c S (gOf true) (Vc c a)) _ hex
    have hF : Found c S true (Vc c b) := found_code hv hmin
    refine ⟨nI (Wk c (Vc c b)), ns c, fun s => sv (pv c (Vc c b) s), hns, fun t σ ht rc rs => ?_, fun t σ rm ra hx => ?_⟩
    · have tl := isT_le ht
      refine ok_mono (P := fun r σ1 => (r = nI (Wk c (Vc c b)) ∧ LX (ns c) (fun s => sv (pv c (Vc c b) s)) σ σ1) ∧ Ag (ALx t) σ σ1) ?_ (fun r σ1 hp => ⟨hp.1, fun p h => (hp.2 p h).1, (hp.2 6 (by unfold ALx ScX; omega)).2⟩)
      show Ok (f_X11_service N (RR t) 0 σ) _
      unfold f_X11_service
      rw [r_0_2 rfl, r_0_4 rfl, r_0_9 rfl]
      have rs0 : RepS 41 c S (sI σ 0 14 0) := RepS_cg rs (fun p h1 h2 => sI_ne (by omega))
      refine ok_nmd (ok_call (s_find' (sv' := true) hN ht wf (RepC_0 ht rc) rs0) (fun r σ1 h1 => ?_))
      obtain ⟨⟨rc1, h1⟩, ag1⟩ := h1
      rcases h1 with ⟨_, hno⟩ | ⟨rfl, V, hV, v5, v6, v60⟩
      · exact absurd hv (hno _)
      · obtain ⟨eq, ew, ep⟩ := found_eq wf hV hF
        refine ok_neg (by decide) (ok_call (s_layDown (ls := fun s => sv (pv c (Vc c b) s)) ht wf rc1 (fun s hs => by rw [v60 s hs, ep s hs])) (fun _ σ2 h2 => ?_))
        obtain ⟨⟨p1, p2, p3⟩, ag2⟩ := h2
        have e55 : σ2.1 55 = σ1.1 55 := (ag2 55 (by decide)).1
        refine ok_ret ⟨⟨by rw [e55, v6, ew], p1, p2, fun k hk => ?_⟩, ?_⟩
        · rw [p3 k hk, (ag1 0 (by unfold FX; omega)).1, sI_up, pk_un hk]
        · intro p hp
          have q1 : ¬ (p = 0 ∨ p = 89) := fun z => hp (by unfold ALx; omega)
          have q2 : ¬ FX t p := fun z => hp (by unfold FX at z; unfold ALx ScX; omega)
          exact ⟨by rw [(ag2 p q1).1, (ag1 p q2).1]; exact sI_ne (by omega), by rw [(ag2 p q1).2, (ag1 p q2).2]; rfl⟩
    · refine ok_ag ?_ (fun r σ' e => by have := m_X12_service e; rw [r_90_57 rfl, r_90_18 rfl, r_90_26 rfl, r_90_64 rfl] at this; exact ag_mono this (fun p hp => by unfold ALm ScM; omega))
      show Ok (f_X12_service N (RR t) 90 σ) _
      unfold f_X12_service
      refine m_fill hN rfl wf rm ra hx (fun _ σ1 b1 rm1 ra1 _ e90 hx1 => ok_nmd ?_)
      refine ok_mono (s_serviceM hN wf ⟨RepM_0 rm1, Air_cg (Air_of ws ra1) (sI_ne (by decide)), by rw [sI_up, pk_un (by decide)]; exact hx1, fun _ _ => rfl⟩ (by rw [sI_up, pk_us])) (fun r σ2 h2 => ?_)
      obtain ⟨h2, ek⟩ := h2
      rcases h2 with ⟨b', hF', rfl, ld'⟩ | ⟨hno, _⟩
      · obtain ⟨eq, ew, ep⟩ := found_eq wf hF' hF
        refine ⟨by rw [ew], ld'.1, fun s hs => by rw [ld'.2 s hs, ep s hs], fun k hk => by rw [ek k hk, sI_up, pk_un hk, e90]⟩
      · exact absurd hv (hno _)
  · have hnV : ∀ V, ¬ VV c S true (nh c) V := fun V hV => by
      obtain ⟨a, ha, e⟩ := code_of (c := c) V
      exact hex ⟨a, ha, VV_cg e hV⟩
    refine ⟨-1, 0, fun _ => 0, by decide, fun t σ ht rc rs => ?_, fun t σ rm ra hx => ?_⟩
    · have tl := isT_le ht
      refine ok_mono (P := fun r σ1 => (r = -1 ∧ LX 0 (fun _ => 0) σ σ1) ∧ Ag (ALx t) σ σ1) ?_ (fun r σ1 hp => ⟨hp.1, fun p h => (hp.2 p h).1, (hp.2 6 (by unfold ALx ScX; omega)).2⟩)
      show Ok (f_X11_service N (RR t) 0 σ) _
      unfold f_X11_service
      rw [r_0_2 rfl, r_0_4 rfl, r_0_9 rfl]
      have rs0 : RepS 41 c S (sI σ 0 14 0) := RepS_cg rs (fun p h1 h2 => sI_ne (by omega))
      refine ok_nmd (ok_call (s_find' (sv' := true) hN ht wf (RepC_0 ht rc) rs0) (fun r σ1 h1 => ?_))
      obtain ⟨⟨rc1, h1⟩, ag1⟩ := h1
      rcases h1 with ⟨rfl, hno⟩ | ⟨_, V, hV, _⟩
      · have e0 : σ1.1 0 = (sI σ 0 14 0).1 0 := (ag1 0 (by unfold FX; omega)).1
        refine ok_pos rfl (ok_ret ⟨⟨rfl, by rw [e0, sI_up, pk_us]; rfl, fun i hi => absurd hi (Nat.not_lt_zero _), fun k hk => by rw [e0, sI_up, pk_un hk]⟩, ?_⟩)
        intro p hp
        have q2 : ¬ FX t p := fun z => hp (by unfold FX at z; unfold ALx ScX; omega)
        exact ⟨by rw [(ag1 p q2).1]; exact sI_ne (fun z => hp (by unfold ALx; omega)), by rw [(ag1 p q2).2]; rfl⟩
      · exact absurd hV.1 (hnV _)
    · refine ok_ag ?_ (fun r σ' e => by have := m_X12_service e; rw [r_90_57 rfl, r_90_18 rfl, r_90_26 rfl, r_90_64 rfl] at this; exact ag_mono this (fun p hp => by unfold ALm ScM; omega))
      show Ok (f_X12_service N (RR t) 90 σ) _
      unfold f_X12_service
      refine m_fill hN rfl wf rm ra hx (fun _ σ1 b1 rm1 ra1 _ e90 hx1 => ok_nmd ?_)
      refine ok_mono (s_serviceM hN wf ⟨RepM_0 rm1, Air_cg (Air_of ws ra1) (sI_ne (by decide)), by rw [sI_up, pk_un (by decide)]; exact hx1, fun _ _ => rfl⟩ (by rw [sI_up, pk_us])) (fun r σ2 h2 => ?_)
      obtain ⟨h2, ek⟩ := h2
      rcases h2 with ⟨b', hF', _⟩ | ⟨_, rfl, hz⟩
      · exact absurd hF'.1 (hnV _)
      · exact ⟨rfl, hz, fun i hi => absurd hi (Nat.not_lt_zero _), fun k hk => by rw [ek k hk, sI_up, pk_un hk, e90]⟩
