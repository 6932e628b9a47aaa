/-! LOAD AND WEAR, by the class and by the model -/
theorem ok_sI {σ : St} {b k : Nat} {x : Int32} {kk : St → Option (Int32 × St)} {Q : Int32 → St → Prop} (h : ∀ σ' : St, (∀ p, p ≠ b → σ'.1 p = σ.1 p) → σ'.1 b = upd (σ.1 b) k x → Ok (kk σ') Q) : Ok (nmd (sI σ b k x) kk) Q := h _ (fun p hp => sI_ne hp) sI_up
theorem s_setTerms {N t q s h : Nat} {ρ : Nat → Nat → Nat} {c : CDat} {S : SDat} {m x : Int32} {σ : St} (hρ : ρ = RR t) (ht : isT t) (hq : isQ q) (wf : WfC c) (rc : RepC t c σ) (rs : RepS q c S σ) (hs : s < ns c) (hh : h < nh c) :
    Ok (f_X0_setTerms N ρ t q (nI s) (nI h) m x σ) (fun _ σ' => (∀ k, k < 6 → σ'.1 (t + 15) (k + 1) = tt c S s h m x k) ∧ Ag (fun p => p = t + 15) σ σ') := by
  have hns := wf.2.1
  have hnh := wf.1
  have tl := isT_le ht
  have ql := isQ_le hq
  refine ok_ag ?_ (fun r σ' e => by have := m_X0_setTerms e; rw [rt10 hρ ht] at this; exact this)
  unfold f_X0_setTerms
  rw [rt1 hρ ht, rt3 hρ ht, rt10 hρ ht, rq0 hρ hq, rq1 hρ hq]
  have h5 : ib (nI s) 5 = true := ib_nI (by omega) (by decide)
  have h6 : ib (nI h) 6 = true := ib_nI (by omega) (by decide)
  have s31 : s < 2 ^ 31 := by omega
  have h31 : h < 2 ^ 31 := by omega
  have d1 : t + 4 ≠ t + 15 := by omega
  have d2 : q + 2 ≠ t + 15 := by omega
  have d3 : q + 1 ≠ t + 15 := by omega
  have d4 : q ≠ t + 15 := by omega
  have rh := rc.2.2.2.2.2.1
  have rS := rs.1 s hs
  refine ok_gd h6 (ok_gd rfl (ok_sI fun σ1 n1 u1 => ?_))
  refine ok_gd rfl (ok_sI fun σ2 n2 u2 => ?_)
  refine ok_gd h6 (ok_gd rfl (ok_sI fun σ3 n3 u3 => ?_))
  refine ok_gd h5 (ok_gd rfl (ok_sI fun σ4 n4 u4 => ?_))
  refine ok_gd h5 (ok_gd rfl (ok_sI fun σ5 n5 u5 => ?_))
  refine ok_gd rfl (ok_sI fun σ6 n6 u6 => ok_ret ?_)
  rw [nI_clamp s31] at u4 u5
  rw [nI_clamp h31] at u1 u3
  rw [show σ.1 (t + 2) h = nI (dt c 1 h) from rh 1 h (by decide) hh, mmax0] at u1
  rw [n2 (t + 4) d1, n1 (t + 4) d1, show σ.1 (t + 4) h = nI (dt c 3 h) from rh 3 h (by decide) hh] at u3
  rw [n3 (q + 2) d2, n2 (q + 2) d2, n1 (q + 2) d2, rS.2.1] at u4
  rw [n4 (q + 1) d3, n3 (q + 1) d3, n2 (q + 1) d3, n1 (q + 1) d3, rS.1] at u5
  rw [n5 q d4, n4 q d4, n3 q d4, n2 q d4, n1 q d4, rs.2.2.1] at u6
  rw [u6, u5, u4, u3, u2, u1]
  intro k hk
  rcases six_lt hk with rfl | rfl | rfl | rfl | rfl | rfl
  · rw [pk_un (by decide), pk_un (by decide), pk_un (by decide), pk_un (by decide), pk_un (by decide)]; exact pk_us
  · rw [pk_un (by decide), pk_un (by decide), pk_un (by decide), pk_un (by decide)]; exact pk_us
  · rw [pk_un (by decide), pk_un (by decide), pk_un (by decide)]; exact pk_us
  · rw [pk_un (by decide), pk_un (by decide)]; exact pk_us
  · rw [pk_un (by decide)]; exact pk_us
  · exact pk_us
theorem fv_eq {E : List Cd} {T : Nat → Int32} {o : Int32} (h : E ≠ []) : fv E T o = (evE T [] E).headD 0 := by
  cases E with
  | nil => exact absurd rfl h
  | cons c E => rfl
theorem sc_of {t : Nat} {S : Nat → Prop} {σ σ' : St} (h : Ag S σ σ') (hs : ∀ p, S p → Sc t p) : Ag (Sc t) σ σ' := ag_mono h hs
set_option maxHeartbeats 200000 in
theorem s_loadC {N t q s h m : Nat} {ρ : Nat → Nat → Nat} {c : CDat} {S : SDat} {x : Int32} {σ : St} (hN : 20000 ≤ N) (hρ : ρ = RR t) (ht : isT t) (hq : isQ q) (wf : WfC c) (rc : RepC t c σ) (rs : RepS q c S σ) (hs : s < ns c) (hh : h < nh c) (hm : 0 < m) (hm5 : m ≤ 6) :
    Ok (f_X0_loadOf N ρ t q (nI s) (nI h) (nI m) x σ) (fun r σ' => r = ld c S s h m x ∧ Ag (Sc t) σ σ') := by
  have hns := wf.2.1
  have hnh := wf.1
  refine ok_ag ?_ (fun r σ' e => by have := m_X0_loadOf e; rw [rt8 hρ ht, rt10 hρ ht, rb1 hρ ht] at this; exact sc_of this (fun p hp => by unfold Sc; omega))
  unfold f_X0_loadOf
  rw [rt8 hρ ht, rt10 hρ ht]
  refine ok_bnd (hasS_y rc.2.1 hns hs) (ok_neg (by decide) ?_)
  refine ok_bnd (hasH_y rc.1 hnh hh) (ok_neg (by decide) ?_)
  refine ok_pos (show nI 0 < nI m from nI_lt hm (by omega)) ?_
  refine ok_call (s_setTerms hρ ht hq wf rc rs hs hh) (fun _ σ1 hp => ?_)
  obtain ⟨hT, ha⟩ := hp
  have hag : Ag (Sc t) σ σ1 := sc_of ha (fun p hp => Or.inl hp)
  have rc1 := RepC_sc rc hag
  have wb := wf.2.2.2.2.2.2.2.2.1
  unfold f_X0_loadOf_72
  by_cases hE : fb c = []
  · have e0 : σ1.1 (t + 9) 2 = nI 0 := by rw [rc1.2.2.2.2.2.2.2.1, hE]; rfl
    refine ok_bnd (isTold_0 e0) (ok_pos rfl ?_)
    refine ok_gd rfl (ok_gd (nz_t (nI_ne0 hm (by omega))) (ok_ret ?_))
    rw [show σ1.1 (t + 15) (1 : Int32).toNatClampNeg = hvy c h x from hT 0 (by decide), mm_wth (m := 999) (by decide)]
    unfold ld fv
    rw [hE]
  · obtain ⟨n, hn⟩ : ∃ n, (fb c).length = n + 1 := ⟨(fb c).length - 1, by have := List.length_pos_iff.mpr hE; omega⟩
    have e0 : σ1.1 (t + 9) 2 = nI (n + 1) := by rw [rc1.2.2.2.2.2.2.2.1, hn]
    refine ok_bnd (isTold_1 e0 (by have := wb.1; omega)) (ok_neg (by decide) ?_)
    have hw : wfE 0 (fb c) := by
      rcases wb.2 with h | h
      · exact absurd h hE
      · exact h
    have hv := vb_loop (N := N) (ρ := ρ) (this := t + 9) (a1 := t + 15) (s := t + 11) (cp := t + 10) (rb1 hρ ht) (rb0 hρ ht) (by omega) (by omega) (by omega) wb.1 (T := tt c S s h (nI m) x) N 0 [] σ1 (by omega) (by have := wb.1; omega) rc1.2.2.2.2.2.2.2.1 rc1.2.2.2.2.2.2.2.2.1 hT trivial (by decide) hw
    refine ok_call (P := fun r _ => r = (evE (tt c S s h (nI m) x) [] (fb c)).headD 0) hv (fun r σ2 hr => ok_ret ?_)
    rw [hr, mm_wth (m := 999) (by decide)]
    unfold ld
    rw [fv_eq hE]
theorem m_of {S : Nat → Prop} {σ σ' : St} (h : Ag S σ σ') (hs : ∀ p, S p → Sm p) : Ag Sm σ σ' := ag_mono h hs
theorem s_heavyOf {N t h : Nat} {ρ : Nat → Nat → Nat} {c : CDat} {x : Int32} {σ : St} (hρ : ρ = RR t) (wf : WfC c) (rm : RepM c σ) (hx : σ.1 90 27 = x) (hh : h < nh c) : f_X12_heavyOf N ρ 90 (nI h) σ = some (hvy c h x, σ) := by
  have hnh := wf.1
  have h6 : ib (nI h) 6 = true := ib_nI (by omega) (by decide)
  have e : σ.1 112 h = nI (dt c 1 h) := rm.2.2.2.2.2.1 1 h (by decide) hh
  unfold f_X12_heavyOf f_X12_heavyOf_29 hvy
  rw [r_90_37 hρ, gd_t h6, gd_t h6, nI_clamp (by omega), e, hx]
  split <;> rfl
set_option maxHeartbeats 200000 in
theorem s_wearC {N t q s h m : Nat} {ρ : Nat → Nat → Nat} {c : CDat} {S : SDat} {σ : St} (hN : 20000 ≤ N) (hρ : ρ = RR t) (ht : isT t) (hq : isQ q) (wf : WfC c) (ws : S 0 s < 2 ^ 31) (rc : RepC t c σ) (rs : RepS q c S σ) (hs : s < ns c) (hh : h < nh c) (hm5 : m ≤ 6) :
    Ok (f_X0_wearOf N ρ t q (nI s) (nI h) (nI m) σ) (fun r σ' => r = wr c S s h m ∧ Ag (Sc t) σ σ') := by
  have hns := wf.2.1
  have hnh := wf.1
  have tl := isT_le ht
  have ql := isQ_le hq
  refine ok_ag ?_ (fun r σ' e => by have := m_X0_wearOf e; rw [rt9 hρ ht, rt10 hρ ht, rw1 hρ ht] at this; exact sc_of this (fun p hp => by unfold Sc; omega))
  unfold f_X0_wearOf
  rw [rt9 hρ ht, rt10 hρ ht]
  refine ok_bnd (hasS_y rc.2.1 hns hs) (ok_neg (by decide) ?_)
  refine ok_bnd (hasH_y rc.1 hnh hh) (ok_neg (by decide) ?_)
  refine ok_call (s_setTerms hρ ht hq wf rc rs hs hh) (fun _ σ1 hp => ?_)
  obtain ⟨hT, ha⟩ := hp
  have hag : Ag (Sc t) σ σ1 := sc_of ha (fun p hp => Or.inl hp)
  have rc1 := RepC_sc rc hag
  have wb := wf.2.2.2.2.2.2.2.2.2
  unfold f_X0_wearOf_53
  rw [rq0 hρ hq]
  by_cases hE : fw c = []
  · have e0 : σ1.1 (t + 12) 2 = nI 0 := by rw [rc1.2.2.2.2.2.2.2.2.2.1, hE]; rfl
    refine ok_bnd (isTold_0 e0) (ok_pos rfl ?_)
    refine ok_gd (ib_nI (by omega) (by decide)) (ok_ret ?_)
    rw [nI_clamp (by omega), ((RepS_sc ht hq rs hag).1 s hs).1, mm_wth (nI_pos' ws)]
    unfold wr fv
    rw [hE]
  · obtain ⟨n, hn⟩ : ∃ n, (fw c).length = n + 1 := ⟨(fw c).length - 1, by have := List.length_pos_iff.mpr hE; omega⟩
    have e0 : σ1.1 (t + 12) 2 = nI (n + 1) := by rw [rc1.2.2.2.2.2.2.2.2.2.1, hn]
    refine ok_bnd (isTold_1 e0 (by have := wb.1; omega)) (ok_neg (by decide) ?_)
    have hw : wfE 0 (fw c) := by
      rcases wb.2 with h | h
      · exact absurd h hE
      · exact h
    have hv := vb_loop (N := N) (ρ := ρ) (this := t + 12) (a1 := t + 15) (s := t + 14) (cp := t + 13) (rw1 hρ ht) (rw0 hρ ht) (by omega) (by omega) (by omega) wb.1 (T := tt c S s h (nI m) 0) N 0 [] σ1 (by omega) (by have := wb.1; omega) rc1.2.2.2.2.2.2.2.2.2.1 rc1.2.2.2.2.2.2.2.2.2.2.1 hT trivial (by decide) hw
    have hv2 := ok_ag (P := fun σ' => Ag (Sc t) σ1 σ') (o := f_X1_valueBy N ρ (t + 12) (t + 15) 7 σ1) hv (fun r σ' e => by have := m_X1_valueBy e; rw [rw1 hρ ht] at this; exact sc_of this (fun p hp => Or.inr (Or.inr hp)))
    refine ok_call hv2 (fun r σ2 hr => ok_gd (ib_nI (by omega) (by decide)) (ok_ret ?_))
    rw [nI_clamp (by omega), ((RepS_sc ht hq (RepS_sc ht hq rs hag) hr.2).1 s hs).1, hr.1, mm_wth (nI_pos' ws)]
    unfold wr
    rw [fv_eq hE, List.drop_zero]
set_option maxHeartbeats 200000 in
theorem s_worked {N t s h : Nat} {ρ : Nat → Nat → Nat} {c : CDat} {S : SDat} {m x other most : Int32} {f : Nat} {E : List Cd} {σ : St} (hN : 20000 ≤ N) (hρ : ρ = RR t) (wf : WfC c) (rm : RepM c σ) (ra : RepA 120 c S σ) (hx : σ.1 90 27 = x) (hs : s < ns c) (hh : h < nh c) (hf : f < 2) (wE : WfF E) (hl : σ.1 98 f = nI E.length) (hc : ∀ j, j < E.length → σ.1 96 (320 * f + j) = encS (E.getD j (.inl 0)) ∧ σ.1 97 (320 * f + j) = encA (E.getD j (.inl 0))) :
    Ok (f_X12_worked N ρ 90 (nI f) (nI s) (nI h) m other most σ) (fun r σ' => r = wth (fv E (tt c S s h m x) other) most ∧ Ag Sm σ σ') := by
  have hns := wf.2.1
  have hnh := wf.1
  refine ok_ag ?_ (fun r σ' e => by have := m_X12_worked e; rw [r_90_18 hρ, r_90_26 hρ] at this; exact m_of this (fun p hp => by unfold Sm; omega))
  unfold f_X12_worked
  rw [r_90_18 hρ, r_90_26 hρ, r_90_39 hρ, r_90_57 hρ]
  refine ok_bnd (s_heavyOf hρ wf rm hx hh) ?_
  rw [show (5 : Int32) + nI s = nI (5 + s) from nI_add 5 s]
  have rA := ra.1 s hs
  have h22 : ib (nI s) 22 = true := ib_nI (by omega) (by decide)
  have h27 : ib (nI (5 + s)) 22 = true := ib_nI (by omega) (by decide)
  have h6 : ib (nI h) 6 = true := ib_nI (by omega) (by decide)
  refine ok_gd rfl (ok_sI fun σ1 n1 u1 => ?_)
  refine ok_gd rfl (ok_sI fun σ2 n2 u2 => ?_)
  refine ok_gd h6 (ok_gd rfl (ok_sI fun σ3 n3 u3 => ?_))
  refine ok_gd h27 (ok_gd rfl (ok_sI fun σ4 n4 u4 => ?_))
  refine ok_gd h22 (ok_gd rfl (ok_sI fun σ5 n5 u5 => ?_))
  refine ok_gd rfl (ok_gd rfl (ok_sI fun σ6 n6 u6 => ?_))
  refine ok_gd rfl (ok_sI fun σ7 n7 u7 => ok_nmd ?_)
  rw [nI_clamp (by omega)] at u3 u4 u5
  rw [n2 114 (by decide), n1 114 (by decide), show σ.1 114 h = nI (dt c 3 h) from rm.2.2.2.2.2.1 3 h (by decide) hh] at u3
  rw [n3 120 (by decide), n2 120 (by decide), n1 120 (by decide), rA.2.1] at u4
  rw [n4 120 (by decide), n3 120 (by decide), n2 120 (by decide), n1 120 (by decide), rA.1] at u5
  rw [n5 120 (by decide), n4 120 (by decide), n3 120 (by decide), n2 120 (by decide), n1 120 (by decide), show σ.1 120 (20 : Int32).toNatClampNeg = nI (S 4 0) from ra.2.1] at u6
  have hT : ∀ k, k < 6 → σ7.1 102 k = tt c S s h m x k := by
    rw [n7 102 (by decide), u6, u5, u4, u3, u2, u1]
    intro k hk
    rcases six_lt hk with rfl | rfl | rfl | rfl | rfl | rfl
    · rw [pk_un (by decide), pk_un (by decide), pk_un (by decide), pk_un (by decide), pk_un (by decide)]; exact pk_us
    · rw [pk_un (by decide), pk_un (by decide), pk_un (by decide), pk_un (by decide)]; exact pk_us
    · rw [pk_un (by decide), pk_un (by decide), pk_un (by decide)]; exact pk_us
    · rw [pk_un (by decide), pk_un (by decide)]; exact pk_us
    · rw [pk_un (by decide)]; exact pk_us
    · exact pk_us
  have eq : ∀ p, p ≠ 100 → p ≠ 102 → σ7.1 p = σ.1 p := fun p h1 h2 => by rw [n7 p h1, n6 p h2, n5 p h2, n4 p h2, n3 p h2, n2 p h2, n1 p h2]
  have e98 : σ7.1 98 f = nI E.length := by rw [eq 98 (by decide) (by decide)]; exact hl
  have eco : ∀ j, j < E.length → σ7.1 96 (320 * f + j) = encS (E.getD j (.inl 0)) ∧ σ7.1 97 (320 * f + j) = encA (E.getD j (.inl 0)) := by
    rw [eq 96 (by decide) (by decide), eq 97 (by decide) (by decide)]; exact hc
  have ef : (320 : Int32) * nI f = nI (320 * f + 0) := by rw [← ix_f, nI_0, Int32.add_zero]
  have e0 : (0 : Int32) = nI ([] : List Int32).length := rfl
  by_cases hE : E = []
  · have e1 : σ7.1 100 0 = other := by rw [u7]; exact pk_us
    subst hE
    obtain ⟨n, rfl⟩ : ∃ n, N = n + 1 := ⟨N - 1, by omega⟩
    show Ok (b_X12_worked_88 (n + 1) ρ 90 (nI f) (nI s) (nI h) m other most _ 0 _ σ7) _
    unfold b_X12_worked_88
    refine ok_gd (ib_nI hf (by decide)) ?_
    rw [r_90_16 hρ, r_90_18 hρ, nI_clamp (show f < 2 ^ 31 by omega), e98]
    refine ok_pos ?_ (ok_gd rfl (ok_bnd s_within (ok_ret ?_)))
    · show (320 : Int32) * nI f + 0 ≤ 320 * nI f
      rw [Int32.add_zero]
      exact Int32.le_refl _
    · show wth (σ7.1 100 0) most = wth other most
      rw [e1]
  · have hw : wfE 0 E := by
      rcases wE.2 with h | h
      · exact absurd h hE
      · exact h
    rw [ef, fv_eq hE]
    exact wk_loop hρ hf wE.1 N 0 [] σ7 (Nat.zero_le _) (by have := wE.1; omega) e98 eco hT trivial (by decide) hw
theorem ld_nI {c : CDat} {S : SDat} {s h m : Nat} {x : Int32} : ∃ n, n ≤ 999 ∧ ld c S s h m x = nI n := wth_nI (by decide)
theorem wr_nI {c : CDat} {S : SDat} {s h m : Nat} (hs : S 0 s < 2 ^ 31) : ∃ n, n ≤ S 0 s ∧ wr c S s h m = nI n := wth_nI hs
theorem s_loadAt {N t s h m : Nat} {ρ : Nat → Nat → Nat} {c : CDat} {S : SDat} {x : Int32} {σ : St} (hN : 20000 ≤ N) (hρ : ρ = RR t) (wf : WfC c) (rm : RepM c σ) (ra : RepA 120 c S σ) (hx : σ.1 90 27 = x) (hs : s < ns c) (hh : h < nh c) (hm : 0 < m) (hm5 : m ≤ 6) :
    Ok (f_X12_loadAt N ρ 90 (nI s) (nI h) (nI m) σ) (fun r σ' => r = ld c S s h m x ∧ Ag Sm σ σ') := by
  unfold f_X12_loadAt
  refine ok_bnd (s_heavyOf hρ wf rm hx hh) (ok_gd (nz_t (nI_ne0 hm (by omega))) ?_)
  refine ok_call (s_worked (f := 0) (E := fb c) hN hρ wf rm ra hx hs hh (by decide) wf.2.2.2.2.2.2.2.2.1 rm.2.2.2.2.2.2.2.1 rm.2.2.2.2.2.2.2.2.1) (fun r σ' hr => ok_ret ?_)
  exact ⟨hr.1, hr.2⟩
theorem s_wearM {N t s h m : Nat} {ρ : Nat → Nat → Nat} {c : CDat} {S : SDat} {σ : St} (hN : 20000 ≤ N) (hρ : ρ = RR t) (wf : WfC c) (rm : RepM c σ) (ra : RepA 120 c S σ) (hx : σ.1 90 27 = 0) (hs : s < ns c) (hh : h < nh c) :
    Ok (f_X12_worked N ρ 90 1 (nI s) (nI h) (nI m) 1 (nI (S 0 s)) σ) (fun r σ' => r = wr c S s h m ∧ Ag Sm σ σ') :=
  s_worked (f := 1) (E := fw c) hN hρ wf rm ra hx hs hh (by decide) wf.2.2.2.2.2.2.2.2.2 rm.2.2.2.2.2.2.2.2.2.1 rm.2.2.2.2.2.2.2.2.2.2
