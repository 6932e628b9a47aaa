/-! JUST THESE SENT; EASIEST, FORLORN -/
def jst (S : SDat) (p : Nat → Bool) (v : Nat) : SDat := fun r s => if r = 3 then (if p s = true then v else 0) else S r s
def jsI (S : SDat) (p : Nat → Bool) (v i : Nat) : SDat := fun r s => if r = 3 ∧ s < i then (if p s = true then v else 0) else S r s
theorem jst_n {S : SDat} {p : Nat → Bool} {v r s : Nat} (h : r ≠ 3) : jst S p v r s = S r s := if_neg h
theorem jst_3 {S : SDat} {p : Nat → Bool} {v s : Nat} : jst S p v 3 s = if p s = true then v else 0 := if_pos rfl
theorem jst_wf {c : CDat} {S : SDat} {p : Nat → Bool} {v : Nat} (ws : WfS c S) (hv : v ≤ nh c) : WfS c (jst S p v) := by
  refine ⟨fun s hs => ?_, ?_, ?_⟩
  · have := ws.1 s hs
    rw [jst_n (by decide), jst_n (by decide), jst_n (by decide), jst_3]
    refine ⟨this.1, this.2.1, this.2.2.1, ?_⟩
    split <;> omega
  · rw [jst_n (by decide)]; exact ws.2.1
  · rw [jst_n (by decide)]; exact ws.2.2
theorem jsI_s {S : SDat} {p : Nat → Bool} {v i : Nat} : pu (jsI S p v i) 3 i (if p i = true then v else 0) = jsI S p v (i + 1) := by
  funext r s
  by_cases h : r = 3 ∧ s = i
  · obtain ⟨rfl, rfl⟩ := h
    rw [pu_s]
    simp [jsI]
  · rw [pu_n h]
    unfold jsI
    by_cases hr : r = 3
    · have h1 : s ≠ i := fun z => h ⟨hr, z⟩
      have h2 : s < i + 1 ↔ s < i := by omega
      simp [h2]
    · simp [hr]
set_option maxHeartbeats 400000 in
theorem s_sendJust {N t k v : Nat} {ρ : Nat → Nat → Nat} {c : CDat} {S : SDat} {p : Nat → Bool} {x : Int32} {σ : St} (hN : 20000 ≤ N) (hρ : ρ = RR t) (wf : WfC c) (rm : RepM c σ) (ra : RepA 120 c S σ) (hk : ns c ≤ k) (hk6 : k ≤ 6) (hv : x = sv v) :
    Ok (f_X12_sendJust N ρ 90 (bits p k) x σ) (fun _ σ' => RepA 120 c (jst S p v) σ' ∧ Ag (fun p => p = 120) σ σ') := by
  have hns := wf.2.1
  refine ok_ag ?_ (fun r σ' e => by have := m_X12_sendJust e; rw [r_90_57 hρ] at this; exact this)
  refine lp (F := fun n i σ' => f_X12_sendJust_2 N ρ 90 (bits p k) x n (nI i) σ') (ns c) (fun i σ' => RepA 120 c (jsI S p v i) σ' ∧ σ'.1 90 = σ.1 90) ?_ ?_ N 0 σ (Nat.zero_le _) (by omega) ⟨RepA_pt ra (fun r s _ _ => by simp [jsI]) (by simp [jsI]) (by simp [jsI]), rfl⟩
  · rintro n i σ1 hi ⟨ra1, e90⟩ kk
    show Ok (b_X12_sendJust_2 _ _ _ _ _ _ _ _) _
    unfold b_X12_sendJust_2 f_X12_sendJust_32
    rw [e90, rm.2.1, bits_in hk6 (show i < k by omega), n15, nI_clamp (show 15 + i < 2 ^ 31 by omega), r_90_57 hρ, nI_1 i]
    refine ok_neg (nI_ge hi (by omega)) ?_
    have ib1 : ib (nI (15 + i)) 22 = true := ib_nI (by omega) (by decide)
    by_cases hp : p i = true
    · rw [if_pos hp]
      refine ok_pos rfl (ok_gd ib1 (ok_sI fun σ2 n2 u2 => ?_))
      refine kk σ2 ⟨?_, by rw [n2 90 (by decide)]; exact e90⟩
      have := RepA_w3 (v := if p i = true then v else 0) ra1 hns (by omega) rfl u2 (by rw [if_pos hp]; exact hv)
      rw [jsI_s] at this
      exact this
    · rw [if_neg hp]
      refine ok_neg (by decide) (ok_gd ib1 (ok_sI fun σ2 n2 u2 => ?_))
      refine kk σ2 ⟨?_, by rw [n2 90 (by decide)]; exact e90⟩
      have := RepA_w3 (v := if p i = true then v else 0) ra1 hns (by omega) rfl u2 (by rw [if_neg hp]; rfl)
      rw [jsI_s] at this
      exact this
  · rintro n σ1 ⟨ra1, e90⟩
    show Ok (b_X12_sendJust_2 _ _ _ _ _ _ _ _) _
    unfold b_X12_sendJust_2
    rw [e90, rm.2.1]
    exact ok_pos (Int32.le_refl _) (ok_ret (RepA_pt ra1 (fun r s _ hs => by simp [jst, jsI, hs]) (by simp [jst, jsI]) (by simp [jst, jsI])))
theorem jst_at {S : SDat} {p : Nat → Bool} {h : Nat} : atH (jst S p (h + 1)) h = p := by
  funext s
  unfold atH
  rw [jst_3]
  by_cases hp : p s = true
  · simp [hp]
  · simp [hp]
theorem jst_mny {c : CDat} {S : SDat} {p : Nat → Bool} {h : Nat} : mny c (jst S p (h + 1)) h = cnt p (ns c) := by
  unfold mny
  rw [jst_at]
theorem jst_qrl {c : CDat} {S : SDat} {p : Nat → Bool} {h : Nat} : qrl c (jst S p (h + 1)) h = qn (dt c 6) p (ns c) := by
  unfold qrl
  rw [jst_at]
theorem jst_fare {c : CDat} {S : SDat} {p : Nat → Bool} {h s : Nat} {x : Int32} : fare c (jst S p (h + 1)) x s = if p s = true then (if qn (dt c 6) p (ns c) = true then 3 else if ld c S s h (cnt p (ns c)) x ≤ nI (S 0 s) then 1 else 2) else 0 := by
  by_cases hp : p s = true
  · have e3 : jst S p (h + 1) 3 s = h + 1 := by rw [jst_3, if_pos hp]
    rw [if_pos hp]
    unfold fare lod
    rw [e3, if_neg (by omega), show h + 1 - 1 = h from rfl, jst_mny, jst_qrl, ld_cg (S := S) (jst_n (by decide)) (jst_n (by decide)) (jst_n (by decide)), jst_n (by decide)]
  · rw [if_neg hp]
    exact fare_0.mpr (by rw [jst_3, if_neg hp])
theorem qn_one {cr : Nat → Nat} {s n : Nat} : ¬ qn cr (fun k => decide (k = s)) n = true := by
  rw [qn_iff]
  rintro ⟨a, b, h1, h2, h3, h4, h5⟩
  simp at h3 h4
  omega
theorem cnt_one {s n : Nat} (h : s < n) : cnt (fun k => decide (k = s)) n = 1 := by
  induction n with
  | zero => omega
  | succ n ih =>
    rw [cnt_s]
    by_cases e : n = s
    · subst e
      rw [cnt_ext (n := 0) (Nat.zero_le _) (fun k _ hk => by simp; omega), if_pos (by simp)]
      rfl
    · rw [ih (by omega), if_neg (by simpa using e)]
def ca (c : CDat) (S : SDat) (s h : Nat) : Bool := decide (ld c S s h 1 0 ≤ nI (S 0 s))
theorem ca_cg {c : CDat} {S T : SDat} {s h : Nat} (e : ∀ r s, r ≠ 3 → T r s = S r s) : ca c T s h = ca c S s h := by
  unfold ca
  rw [ld_cg (S := S) (e 0 s (by decide)) (e 1 s (by decide)) (e 4 0 (by decide)), e 0 s (by decide)]
def Air (c : CDat) (S : SDat) (σ : St) : Prop := ∃ T, WfS c T ∧ RepA 120 c T σ ∧ ∀ r s, r ≠ 3 → T r s = S r s
theorem Air_of {c : CDat} {S : SDat} {σ : St} (ws : WfS c S) (ra : RepA 120 c S σ) : Air c S σ := ⟨S, ws, ra, fun _ _ _ => rfl⟩
theorem Air_cg {c : CDat} {S : SDat} {σ σ' : St} (h : Air c S σ) (e : σ'.1 120 = σ.1 120) : Air c S σ' := by
  obtain ⟨T, h1, h2, h3⟩ := h
  exact ⟨T, h1, RepA_cg h2 e, h3⟩
def S1 (p : Nat) : Prop := p = 120 ∨ p = 100 ∨ p = 102
theorem RepM_s1 {c : CDat} {σ σ' : St} (h : RepM c σ) (a : Ag S1 σ σ') : RepM c σ' := RepM_cg h (fun p hp => (a p (by unfold S1; omega)).1)
theorem s1_90 {σ σ' : St} (a : Ag S1 σ σ') : σ'.1 90 = σ.1 90 := (a 90 (by unfold S1; omega)).1
theorem s1_of {σ σ' : St} (a : Ag (fun p => p = 120) σ σ') : Ag S1 σ σ' := ag_mono a (fun p hp => Or.inl hp)
theorem s1_sm {σ σ' : St} (a : Ag Sm σ σ') : Ag S1 σ σ' := ag_mono a (fun p hp => Or.inr hp)
set_option maxHeartbeats 400000 in
theorem s_countsAlone {N t s h : Nat} {ρ : Nat → Nat → Nat} {c : CDat} {S : SDat} {σ : St} (hN : 20000 ≤ N) (hρ : ρ = RR t) (wf : WfC c) (ws : WfS c S) (rm : RepM c σ) (ra : RepA 120 c S σ) (hx : σ.1 90 27 = 0) (hs : s < ns c) (hh : h < nh c) :
    Ok (f_X12_countsAlone N ρ 90 (nI s) (nI h) σ) (fun r σ' => r = (if ca c S s h = true then 1 else 0) ∧ RepA 120 c (jst S (fun k => decide (k = s)) (h + 1)) σ' ∧ Ag S1 σ σ') := by
  have hns := wf.2.1
  unfold f_X12_countsAlone f_X12_countsAlone_22
  rw [bits_one s (by omega)]
  refine ok_call (s_sendJust (v := h + 1) hN hρ wf rm ra (by omega) (by decide) rfl) (fun _ σ1 h1 => ?_)
  have a1 := s1_of h1.2
  refine ok_call (s_fareOf (x := 0) hN hρ wf (jst_wf ws (by omega)) (RepM_s1 rm a1) h1.1 (by rw [s1_90 a1]; exact hx) hs) (fun r σ2 h2 => ?_)
  have a2 := ag_trans a1 (s1_sm h2.2)
  have ra2 := RepA_sm (Or.inr rfl) h1.1 h2.2
  have hf : fare c (jst S (fun k => decide (k = s)) (h + 1)) 0 s = if ld c S s h 1 0 ≤ nI (S 0 s) then 1 else 2 := by rw [jst_fare, if_pos (by simp), if_neg qn_one, cnt_one hs]
  rw [h2.1, hf]
  unfold ca
  by_cases hl : ld c S s h 1 0 ≤ nI (S 0 s)
  · rw [if_pos hl]
    exact ok_pos rfl (ok_gd rfl (ok_ret ⟨by simp [hl], ra2, a2⟩))
  · rw [if_neg hl]
    exact ok_neg (by decide) (ok_gd rfl (ok_ret ⟨by simp [hl], ra2, a2⟩))
theorem s_cA {N t s h : Nat} {ρ : Nat → Nat → Nat} {c : CDat} {S : SDat} {σ : St} (hN : 20000 ≤ N) (hρ : ρ = RR t) (wf : WfC c) (rm : RepM c σ) (ra : Air c S σ) (hx : σ.1 90 27 = 0) (hs : s < ns c) (hh : h < nh c) :
    Ok (f_X12_countsAlone N ρ 90 (nI s) (nI h) σ) (fun r σ' => r = (if ca c S s h = true then 1 else 0) ∧ Air c S σ' ∧ Ag S1 σ σ') := by
  obtain ⟨T, wT, rT, eT⟩ := ra
  refine ok_mono (s_countsAlone hN hρ wf wT rm rT hx hs hh) (fun r σ' hp => ⟨?_, ⟨_, jst_wf wT (by omega), hp.2.1, fun r s hr => by rw [jst_n hr]; exact eT r s hr⟩, hp.2.2⟩)
  rw [hp.1, ca_cg eT]
theorem Air_ld {N t s h : Nat} {ρ : Nat → Nat → Nat} {c : CDat} {S : SDat} {σ : St} (hN : 20000 ≤ N) (hρ : ρ = RR t) (wf : WfC c) (rm : RepM c σ) (ra : Air c S σ) (hx : σ.1 90 27 = 0) (hs : s < ns c) (hh : h < nh c) :
    Ok (f_X12_loadAt N ρ 90 (nI s) (nI h) 1 σ) (fun r σ' => r = ld c S s h 1 0 ∧ Ag Sm σ σ') := by
  obtain ⟨T, wT, rT, eT⟩ := ra
  refine ok_mono (s_loadAt (m := 1) (x := 0) hN hρ wf rm rT hx hs hh (by decide) (by decide)) (fun r σ' hp => ⟨?_, hp.2⟩)
  rw [hp.1, ld_cg (S := S) (eT 0 s (by decide)) (eT 1 s (by decide)) (eT 4 0 (by decide))]
/-- the frame aside -/
theorem ok_fr {o : Option (Int32 × St)} {v : Int32} {P : St → Prop} (m : ∀ r σ', o = some (r, σ') → P σ') (h : Ok o (fun r _ => r = v)) : Ok o (fun r σ' => r = v ∧ P σ') := ok_ag h m
def lst (f : Nat → Int32) (o : Option Nat) : Int32 := match o with
  | none => 0
  | some b => f b
set_option maxHeartbeats 800000 in
theorem api_easiest {N : Nat} (hN : 20000 ≤ N) (a1 : Int32) : Api Inv (fun ρ σ => f_X11_easiest N ρ 0 a1 σ) (fun ρ σ => f_X12_easiest N ρ 90 a1 σ) := by
  refine api_v (fun c S wf ws hd => ?_)
  have hns := wf.2.1
  have hnh := wf.1
  rcases ix_of a1 (show ns c < 2 ^ 31 by omega) with ⟨s, hs, rfl⟩ | hn
  · refine ⟨oI (bst (ca c S s) (fun h => ld c S s h 1 0) (nh c)), fun t σ ht rc rs => ?_, fun t σ rm ra hx => ?_⟩
    · refine ok_fr (fun r σ' e => by have := m_X11_easiest e; rw [r_0_2 rfl, rt8 rfl ht, rt10 rfl ht, rb1 rfl ht] at this; exact ag_mono this (fun p hp => by unfold ScX; omega)) ?_
      show Ok (f_X11_easiest N (RR t) 0 (nI s) σ) _
      unfold f_X11_easiest
      rw [r_0_2 rfl]
      refine ok_bnd (hasS_y rc.2.1 hns hs) (ok_neg (by decide) ?_)
      refine lp (F := fun n i σ' => f_X11_easiest_20 N (RR t) 0 (nI s) n (oI (bst (ca c S s) (fun h => ld c S s h 1 0) i)) (lst (fun h => ld c S s h 1 0) (bst (ca c S s) (fun h => ld c S s h 1 0) i)) (nI i) σ') (nh c) (fun _ σ' => Ag (Sc t) σ σ') ?_ ?_ N 0 σ (Nat.zero_le _) (by omega) ag_refl
      · intro n i σ1 hi ha kk
        have rc1 := RepC_sc rc ha
        have rs1 := RepS_sc ht q41 rs ha
        show Ok (b_X11_easiest_20 _ _ _ _ _ _ _ _ _) _
        unfold b_X11_easiest_20 f_X11_easiest_75 f_X11_easiest_81
        rw [r_0_2 rfl, r_0_4 rfl, rq0 rfl q41, rc1.1, nI_1 i, nI_clamp (show s < 2 ^ 31 by omega)]
        refine ok_neg (nI_ge hi (by omega)) (ok_call (s_loadC (m := 1) (x := 0) hN rfl ht q41 wf rc1 rs1 hs hi (by decide) (by decide)) (fun r σ2 h2 => ok_gd (ib_nI (by omega) (by decide)) ?_))
        have k3 := kk σ2 (ag_trans ha h2.2)
        rw [((RepS_sc ht q41 rs1 h2.2).1 s hs).1, h2.1]
        by_cases hl : ld c S s i 1 0 ≤ nI (S 0 s)
        · have hc : ca c S s i = true := by simp [ca, hl]
          refine ok_neg (i_nlt.mpr hl) ?_
          cases e : bst (ca c S s) (fun h => ld c S s h 1 0) i with
          | none =>
            rw [bst_0 hc e] at k3
            exact ok_pos rfl k3
          | some b =>
            have hb := (bst_lt e).1
            refine ok_neg (nI_nm1 (by omega)) ?_
            by_cases hw : ld c S s b 1 0 ≤ ld c S s i 1 0
            · rw [bst_1 hc e hw] at k3
              exact ok_pos hw k3
            · rw [bst_2 hc e hw] at k3
              exact ok_neg hw k3
        · refine ok_pos (i_nle.mp hl) ?_
          rw [bst_n (by simp [ca, hl])] at k3
          exact k3
      · intro n σ1 ha
        show Ok (b_X11_easiest_20 _ _ _ _ _ _ _ _ _) _
        unfold b_X11_easiest_20
        rw [r_0_2 rfl, (RepC_sc rc ha).1]
        exact ok_pos (Int32.le_refl _) (ok_ret rfl)
    · refine ok_fr (fun r σ' e => by have := m_X12_easiest e; rw [r_90_57 rfl, r_90_18 rfl, r_90_26 rfl] at this; exact ag_mono this (fun p hp => by unfold ScM; omega)) ?_
      show Ok (f_X12_easiest N (RR t) 90 (nI s) σ) _
      unfold f_X12_easiest
      refine ok_bnd (isS_y wf rm hs) (ok_neg (by decide) (m_fill hN rfl wf rm ra hx (fun _ σ0 b0 rm0 ra0 _ _ hx0 => ?_)))
      refine lp (F := fun n i σ' => f_X12_easiest_18 N (RR t) 90 (nI s) n (oI (bst (ca c S s) (fun h => ld c S s h 1 0) i)) (nI i) σ') (nh c) (fun _ σ' => RepM c σ' ∧ Air c S σ' ∧ σ'.1 90 27 = 0) ?_ ?_ N 0 σ0 (Nat.zero_le _) (by omega) ⟨rm0, Air_of ws ra0, hx0⟩
      · rintro n i σ1 hi ⟨rm1, ra1, hx1⟩ kk
        show Ok (b_X12_easiest_18 _ _ _ _ _ _ _ _) _
        unfold b_X12_easiest_18 f_X12_easiest_56 f_X12_easiest_58
        rw [rm1.1, nI_1 i]
        refine ok_neg (nI_ge hi (by omega)) (ok_call (s_cA hN rfl wf rm1 ra1 hx1 hs hi) (fun r σ2 h2 => ?_))
        obtain ⟨h21, ra2, a2⟩ := h2
        have rm2 := RepM_s1 rm1 a2
        have hx2 : σ2.1 90 27 = 0 := by rw [s1_90 a2]; exact hx1
        rw [h21]
        by_cases hc : ca c S s i = true
        · rw [if_pos hc]
          refine ok_neg (by decide) ?_
          cases e : bst (ca c S s) (fun h => ld c S s h 1 0) i with
          | none =>
            have k3 := kk σ2 ⟨rm2, ra2, hx2⟩
            rw [bst_0 hc e] at k3
            exact ok_pos (show (-1 : Int32) < 0 by decide) k3
          | some b =>
            have hb := (bst_lt e).1
            refine ok_neg (nI_pos (by omega)) (ok_call (Air_ld hN rfl wf rm2 ra2 hx2 hs hi) (fun r3 σ3 h3 => ?_))
            have rm3 := RepM_sm rm2 h3.2
            have ra3 := Air_cg ra2 (h3.2 120 (by unfold Sm; omega)).1
            have hx3 : σ3.1 90 27 = 0 := by rw [sm_90 h3.2]; exact hx2
            refine ok_call (Air_ld hN rfl wf rm3 ra3 hx3 hs (show b < nh c by omega)) (fun r4 σ4 h4 => ?_)
            have k3 := kk σ4 ⟨RepM_sm rm3 h4.2, Air_cg ra3 (h4.2 120 (by unfold Sm; omega)).1, by rw [sm_90 h4.2]; exact hx3⟩
            rw [h3.1, h4.1]
            by_cases hw : ld c S s b 1 0 ≤ ld c S s i 1 0
            · rw [bst_1 hc e hw] at k3
              exact ok_pos hw k3
            · rw [bst_2 hc e hw] at k3
              exact ok_neg hw k3
        · rw [if_neg hc]
          have k3 := kk σ2 ⟨rm2, ra2, hx2⟩
          rw [bst_n hc] at k3
          exact ok_pos rfl k3
      · rintro n σ1 ⟨rm1, ra1, hx1⟩
        show Ok (b_X12_easiest_18 _ _ _ _ _ _ _ _) _
        unfold b_X12_easiest_18
        rw [rm1.1]
        exact ok_pos (Int32.le_refl _) (ok_ret rfl)
  · refine ⟨-1, fun t σ ht rc rs => ?_, fun t σ rm ra hx => ?_⟩
    · show Ok (f_X11_easiest N (RR t) 0 a1 σ) _
      unfold f_X11_easiest
      rw [r_0_2 rfl]
      exact ok_bnd (hasS_n rc.2.1 hn) (ok_pos rfl (ok_ret ⟨rfl, ag_refl⟩))
    · show Ok (f_X12_easiest N (RR t) 90 a1 σ) _
      unfold f_X12_easiest
      exact ok_bnd (isS_n wf rm hn) (ok_pos rfl (ok_ret ⟨rfl, ag_refl⟩))
/-! where each could count alone -/
set_option maxHeartbeats 800000 in
theorem s_layCould {N t : Nat} {ρ : Nat → Nat → Nat} {c : CDat} {S : SDat} {σ : St} (hN : 20000 ≤ N) (hρ : ρ = RR t) (wf : WfC c) (ws : WfS c S) (rm : RepM c σ) (ra : RepA 119 c S σ) (hx : σ.1 90 27 = 0) :
    Ok (f_X12_layCould N ρ 90 σ) (fun _ σ' => (∀ s, s < ns c → σ'.1 127 s = bits (ca c S s) (nh c)) ∧ RepM c σ') := by
  have hns := wf.2.1
  have hnh := wf.1
  unfold f_X12_layCould
  refine m_fill hN hρ wf rm ra hx (fun _ σ0 b0 rm0 ra0 _ _ hx0 => ?_)
  refine lp (F := fun n i σ' => f_X12_layCould_6 N ρ 90 n (nI i) σ') (ns c) (fun i σ' => RepM c σ' ∧ Air c S σ' ∧ σ'.1 90 27 = 0 ∧ ∀ s, s < i → σ'.1 127 s = bits (ca c S s) (nh c)) ?_ ?_ N 0 σ0 (Nat.zero_le _) (by omega) ⟨rm0, Air_of ws ra0, hx0, fun s hs => absurd hs (by omega)⟩
  · rintro n i σ1 hi ⟨rm1, ra1, hx1, hc1⟩ kk
    show Ok (b_X12_layCould_6 _ _ _ _ _ _) _
    unfold b_X12_layCould_6
    rw [rm1.2.1, nI_clamp (show i < 2 ^ 31 by omega), r_90_67 hρ]
    refine ok_neg (nI_ge hi (by omega)) (ok_gd (ib_nI (by omega) (by decide)) (ok_sI fun σ2 n2 u2 => ?_))
    refine lp (F := fun n' j σ' => f_X12_layCould_23 N ρ 90 (f_X12_layCould_6 N ρ 90 n) n' (nI i) (nI j) σ') (nh c) (fun j σ' => RepM c σ' ∧ Air c S σ' ∧ σ'.1 90 27 = 0 ∧ (∀ s, s < i → σ'.1 127 s = bits (ca c S s) (nh c)) ∧ σ'.1 127 i = bits (ca c S i) j) ?_ ?_ N 0 σ2 (Nat.zero_le _) (by omega) ⟨RepM_cg rm1 (fun p hp => n2 p (by omega)), Air_cg ra1 (n2 120 (by decide)), by rw [n2 90 (by decide)]; exact hx1, fun s hs => by rw [u2, pk_un (by omega)]; exact hc1 s hs, by rw [u2, pk_us]; rfl⟩
    · rintro n' j σ3 hj ⟨rm3, ra3, hx3, hc3, hi3⟩ k2
      show Ok (b_X12_layCould_23 _ _ _ _ _ _ _ _) _
      unfold b_X12_layCould_23
      rw [rm3.1, nI_clamp (show i < 2 ^ 31 by omega), r_90_67 hρ, nI_1 j, hi3]
      refine ok_neg (nI_ge hj (by omega)) (ok_gd (ib_nI (by omega) (by decide)) (ok_call (s_cA hN hρ wf rm3 ra3 hx3 hi hj) (fun r σ4 h4 => ok_bnd s_truth (ok_gd (ib_nI (by omega) (by decide)) (ok_sI fun σ5 n5 u5 => ?_)))))
      obtain ⟨h41, ra4, a4⟩ := h4
      have e127 : σ4.1 127 = σ3.1 127 := (a4 127 (by unfold S1; omega)).1
      refine k2 σ5 ⟨RepM_cg (RepM_s1 rm3 a4) (fun p hp => n5 p (by omega)), Air_cg ra4 (n5 120 (by decide)), by rw [n5 90 (by decide), s1_90 a4]; exact hx3, fun s hs => by rw [u5, pk_un (by omega), e127]; exact hc3 s hs, ?_⟩
      rw [u5, pk_us, h41, ← bits_t (show j < 6 by omega)]
      by_cases hc : ca c S i j = true
      · rw [if_pos hc]; rfl
      · rw [if_neg hc]; rfl
    · rintro n' σ3 ⟨rm3, ra3, hx3, hc3, hi3⟩
      show Ok (b_X12_layCould_23 _ _ _ _ _ _ _ _) _
      unfold b_X12_layCould_23
      rw [rm3.1, nI_1 i]
      refine ok_pos (Int32.le_refl _) (kk σ3 ⟨rm3, ra3, hx3, fun s hs => ?_⟩)
      by_cases e : s = i
      · subst e; exact hi3
      · exact hc3 s (by omega)
  · rintro n σ1 ⟨rm1, ra1, hx1, hc1⟩
    show Ok (b_X12_layCould_6 _ _ _ _ _ _) _
    unfold b_X12_layCould_6
    rw [rm1.2.1]
    exact ok_pos (Int32.le_refl _) (ok_ret ⟨hc1, rm1⟩)
def al (p : Nat → Bool) : Nat → Bool
  | 0 => true
  | n + 1 => al p n && p n
theorem al_iff {p : Nat → Bool} : ∀ n, al p n = true ↔ ∀ k, k < n → p k = true
  | 0 => by simp [al]
  | n + 1 => by
    simp only [al, Bool.and_eq_true, al_iff n]
    constructor
    · rintro ⟨h1, h2⟩ k hk
      by_cases e : k = n
      · subst e; exact h2
      · exact h1 k (by omega)
    · intro h
      exact ⟨fun k hk => h k (by omega), h n (by omega)⟩
set_option maxHeartbeats 800000 in
theorem api_forlorn {N : Nat} (hN : 20000 ≤ N) : Api Inv (fun ρ σ => f_X11_forlorn N ρ 0 σ) (fun ρ σ => f_X12_forlorn N ρ 90 σ) := by
  refine api_v (fun c S wf ws hd => ⟨bits (fun h => al (fun s => !ca c S s h) (ns c)) (nh c), fun t σ ht rc rs => ?_, fun t σ rm ra hx => ?_⟩)
  · have hns := wf.2.1
    have hnh := wf.1
    refine ok_fr (fun r σ' e => by have := m_X11_forlorn e; rw [r_0_2 rfl, rt8 rfl ht, rt10 rfl ht, rb1 rfl ht] at this; exact ag_mono this (fun p hp => by unfold ScX; omega)) ?_
    refine lp (F := fun n i σ' => f_X11_forlorn_4 N (RR t) 0 n (bits (fun h => al (fun s => !ca c S s h) (ns c)) i) (nI i) σ') (nh c) (fun _ σ' => Ag (Sc t) σ σ') ?_ ?_ N 0 σ (Nat.zero_le _) (by omega) ag_refl
    · intro n i σ1 hi ha kk
      have rc1 := RepC_sc rc ha
      have rs1 := RepS_sc ht q41 rs ha
      show Ok (b_X11_forlorn_4 _ _ _ _ _ _ _) _
      unfold b_X11_forlorn_4 f_X11_forlorn_45
      rw [r_0_2 rfl, r_0_4 rfl, rc1.1, nI_1 i]
      refine ok_neg (nI_ge hi (by omega)) (ok_bnd (r := bits (fun _ => true) (ns c)) (σ := σ1) (by unfold f_X0_allStools; rw [rc1.2.1, bits_all _ (by omega)]) ?_)
      refine ok_call (s_bearing (m := 1) hN rfl ht q41 wf rc1 rs1 hi (Nat.le_refl _) (by omega) (by decide) (Or.inl (by decide))) (fun r σ2 h2 => ?_)
      have k3 := kk σ2 (ag_trans ha h2.2)
      have hq := bits_eq0 (p := fun s => true && decide (ld c S s i 1 0 ≤ nI (S 0 s))) (n := ns c) (by omega)
      rw [h2.1]
      by_cases h0 : al (fun s => !ca c S s i) (ns c) = true
      · refine ok_pos (hq.mpr (fun k hk => ?_)) (ok_nmd ?_)
        · have := (al_iff _).mp h0 k hk
          simpa [ca] using this
        · rw [bits_y (p := fun h => al (fun s => !ca c S s h) (ns c)) h0]
          exact k3
      · refine ok_neg (fun z => h0 ((al_iff _).mpr (fun k hk => ?_))) ?_
        · have := hq.mp z k hk
          simpa [ca] using this
        · rw [bits_n (p := fun h => al (fun s => !ca c S s h) (ns c)) h0]
          exact k3
    · intro n σ1 ha
      show Ok (b_X11_forlorn_4 _ _ _ _ _ _ _) _
      unfold b_X11_forlorn_4
      rw [r_0_2 rfl, (RepC_sc rc ha).1]
      exact ok_pos (Int32.le_refl _) (ok_ret rfl)
  · have hns := wf.2.1
    have hnh := wf.1
    refine ok_fr (fun r σ' e => by have := m_X12_forlorn e; rw [r_90_57 rfl, r_90_18 rfl, r_90_26 rfl, r_90_67 rfl] at this; exact ag_mono this (fun p hp => by unfold ScM; omega)) ?_
    show Ok (f_X12_forlorn N (RR t) 90 σ) _
    unfold f_X12_forlorn
    refine ok_call (s_layCould hN rfl wf ws rm ra hx) (fun _ σ1 h1 => ok_nmd ?_)
    obtain ⟨hc, rm1⟩ := h1
    rw [rm1.1, bits_all _ (by omega)]
    refine lp (β := Unit) (F := fun n i _ => f_X12_forlorn_15 N (RR t) 90 n (bits (fun h => al (fun s => !ca c S s h) i) (nh c)) (nI i) σ1) (ns c) (fun _ _ => True) ?_ ?_ N 0 () (Nat.zero_le _) (by omega) trivial
    · intro n i _ hi _ kk
      show Ok (b_X12_forlorn_15 _ _ _ _ _ _ _) _
      unfold b_X12_forlorn_15
      rw [rm1.2.1, nI_clamp (show i < 2 ^ 31 by omega), r_90_67 rfl, nI_1 i, hc i hi, bits_an (by omega) (by omega)]
      refine ok_neg (nI_ge hi (by omega)) (ok_gd (ib_nI (by omega) (by decide)) (ok_nmd ?_))
      have k3 := kk () trivial
      rw [bits_cg (p := fun h => al (fun s => !ca c S s h) (i + 1)) (q := fun k => al (fun s => !ca c S s k) i && !(decide (k < nh c) && ca c S i k)) (fun k hk => by simp [al, hk])] at k3
      exact k3
    · intro n _ _
      show Ok (b_X12_forlorn_15 _ _ _ _ _ _ _) _
      unfold b_X12_forlorn_15
      rw [rm1.2.1]
      exact ok_pos (Int32.le_refl _) (ok_ret rfl)
