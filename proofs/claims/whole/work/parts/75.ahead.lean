/-! WHAT LIES AHEAD: WILL, STRENGTH, GRACE, LASTS, SOON -/
def fs (P : Nat → Bool) : Nat → Int32
  | 0 => -1
  | k + 1 => if fs P k = -1 ∧ P k = true then nI k else fs P k
theorem fs_stop {P : Nat → Bool} {i : Nat} (h : fs P i = -1) (hp : P i = true) : ∀ k, i < k → k < 2 ^ 31 → fs P k = nI i := by
  intro k
  induction k with
  | zero => intro hk; omega
  | succ k ih =>
    intro hk hb
    by_cases e : i = k
    · subst e
      rw [fs, if_pos ⟨h, hp⟩]
    · rw [fs, ih (by omega) (by omega), if_neg (fun z => nI_nm1 (by omega) z.1)]
theorem fs_go {P : Nat → Bool} {i : Nat} (h : fs P i = -1) (hp : ¬ P i = true) : fs P (i + 1) = -1 := by
  rw [fs, if_neg (fun z => hp z.2)]
  exact h
theorem s_goEve0 {N t : Nat} {ρ : Nat → Nat → Nat} {c : CDat} {S : SDat} {σ : St} (hN : 20000 ≤ N) (hρ : ρ = RR t) (wf : WfC c) (ws : WfS c S) (rm : RepM c σ) (ra : RepA 120 c S σ) (hx : σ.1 90 27 = 0) :
    Ok (f_X12_goEvening N ρ 90 0 σ) (fun _ σ' => RepA 120 c (ev c S (fun _ => false)) σ' ∧ Ag Se σ σ') := by
  have := s_goEvening (k := fun _ => false) hN hρ wf ws rm ra hx (Nat.le_refl _) wf.1
  rw [bits_0 (fun _ _ => rfl)] at this
  exact this
theorem s_passEve0 {N t q : Nat} {ρ : Nat → Nat → Nat} {c : CDat} {S : SDat} {σ : St} (hN : 20000 ≤ N) (hρ : ρ = RR t) (ht : isT t) (hq : isQ q) (wf : WfC c) (ws : WfS c S) (rc : RepC t c σ) (rs : RepS q c S σ) :
    Ok (f_X9_passEvening N ρ q t 0 σ) (fun _ σ' => RepS q c (ev c S (fun _ => false)) σ' ∧ Ag (Sk t q) σ σ') := by
  have := s_passEvening (k := fun _ => false) hN hρ ht hq wf ws rc rs (Nat.le_refl _) wf.1
  rw [bits_0 (fun _ _ => rfl)] at this
  exact this
theorem se_90 {σ σ' : St} (a : Ag Se σ σ') : σ'.1 90 = σ.1 90 := (a 90 (by unfold Se; omega)).1
theorem RepM_se {c : CDat} {σ σ' : St} (h : RepM c σ) (a : Ag Se σ σ') : RepM c σ' := RepM_ai h (ai_of a)
def wlS (c : CDat) (S : SDat) : Nat → SDat
  | 0 => S
  | i + 1 => ev c (drS c (wlS c S i)) (cld c (wlS c S i))
def stS (c : CDat) (S : SDat) : Nat → SDat
  | 0 => S
  | i + 1 => ev c (stS c S i) (fun _ => false)
theorem drS40 {c : CDat} {S : SDat} : drS c S 4 0 = S 4 0 := pu_n (by omega)
theorem wlS_wf {c : CDat} {S : SDat} (wf : WfC c) (ws : WfS c S) (hd : S 4 0 ≤ 999) : ∀ i, i ≤ 100 → WfS c (wlS c S i) ∧ wlS c S i 4 0 = S 4 0 + i
  | 0, _ => ⟨ws, rfl⟩
  | i + 1, hi => by
    obtain ⟨h1, h2⟩ := wlS_wf wf ws hd i (by omega)
    refine ⟨ev_wf wf (drS_wf h1) (by rw [drS40]; omega), ?_⟩
    show drS c (wlS c S i) 4 0 + 1 = _
    rw [drS40]
    omega
theorem stS_wf {c : CDat} {S : SDat} (wf : WfC c) (ws : WfS c S) (hd : S 4 0 ≤ 999) : ∀ i, i ≤ 100 → WfS c (stS c S i) ∧ stS c S i 4 0 = S 4 0 + i
  | 0, _ => ⟨ws, rfl⟩
  | i + 1, hi => by
    obtain ⟨h1, h2⟩ := stS_wf wf ws hd i (by omega)
    refine ⟨ev_wf wf h1 (by omega), ?_⟩
    show stS c S i 4 0 + 1 = _
    omega
theorem isAhead_y {N t k : Nat} {σ : St} (h : k ≤ 60) : f_X11_isAhead N (RR t) 0 (nI k) σ = some (1, σ) := by
  unfold f_X11_isAhead f_X11_isAhead_15
  rw [if_neg (nI_pos (by omega)), if_neg (show ¬ (60 : Int32) < nI k from show ¬ nI 60 < nI k from nI_nlt h (by decide))]
  rfl
theorem isAhead_n {N t : Nat} {x : Int32} {σ : St} (h : x < 0 ∨ nI 61 ≤ x) : f_X11_isAhead N (RR t) 0 x σ = some (0, σ) := by
  unfold f_X11_isAhead f_X11_isAhead_14 f_X11_isAhead_15
  by_cases h0 : x < 0
  · rw [if_pos h0]; rfl
  · rw [if_neg h0, if_pos (show (60 : Int32) < x from i_nle.mp (nI_gap (k := 60) (by decide) (h.resolve_left h0)))]; rfl
theorem copyA {N t : Nat} {c : CDat} {S : SDat} {σ : St} {k : Int32 → St → Option (Int32 × St)} {Q : Int32 → St → Prop} (ht : isT t) (wf : WfC c) (rc : RepC t c σ) (rs : RepS 41 c S σ) (h : ∀ r σ', RepC t c σ' → RepS 46 c S σ' → Ok (k r σ') Q) : Ok (bnd (f_X9_copy N (RR t) 46 41 σ) k) Q := by
  have tl := isT_le ht
  exact ok_call (s_copy rfl q41 q46 (Or.inr (by decide)) wf rs) (fun r σ1 h1 => h r σ1 (RepC_cg rc (fun p h2 h3 _ => (h1.2 p (by omega)).1)) h1.1)
theorem frA {t : Nat} {σ σ' : St} (ht : isT t) (a : Ag (fun p => p = 46 ∨ p = t + 15 ∨ p = t + 11 ∨ p = t + 14 ∨ p = 49 ∨ p = 48 ∨ p = 47 ∨ p = 50) σ σ') : Ag (ScX t) σ σ' := ag_mono a (fun p hp => by unfold ScX; omega)
set_option maxHeartbeats 800000 in
theorem api_will {N : Nat} (hN : 20000 ≤ N) (a1 a2 : Int32) : Api Inv (fun ρ σ => f_X11_will N ρ 0 a1 a2 σ) (fun ρ σ => f_X12_will N ρ 90 a1 a2 σ) := by
  refine api_v (fun c S wf ws hd => ?_)
  have hns := wf.2.1
  have hnh := wf.1
  rcases ix_of a1 (show ns c < 2 ^ 31 by omega) with ⟨s, hs, rfl⟩ | hn
  · rcases ix_of a2 (show 61 < 2 ^ 31 by decide) with ⟨k, hk, rfl⟩ | hn2
    · refine ⟨nI (wlS c S k 2 s), fun t σ ht rc rs => ?_, fun t σ rm ra hx => ?_⟩
      · refine ok_fr (fun r σ' e => by have := m_X11_will e; rw [r_0_2 rfl, r_0_5 rfl, rq0 rfl q46, rq1 rfl q46, rq2 rfl q46, rq3 rfl q46, rt8 rfl ht, rt9 rfl ht, rt10 rfl ht, rb1 rfl ht, rw1 rfl ht] at this; exact frA ht this) ?_
        show Ok (f_X11_will N (RR t) 0 (nI s) (nI k) σ) _
        unfold f_X11_will
        rw [r_0_2 rfl, r_0_4 rfl, r_0_5 rfl]
        refine ok_bnd (hasS_y rc.2.1 hns hs) (ok_neg (by decide) (ok_bnd (isAhead_y (by omega)) (ok_neg (by decide) (copyA ht wf rc rs (fun _ σ1 rc1 rs1 => ?_)))))
        refine lp (F := fun n i σ' => f_X11_will_34 N (RR t) 0 (nI s) (nI k) n (nI i) σ') k (fun i σ' => RepC t c σ' ∧ RepS 46 c (wlS c S i) σ') ?_ ?_ N 0 σ1 (Nat.zero_le _) (by omega) ⟨rc1, rs1⟩
        · rintro n i σ2 hi ⟨rc2, rs2⟩ kk
          have w2 := (wlS_wf wf ws hd i (by omega)).1
          show Ok (b_X11_will_34 _ _ _ _ _ _ _ _) _
          unfold b_X11_will_34
          rw [r_0_2 rfl, r_0_5 rfl, nI_1 i]
          refine ok_neg (nI_ge hi (by omega)) (ok_call (s_drawCold hN ht q46 wf w2 rc2 rs2) (fun r σ3 h3 => ?_))
          have rc3 := RepC_sk ht q46 rc2 h3.2
          rw [h3.1.1]
          refine ok_call (s_passEvening hN rfl ht q46 wf (drS_wf w2) rc3 h3.1.2 (Nat.le_refl _) hnh) (fun _ σ4 h4 => ?_)
          exact kk σ4 ⟨RepC_sk ht q46 rc3 h4.2, h4.1⟩
        · rintro n σ2 ⟨rc2, rs2⟩
          show Ok (b_X11_will_34 _ _ _ _ _ _ _ _) _
          unfold b_X11_will_34
          rw [r_0_5 rfl, rq2 rfl q46, nI_clamp (show s < 2 ^ 31 by omega)]
          exact ok_pos (Int32.le_refl _) (ok_gd (ib_nI (by omega) (by decide)) (ok_ret (rs2.1 s hs).2.2.1))
      · refine ok_fr (fun r σ' e => by have := m_X12_will e; rw [r_90_57 rfl, r_90_58 rfl, r_90_59 rfl, r_90_60 rfl, r_90_18 rfl, r_90_26 rfl] at this; exact ag_mono this (fun p hp => by unfold ScM; omega)) ?_
        show Ok (f_X12_will N (RR t) 90 (nI s) (nI k) σ) _
        unfold f_X12_will
        refine ok_bnd (isS_y wf rm hs) (ok_neg (by decide) (ok_bnd (isIn_y (n := 61) (by decide) hk) (ok_neg (by decide) (m_fill hN rfl wf rm ra hx (fun _ σ1 b1 rm1 ra1 _ _ hx1 => ?_)))))
        refine lp (F := fun n i σ' => f_X12_will_26 N (RR t) 90 (nI s) (nI k) n (nI i) σ') k (fun i σ' => RepM c σ' ∧ RepA 120 c (wlS c S i) σ' ∧ σ'.1 90 27 = 0) ?_ ?_ N 0 σ1 (Nat.zero_le _) (by omega) ⟨rm1, ra1, hx1⟩
        · rintro n i σ2 hi ⟨rm2, ra2, hx2⟩ kk
          have w2 := (wlS_wf wf ws hd i (by omega)).1
          show Ok (b_X12_will_26 _ _ _ _ _ _ _ _) _
          unfold b_X12_will_26
          rw [nI_1 i]
          refine ok_neg (nI_ge hi (by omega)) (ok_call (s_drawColdM hN rfl wf w2 rm2 ra2) (fun r σ3 h3 => ?_))
          have rm3 := RepM_se rm2 h3.2
          have hx3 : σ3.1 90 27 = 0 := by rw [se_90 h3.2]; exact hx2
          rw [h3.1.1]
          refine ok_call (s_goEvening hN rfl wf (drS_wf w2) rm3 h3.1.2 hx3 (Nat.le_refl _) hnh) (fun _ σ4 h4 => ?_)
          exact kk σ4 ⟨RepM_se rm3 h4.2, h4.1, by rw [se_90 h4.2]; exact hx3⟩
        · rintro n σ2 ⟨rm2, ra2, hx2⟩
          show Ok (b_X12_will_26 _ _ _ _ _ _ _ _) _
          unfold b_X12_will_26
          rw [r_90_57 rfl, n10, nI_clamp (show 10 + s < 2 ^ 31 by omega)]
          exact ok_pos (Int32.le_refl _) (ok_gd (ib_nI (by omega) (by decide)) (ok_ret (ra2.1 s hs).2.2.1))
    · refine ⟨-1, fun t σ ht rc rs => ?_, fun t σ rm ra hx => ?_⟩
      · show Ok (f_X11_will N (RR t) 0 (nI s) a2 σ) _
        unfold f_X11_will f_X11_will_19
        rw [r_0_2 rfl]
        exact ok_bnd (hasS_y rc.2.1 hns hs) (ok_neg (by decide) (ok_bnd (isAhead_n hn2) (ok_pos rfl (ok_ret ⟨rfl, ag_refl⟩))))
      · show Ok (f_X12_will N (RR t) 90 (nI s) a2 σ) _
        unfold f_X12_will f_X12_will_18
        exact ok_bnd (isS_y wf rm hs) (ok_neg (by decide) (ok_bnd (isIn_n (n := 61) (by decide) hn2) (ok_pos rfl (ok_ret ⟨rfl, ag_refl⟩))))
  · refine ⟨-1, fun t σ ht rc rs => ?_, fun t σ rm ra hx => ?_⟩
    · show Ok (f_X11_will N (RR t) 0 a1 a2 σ) _
      unfold f_X11_will f_X11_will_19
      rw [r_0_2 rfl]
      exact ok_bnd (hasS_n rc.2.1 hn) (ok_pos rfl (ok_ret ⟨rfl, ag_refl⟩))
    · show Ok (f_X12_will N (RR t) 90 a1 a2 σ) _
      unfold f_X12_will f_X12_will_18
      exact ok_bnd (isS_n wf rm hn) (ok_pos rfl (ok_ret ⟨rfl, ag_refl⟩))
set_option maxHeartbeats 800000 in
theorem api_strength {N : Nat} (hN : 20000 ≤ N) (a1 a2 : Int32) : Api Inv (fun ρ σ => f_X11_strength N ρ 0 a1 a2 σ) (fun ρ σ => f_X12_strength N ρ 90 a1 a2 σ) := by
  refine api_v (fun c S wf ws hd => ?_)
  have hns := wf.2.1
  have hnh := wf.1
  rcases ix_of a1 (show ns c < 2 ^ 31 by omega) with ⟨s, hs, rfl⟩ | hn
  · rcases ix_of a2 (show 61 < 2 ^ 31 by decide) with ⟨k, hk, rfl⟩ | hn2
    · refine ⟨nI (stS c S k 0 s), fun t σ ht rc rs => ?_, fun t σ rm ra hx => ?_⟩
      · refine ok_fr (fun r σ' e => by have := m_X11_strength e; rw [r_0_2 rfl, r_0_5 rfl, rq0 rfl q46, rq1 rfl q46, rq2 rfl q46, rq3 rfl q46, rt8 rfl ht, rt9 rfl ht, rt10 rfl ht, rb1 rfl ht, rw1 rfl ht] at this; exact frA ht this) ?_
        show Ok (f_X11_strength N (RR t) 0 (nI s) (nI k) σ) _
        unfold f_X11_strength
        rw [r_0_2 rfl, r_0_4 rfl, r_0_5 rfl]
        refine ok_bnd (hasS_y rc.2.1 hns hs) (ok_neg (by decide) (ok_bnd (isAhead_y (by omega)) (ok_neg (by decide) (copyA ht wf rc rs (fun _ σ1 rc1 rs1 => ?_)))))
        refine lp (F := fun n i σ' => f_X11_strength_34 N (RR t) 0 (nI s) (nI k) n (nI i) σ') k (fun i σ' => RepC t c σ' ∧ RepS 46 c (stS c S i) σ') ?_ ?_ N 0 σ1 (Nat.zero_le _) (by omega) ⟨rc1, rs1⟩
        · rintro n i σ2 hi ⟨rc2, rs2⟩ kk
          have w2 := (stS_wf wf ws hd i (by omega)).1
          show Ok (b_X11_strength_34 _ _ _ _ _ _ _ _) _
          unfold b_X11_strength_34
          rw [r_0_2 rfl, r_0_5 rfl, nI_1 i]
          refine ok_neg (nI_ge hi (by omega)) (ok_call (s_passEve0 hN rfl ht q46 wf w2 rc2 rs2) (fun _ σ4 h4 => ?_))
          exact kk σ4 ⟨RepC_sk ht q46 rc2 h4.2, h4.1⟩
        · rintro n σ2 ⟨rc2, rs2⟩
          show Ok (b_X11_strength_34 _ _ _ _ _ _ _ _) _
          unfold b_X11_strength_34
          rw [r_0_5 rfl, rq0 rfl q46, nI_clamp (show s < 2 ^ 31 by omega)]
          exact ok_pos (Int32.le_refl _) (ok_gd (ib_nI (by omega) (by decide)) (ok_ret (rs2.1 s hs).1))
      · refine ok_fr (fun r σ' e => by have := m_X12_strength e; rw [r_90_57 rfl, r_90_58 rfl, r_90_59 rfl, r_90_60 rfl, r_90_18 rfl, r_90_26 rfl] at this; exact ag_mono this (fun p hp => by unfold ScM; omega)) ?_
        show Ok (f_X12_strength N (RR t) 90 (nI s) (nI k) σ) _
        unfold f_X12_strength
        refine ok_bnd (isS_y wf rm hs) (ok_neg (by decide) (ok_bnd (isIn_y (n := 61) (by decide) hk) (ok_neg (by decide) (m_fill hN rfl wf rm ra hx (fun _ σ1 b1 rm1 ra1 _ _ hx1 => ?_)))))
        refine lp (F := fun n i σ' => f_X12_strength_26 N (RR t) 90 (nI s) (nI k) n (nI i) σ') k (fun i σ' => RepM c σ' ∧ RepA 120 c (stS c S i) σ' ∧ σ'.1 90 27 = 0) ?_ ?_ N 0 σ1 (Nat.zero_le _) (by omega) ⟨rm1, ra1, hx1⟩
        · rintro n i σ2 hi ⟨rm2, ra2, hx2⟩ kk
          have w2 := (stS_wf wf ws hd i (by omega)).1
          show Ok (b_X12_strength_26 _ _ _ _ _ _ _ _) _
          unfold b_X12_strength_26
          rw [nI_1 i]
          refine ok_neg (nI_ge hi (by omega)) (ok_call (s_goEve0 hN rfl wf w2 rm2 ra2 hx2) (fun _ σ4 h4 => ?_))
          exact kk σ4 ⟨RepM_se rm2 h4.2, h4.1, by rw [se_90 h4.2]; exact hx2⟩
        · rintro n σ2 ⟨rm2, ra2, hx2⟩
          show Ok (b_X12_strength_26 _ _ _ _ _ _ _ _) _
          unfold b_X12_strength_26
          rw [r_90_57 rfl, nI_clamp (show s < 2 ^ 31 by omega)]
          exact ok_pos (Int32.le_refl _) (ok_gd (ib_nI (by omega) (by decide)) (ok_ret (ra2.1 s hs).1))
    · refine ⟨-1, fun t σ ht rc rs => ?_, fun t σ rm ra hx => ?_⟩
      · show Ok (f_X11_strength N (RR t) 0 (nI s) a2 σ) _
        unfold f_X11_strength f_X11_strength_19
        rw [r_0_2 rfl]
        exact ok_bnd (hasS_y rc.2.1 hns hs) (ok_neg (by decide) (ok_bnd (isAhead_n hn2) (ok_pos rfl (ok_ret ⟨rfl, ag_refl⟩))))
      · show Ok (f_X12_strength N (RR t) 90 (nI s) a2 σ) _
        unfold f_X12_strength f_X12_strength_18
        exact ok_bnd (isS_y wf rm hs) (ok_neg (by decide) (ok_bnd (isIn_n (n := 61) (by decide) hn2) (ok_pos rfl (ok_ret ⟨rfl, ag_refl⟩))))
  · refine ⟨-1, fun t σ ht rc rs => ?_, fun t σ rm ra hx => ?_⟩
    · show Ok (f_X11_strength N (RR t) 0 a1 a2 σ) _
      unfold f_X11_strength f_X11_strength_19
      rw [r_0_2 rfl]
      exact ok_bnd (hasS_n rc.2.1 hn) (ok_pos rfl (ok_ret ⟨rfl, ag_refl⟩))
    · show Ok (f_X12_strength N (RR t) 90 a1 a2 σ) _
      unfold f_X12_strength f_X12_strength_18
      exact ok_bnd (isS_n wf rm hn) (ok_pos rfl (ok_ret ⟨rfl, ag_refl⟩))
theorem cnt_all {p : Nat → Bool} : ∀ n, cnt p n = n ↔ ∀ k, k < n → p k = true
  | 0 => by simp [cnt]
  | n + 1 => by
    have h1 := cnt_le p n
    have ih := cnt_all (p := p) n
    rw [cnt_s]
    constructor
    · intro h k hk
      by_cases hp : p n = true
      · rw [if_pos hp] at h
        by_cases e : k = n
        · subst e; exact hp
        · exact ih.mp (by omega) k (by omega)
      · rw [if_neg hp] at h
        omega
    · intro h
      rw [if_pos (h n (by omega)), ih.mpr (fun k hk => h k (by omega))]
theorem bits_allI {p : Nat → Bool} {n : Nat} (hn : n ≤ 6) : bits p n = bits (fun _ => true) n ↔ al p n = true := by
  rw [al_iff]
  exact ⟨fun h => bits_inj hn h, fun h => bits_cg (fun k hk => h k hk)⟩
theorem cnt_allI {p : Nat → Bool} {n : Nat} : cnt p n = n ↔ al p n = true := by
  rw [al_iff]
  exact cnt_all n
theorem n60 {i : Nat} (h : i < 61) : ¬ (60 : Int32) < nI i := show ¬ nI 60 < nI i from nI_nlt (by omega) (by decide)
set_option maxHeartbeats 800000 in
theorem api_grace {N : Nat} (hN : 20000 ≤ N) : Api Inv (fun ρ σ => f_X11_grace N ρ 0 σ) (fun ρ σ => f_X12_grace N ρ 90 σ) := by
  refine api_v (fun c S wf ws hd => ⟨fs (fun i => al (svd c (stS c S i)) (ns c)) 61, fun t σ ht rc rs => ?_, fun t σ rm ra hx => ?_⟩)
  · have hns := wf.2.1
    have hnh := wf.1
    refine ok_fr (fun r σ' e => by have := m_X11_grace e; rw [r_0_2 rfl, r_0_5 rfl, rq0 rfl q46, rq1 rfl q46, rq2 rfl q46, rq3 rfl q46, rt8 rfl ht, rt9 rfl ht, rt10 rfl ht, rb1 rfl ht, rw1 rfl ht] at this; exact frA ht this) ?_
    show Ok (f_X11_grace N (RR t) 0 σ) _
    unfold f_X11_grace
    rw [r_0_4 rfl, r_0_5 rfl]
    refine copyA ht wf rc rs (fun _ σ1 rc1 rs1 => ?_)
    refine lp (F := fun n i σ' => f_X11_grace_13 N (RR t) 0 n (nI i) σ') 61 (fun i σ' => fs (fun i => al (svd c (stS c S i)) (ns c)) i = -1 ∧ RepC t c σ' ∧ RepS 46 c (stS c S i) σ') ?_ ?_ N 0 σ1 (Nat.zero_le _) (by omega) ⟨rfl, rc1, rs1⟩
    · rintro n i σ2 hi ⟨hf, rc2, rs2⟩ kk
      have w2 := (stS_wf wf ws hd i (by omega)).1
      show Ok (b_X11_grace_13 _ _ _ _ _ _) _
      unfold b_X11_grace_13
      rw [r_0_2 rfl, r_0_5 rfl, nI_1 i]
      refine ok_neg (n60 hi) (ok_bnd (s_savedBits hN rfl q46 wf w2 rc2 rs2) (ok_bnd (r := bits (fun _ => true) (ns c)) (σ := σ2) (by unfold f_X0_allStools; rw [rc2.2.1, bits_all _ (by omega)]) ?_))
      by_cases h : al (svd c (stS c S i)) (ns c) = true
      · exact ok_pos ((bits_allI (by omega)).mpr h) (ok_ret (fs_stop hf h 61 hi (by decide)).symm)
      · refine ok_neg (fun z => h ((bits_allI (by omega)).mp z)) (ok_call (s_passEve0 hN rfl ht q46 wf w2 rc2 rs2) (fun _ σ4 h4 => ?_))
        exact kk σ4 ⟨fs_go hf h, RepC_sk ht q46 rc2 h4.2, h4.1⟩
    · rintro n σ2 ⟨hf, rc2, rs2⟩
      show Ok (b_X11_grace_13 _ _ _ _ _ _) _
      unfold b_X11_grace_13
      exact ok_pos (show (60 : Int32) < nI 61 by decide) (ok_ret hf.symm)
  · have hns := wf.2.1
    have hnh := wf.1
    refine ok_fr (fun r σ' e => by have := m_X12_grace e; rw [r_90_57 rfl, r_90_58 rfl, r_90_59 rfl, r_90_60 rfl, r_90_18 rfl, r_90_26 rfl] at this; exact ag_mono this (fun p hp => by unfold ScM; omega)) ?_
    show Ok (f_X12_grace N (RR t) 90 σ) _
    unfold f_X12_grace
    refine m_fill hN rfl wf rm ra hx (fun _ σ1 b1 rm1 ra1 _ _ hx1 => ?_)
    refine lp (F := fun n i σ' => f_X12_grace_6 N (RR t) 90 n (nI i) σ') 61 (fun i σ' => fs (fun i => al (svd c (stS c S i)) (ns c)) i = -1 ∧ RepM c σ' ∧ RepA 120 c (stS c S i) σ' ∧ σ'.1 90 27 = 0) ?_ ?_ N 0 σ1 (Nat.zero_le _) (by omega) ⟨rfl, rm1, ra1, hx1⟩
    · rintro n i σ2 hi ⟨hf, rm2, ra2, hx2⟩ kk
      have w2 := (stS_wf wf ws hd i (by omega)).1
      have cl := cnt_le (svd c (stS c S i)) (ns c)
      show Ok (b_X12_grace_6 _ _ _ _ _ _) _
      unfold b_X12_grace_6
      rw [nI_1 i]
      refine ok_neg (n60 hi) (ok_bnd (s_savedOnes hN rfl wf w2 rm2 ra2) (ok_bnd (s_members hN (by omega)) ?_))
      rw [rm2.2.1]
      by_cases h : al (svd c (stS c S i)) (ns c) = true
      · exact ok_pos (by rw [cnt_allI.mpr h]) (ok_ret (fs_stop hf h 61 hi (by decide)).symm)
      · refine ok_neg (fun z => h (cnt_allI.mp ((nI_eq (by omega) (by omega)).mp z))) (ok_call (s_goEve0 hN rfl wf w2 rm2 ra2 hx2) (fun _ σ4 h4 => ?_))
        exact kk σ4 ⟨fs_go hf h, RepM_se rm2 h4.2, h4.1, by rw [se_90 h4.2]; exact hx2⟩
    · rintro n σ2 ⟨hf, rm2, ra2, hx2⟩
      show Ok (b_X12_grace_6 _ _ _ _ _ _) _
      unfold b_X12_grace_6
      exact ok_pos (show (60 : Int32) < nI 61 by decide) (ok_ret hf.symm)
/-- one alone at a hearth -/
theorem kn_o {c : CDat} {T : SDat} {s h m r k : Nat} (hk : ¬ (r < 3 ∧ k = s)) : kn c T s h m r k = T r k := by
  unfold kn
  split
  · rw [pu_n (by omega), pu_n (by omega), pu_n (by omega)]
  · rw [pu_n (by omega)]
theorem kn_0 {c : CDat} {T : SDat} {s h m : Nat} : kn c T s h m 0 s = if ld c T s h m 0 ≤ nI (T 0 s) then T 0 s - (wr c T s h m).toNatClampNeg else T 0 s / 2 := by
  unfold kn
  split
  · rw [pu_s]
  · rw [pu_s]
theorem kn_1 {c : CDat} {T : SDat} {s h m : Nat} : kn c T s h m 1 s = if ld c T s h m 0 ≤ nI (T 0 s) then min 99 (T 1 s + (ld c T s h m 0).toNatClampNeg / 5) else T 1 s := by
  unfold kn
  split
  · rw [pu_n (by omega), pu_s]
  · rw [pu_n (by omega)]
theorem kn_2 {c : CDat} {T : SDat} {s h m : Nat} : kn c T s h m 2 s = if ld c T s h m 0 ≤ nI (T 0 s) then min 99 (T 2 s + 1) else T 2 s := by
  unfold kn
  split
  · rw [pu_n (by omega), pu_n (by omega), pu_s]
  · rw [pu_n (by omega)]
theorem kn_cg {c : CDat} {T U : SDat} {s h m : Nat} (h0 : T 0 s = U 0 s) (h1 : T 1 s = U 1 s) (h2 : T 2 s = U 2 s) (h4 : T 4 0 = U 4 0) : ∀ r, r < 3 → kn c T s h m r s = kn c U s h m r s := by
  intro r hr
  rcases (show r = 0 ∨ r = 1 ∨ r = 2 by omega) with rfl | rfl | rfl
  · rw [kn_0, kn_0, ld_cg h0 h1 h4, wr_cg h0 h1 h4, h0]
  · rw [kn_1, kn_1, ld_cg h0 h1 h4, h0, h1]
  · rw [kn_2, kn_2, ld_cg h0 h1 h4, h0, h2]
theorem kn_wf {c : CDat} {T : SDat} {s h m : Nat} (ws : WfS c T) : WfS c (kn c T s h m) := by
  refine ⟨fun k hk => ?_, by rw [kn_o (by omega)]; exact ws.2.1, by rw [kn_o (by omega)]; exact ws.2.2⟩
  have hw := ws.1 k hk
  rw [kn_o (r := 3) (by omega)]
  by_cases e : k = s
  · subst e
    rw [kn_0, kn_1, kn_2]
    by_cases hl : ld c T k h m 0 ≤ nI (T 0 k)
    · rw [if_pos hl, if_pos hl, if_pos hl]
      omega
    · rw [if_neg hl, if_neg hl, if_neg hl]
      omega
  · rw [kn_o (by omega), kn_o (by omega), kn_o (by omega)]
    exact hw
def itk (c : CDat) (S : SDat) (s h : Nat) : Nat → SDat
  | 0 => S
  | i + 1 => pu (kn c (itk c S s h i) s h 1) 4 0 (itk c S s h i 4 0 + 1)
theorem itk_wf {c : CDat} {S : SDat} {s h : Nat} (ws : WfS c S) (hd : S 4 0 ≤ 999) : ∀ i, i ≤ 100 → WfS c (itk c S s h i) ∧ itk c S s h i 4 0 = S 4 0 + i
  | 0, _ => ⟨ws, rfl⟩
  | i + 1, hi => by
    obtain ⟨h1, h2⟩ := itk_wf (s := s) (h := h) ws hd i (by omega)
    have h3 := kn_wf (s := s) (h := h) (m := 1) h1
    refine ⟨⟨fun k hk => ?_, ?_, ?_⟩, ?_⟩
    · rw [itk, pu_n (by omega), pu_n (by omega), pu_n (by omega), pu_n (by omega)]
      exact h3.1 k hk
    · rw [itk, pu_s]; omega
    · rw [itk, pu_n (by omega)]; exact h3.2.2
    · rw [itk, pu_s]; omega
def Alo (c : CDat) (S : SDat) (s h i : Nat) (U : SDat) : Prop := WfS c U ∧ (∀ r, r < 3 → U r s = itk c S s h i r s) ∧ U 4 0 = itk c S s h i 4 0
theorem Alo_j {c : CDat} {S U : SDat} {s h i : Nat} (a : Alo c S s h i U) (hh : h < nh c) : Alo c S s h i (jst U (fun k => decide (k = s)) (h + 1)) := by
  obtain ⟨h1, h2, h3⟩ := a
  exact ⟨jst_wf h1 (by omega), fun r hr => by rw [jst_n (by omega)]; exact h2 r hr, by rw [jst_n (by omega)]; exact h3⟩
theorem Alo_ev {c : CDat} {S U : SDat} {s h i : Nat} (wf : WfC c) (ws : WfS c S) (hd : S 4 0 ≤ 999) (hi : i ≤ 90) (hs : s < ns c) (a : Alo c S s h i U) (h3 : ∀ k, U 3 k = if decide (k = s) = true then h + 1 else 0) : Alo c S s h (i + 1) (ev c U (fun _ => false)) := by
  obtain ⟨a1, a2, a3⟩ := a
  have hw := itk_wf (s := s) (h := h) ws hd i (by omega)
  have eat : atH U h = fun k => decide (k = s) := by
    funext k
    unfold atH
    rw [h3 k]
    by_cases e : k = s <;> simp [e]
  have em : mny c U h = 1 := by unfold mny; rw [eat]; exact cnt_one hs
  have eq : ¬ qrl c U h = true := by unfold qrl; rw [eat]; exact qn_one
  have e3 : U 3 s = h + 1 := by rw [h3 s]; simp
  have hk := Tm_kn (k := fun _ => false) e3 rfl eq
  rw [em] at hk
  refine ⟨ev_wf wf a1 (by omega), fun r hr => ?_, ?_⟩
  · have e1 : ev c U (fun _ => false) r s = Tm c U (fun _ => false) (s + 1) r s := by simp [Tm, hr]
    rw [e1, ← hk, itk, pu_n (by omega)]
    exact kn_cg (by rw [Tm_i]; exact a2 0 (by decide)) (by rw [Tm_i]; exact a2 1 (by decide)) (by rw [Tm_i]; exact a2 2 (by decide)) (by rw [Tm4]; exact a3) r hr
  · rw [ev40, itk, pu_s, a3]
theorem Alo_ca {c : CDat} {S U : SDat} {s h i : Nat} (a : Alo c S s h i U) : ca c U s h = ca c (itk c S s h i) s h := by
  unfold ca
  rw [ld_cg (S := itk c S s h i) (a.2.1 0 (by decide)) (a.2.1 1 (by decide)) a.2.2, a.2.1 0 (by decide)]
theorem Alo_svd {c : CDat} {S U : SDat} {s h i : Nat} (a : Alo c S s h i U) : svd c U s = svd c (itk c S s h i) s := by
  unfold svd
  rw [a.2.1 2 (by decide)]
/-- the class's step -/
theorem s_kneelA {N t s h i : Nat} {c : CDat} {S : SDat} {σ : St} (hN : 20000 ≤ N) (ht : isT t) (wf : WfC c) (ws : WfS c S) (hd : S 4 0 ≤ 999) (hi : i ≤ 90) (hs : s < ns c) (hh : h < nh c) (rc : RepC t c σ) (rs : RepS 46 c (itk c S s h i) σ) :
    Ok (f_X9_kneel N (RR t) 46 t (nI s) (nI h) 1 σ) (fun r σ' => r = (if ca c (itk c S s h i) s h = true then 1 else 0) ∧ RepC t c σ' ∧ RepS 46 c (kn c (itk c S s h i) s h 1) σ') := by
  have hw := itk_wf (s := s) (h := h) ws hd i (by omega)
  have b := hw.1.1 s hs
  have b2 := wf.2.2.2.1 s hs
  refine ok_mono (s_kneel (m := 1) hN rfl ht q46 wf (by omega) (by omega) (by omega) rc rs hs hh (by decide) (by decide)) (fun r σ' hp => ⟨?_, RepC_sk ht q46 rc hp.2, hp.1.2⟩)
  rw [hp.1.1]
  unfold ca
  by_cases hl : ld c (itk c S s h i) s h 1 0 ≤ nI (itk c S s h i 0 s) <;> simp [hl]
theorem s_dayA {t s h i : Nat} {c : CDat} {S : SDat} {σ : St} {n : Nat} {Q : Int32 → St → Prop} {F : St → Option (Int32 × St)} (ht : isT t) (rc : RepC t c σ) (rs : RepS 46 c (kn c (itk c S s h i) s h 1) σ) (k : ∀ σ', RepC t c σ' → RepS 46 c (itk c S s h (i + 1)) σ' → Ok (F σ') Q) : Ok (nmd (sI σ 46 4 (σ.1 46 4 + 1)) F) Q := by
  have tl := isT_le ht
  refine ok_sI fun σ2 n2 u2 => k σ2 (RepC_cg rc (fun p _ _ _ => n2 p (by omega))) ?_
  exact RepS_w4 (j := 0) (v := itk c S s h i 4 0 + 1) rs (by decide) n2 u2 (by rw [rs.2.2.1, kn_o (by omega), nI_1])
set_option maxHeartbeats 800000 in
theorem api_lasts {N : Nat} (hN : 20000 ≤ N) (a1 a2 : Int32) : Api Inv (fun ρ σ => f_X11_lasts N ρ 0 a1 a2 σ) (fun ρ σ => f_X12_lasts N ρ 90 a1 a2 σ) := by
  refine api_v (fun c S wf ws hd => ?_)
  have hns := wf.2.1
  have hnh := wf.1
  rcases ix_of a1 (show ns c < 2 ^ 31 by omega) with ⟨s, hs, rfl⟩ | hn
  · rcases ix_of a2 (show nh c < 2 ^ 31 by omega) with ⟨h, hh, rfl⟩ | hn2
    · refine ⟨fs (fun i => !ca c (itk c S s h i) s h) 61, fun t σ ht rc rs => ?_, fun t σ rm ra hx => ?_⟩
      · refine ok_fr (fun r σ' e => by have := m_X11_lasts e; rw [r_0_2 rfl, r_0_5 rfl, rq0 rfl q46, rq1 rfl q46, rq2 rfl q46, rq3 rfl q46, rt8 rfl ht, rt9 rfl ht, rt10 rfl ht, rb1 rfl ht, rw1 rfl ht] at this; exact frA ht (ag_mono this (fun p hp => by omega))) ?_
        show Ok (f_X11_lasts N (RR t) 0 (nI s) (nI h) σ) _
        unfold f_X11_lasts
        rw [r_0_2 rfl, r_0_4 rfl, r_0_5 rfl]
        refine ok_bnd (hasS_y rc.2.1 hns hs) (ok_neg (by decide) (ok_bnd (hasH_y rc.1 hnh hh) (ok_neg (by decide) (copyA ht wf rc rs (fun _ σ1 rc1 rs1 => ?_)))))
        refine lp (F := fun n i σ' => f_X11_lasts_37 N (RR t) 0 (nI s) (nI h) n (nI i) σ') 61 (fun i σ' => fs (fun i => !ca c (itk c S s h i) s h) i = -1 ∧ RepC t c σ' ∧ RepS 46 c (itk c S s h i) σ') ?_ ?_ N 0 σ1 (Nat.zero_le _) (by omega) ⟨rfl, rc1, rs1⟩
        · rintro n i σ2 hi ⟨hf, rc2, rs2⟩ kk
          show Ok (b_X11_lasts_37 _ _ _ _ _ _ _ _) _
          unfold b_X11_lasts_37
          rw [r_0_2 rfl, r_0_5 rfl, nI_1 i]
          refine ok_neg (n60 hi) (ok_call (s_kneelA hN ht wf ws hd (by omega) hs hh rc2 rs2) (fun r σ3 h3 => ?_))
          obtain ⟨h31, rc3, rs3⟩ := h3
          rw [h31]
          by_cases h : ca c (itk c S s h i) s h = true
          · rw [if_pos h]
            exact ok_neg (by decide) (s_dayA (n := n) ht rc3 rs3 (fun σ4 rc4 rs4 => kk σ4 ⟨fs_go hf (by simp [h]), rc4, rs4⟩))
          · rw [if_neg h]
            exact ok_pos rfl (ok_ret (fs_stop hf (by simp [h]) 61 hi (by decide)).symm)
        · rintro n σ2 ⟨hf, rc2, rs2⟩
          show Ok (b_X11_lasts_37 _ _ _ _ _ _ _ _) _
          unfold b_X11_lasts_37
          exact ok_pos (show (60 : Int32) < nI 61 by decide) (ok_ret hf.symm)
      · refine ok_fr (fun r σ' e => by have := m_X12_lasts e; rw [r_90_57 rfl, r_90_58 rfl, r_90_59 rfl, r_90_60 rfl, r_90_18 rfl, r_90_26 rfl] at this; exact ag_mono this (fun p hp => by unfold ScM; omega)) ?_
        show Ok (f_X12_lasts N (RR t) 90 (nI s) (nI h) σ) _
        unfold f_X12_lasts
        refine ok_bnd (isS_y wf rm hs) (ok_neg (by decide) (ok_bnd (isH_y wf rm hh) (ok_neg (by decide) (m_fill hN rfl wf rm ra hx (fun _ σ1 b1 rm1 ra1 _ _ hx1 => ?_)))))
        refine lp (F := fun n i σ' => f_X12_lasts_24 N (RR t) 90 (nI s) (nI h) n (nI i) σ') 61 (fun i σ' => fs (fun i => !ca c (itk c S s h i) s h) i = -1 ∧ RepM c σ' ∧ (∃ U, Alo c S s h i U ∧ RepA 120 c U σ') ∧ σ'.1 90 27 = 0) ?_ ?_ N 0 σ1 (Nat.zero_le _) (by omega) ⟨rfl, rm1, ⟨S, ⟨ws, fun _ _ => rfl, rfl⟩, ra1⟩, hx1⟩
        · rintro n i σ2 hi ⟨hf, rm2, ⟨U, hU, ra2⟩, hx2⟩ kk
          show Ok (b_X12_lasts_24 _ _ _ _ _ _ _ _) _
          unfold b_X12_lasts_24
          rw [nI_1 i]
          refine ok_neg (n60 hi) (ok_call (s_countsAlone hN rfl wf hU.1 rm2 ra2 hx2 hs hh) (fun r σ3 h3 => ?_))
          obtain ⟨h31, ra3, a3⟩ := h3
          have rm3 := RepM_s1 rm2 a3
          have hx3 : σ3.1 90 27 = 0 := by rw [s1_90 a3]; exact hx2
          have hJ := Alo_j hU hh
          rw [h31, Alo_ca hU]
          by_cases h : ca c (itk c S s h i) s h = true
          · rw [if_pos h]
            refine ok_neg (by decide) (ok_call (s_goEve0 hN rfl wf hJ.1 rm3 ra3 hx3) (fun _ σ4 h4 => ?_))
            exact kk σ4 ⟨fs_go hf (by simp [h]), RepM_se rm3 h4.2, ⟨_, Alo_ev wf ws hd (by omega) hs hJ (fun k => jst_3), h4.1⟩, by rw [se_90 h4.2]; exact hx3⟩
          · rw [if_neg h]
            exact ok_pos rfl (ok_ret (fs_stop hf (by simp [h]) 61 hi (by decide)).symm)
        · rintro n σ2 ⟨hf, _⟩
          show Ok (b_X12_lasts_24 _ _ _ _ _ _ _ _) _
          unfold b_X12_lasts_24
          exact ok_pos (show (60 : Int32) < nI 61 by decide) (ok_ret hf.symm)
    · refine ⟨-1, fun t σ ht rc rs => ?_, fun t σ rm ra hx => ?_⟩
      · show Ok (f_X11_lasts N (RR t) 0 (nI s) a2 σ) _
        unfold f_X11_lasts f_X11_lasts_22
        rw [r_0_2 rfl]
        exact ok_bnd (hasS_y rc.2.1 hns hs) (ok_neg (by decide) (ok_bnd (hasH_n rc.1 hn2) (ok_pos rfl (ok_ret ⟨rfl, ag_refl⟩))))
      · show Ok (f_X12_lasts N (RR t) 90 (nI s) a2 σ) _
        unfold f_X12_lasts f_X12_lasts_16
        exact ok_bnd (isS_y wf rm hs) (ok_neg (by decide) (ok_bnd (isH_n wf rm hn2) (ok_pos rfl (ok_ret ⟨rfl, ag_refl⟩))))
  · refine ⟨-1, fun t σ ht rc rs => ?_, fun t σ rm ra hx => ?_⟩
    · show Ok (f_X11_lasts N (RR t) 0 a1 a2 σ) _
      unfold f_X11_lasts f_X11_lasts_22
      rw [r_0_2 rfl]
      exact ok_bnd (hasS_n rc.2.1 hn) (ok_pos rfl (ok_ret ⟨rfl, ag_refl⟩))
    · show Ok (f_X12_lasts N (RR t) 90 a1 a2 σ) _
      unfold f_X12_lasts f_X12_lasts_16
      exact ok_bnd (isS_n wf rm hn) (ok_pos rfl (ok_ret ⟨rfl, ag_refl⟩))
set_option maxHeartbeats 800000 in
theorem api_soon {N : Nat} (hN : 20000 ≤ N) (a1 a2 : Int32) : Api Inv (fun ρ σ => f_X11_soon N ρ 0 a1 a2 σ) (fun ρ σ => f_X12_soon N ρ 90 a1 a2 σ) := by
  refine api_v (fun c S wf ws hd => ?_)
  have hns := wf.2.1
  have hnh := wf.1
  rcases ix_of a1 (show ns c < 2 ^ 31 by omega) with ⟨s, hs, rfl⟩ | hn
  · rcases ix_of a2 (show nh c < 2 ^ 31 by omega) with ⟨h, hh, rfl⟩ | hn2
    · refine ⟨fs (fun i => svd c (itk c S s h i) s) 61, fun t σ ht rc rs => ?_, fun t σ rm ra hx => ?_⟩
      · refine ok_fr (fun r σ' e => by have := m_X11_soon e; rw [r_0_2 rfl, r_0_5 rfl, rq0 rfl q46, rq1 rfl q46, rq2 rfl q46, rq3 rfl q46, rt8 rfl ht, rt9 rfl ht, rt10 rfl ht, rb1 rfl ht, rw1 rfl ht] at this; exact frA ht (ag_mono this (fun p hp => by omega))) ?_
        show Ok (f_X11_soon N (RR t) 0 (nI s) (nI h) σ) _
        unfold f_X11_soon
        rw [r_0_2 rfl, r_0_4 rfl, r_0_5 rfl]
        refine ok_bnd (hasS_y rc.2.1 hns hs) (ok_neg (by decide) (ok_bnd (hasH_y rc.1 hnh hh) (ok_neg (by decide) (copyA ht wf rc rs (fun _ σ1 rc1 rs1 => ?_)))))
        refine lp (F := fun n i σ' => f_X11_soon_37 N (RR t) 0 (nI s) (nI h) n (nI i) σ') 61 (fun i σ' => fs (fun i => svd c (itk c S s h i) s) i = -1 ∧ RepC t c σ' ∧ RepS 46 c (itk c S s h i) σ') ?_ ?_ N 0 σ1 (Nat.zero_le _) (by omega) ⟨rfl, rc1, rs1⟩
        · rintro n i σ2 hi ⟨hf, rc2, rs2⟩ kk
          have hw := itk_wf (s := s) (h := h) ws hd i (by omega)
          show Ok (b_X11_soon_37 _ _ _ _ _ _ _ _) _
          unfold b_X11_soon_37
          rw [r_0_2 rfl, r_0_5 rfl, nI_1 i]
          refine ok_neg (n60 hi) (ok_bnd (s_isSaved rfl q46 wf hw.1 rc2 rs2 hs) ?_)
          by_cases h' : svd c (itk c S s h i) s = true
          · rw [if_pos h']
            exact ok_neg (by decide) (ok_ret (fs_stop hf h' 61 hi (by decide)).symm)
          · rw [if_neg h']
            refine ok_pos rfl (ok_call (s_kneelA hN ht wf ws hd (by omega) hs hh rc2 rs2) (fun r σ3 h3 => ?_))
            obtain ⟨h31, rc3, rs3⟩ := h3
            exact s_dayA (n := n) ht rc3 rs3 (fun σ4 rc4 rs4 => kk σ4 ⟨fs_go hf h', rc4, rs4⟩)
        · rintro n σ2 ⟨hf, rc2, rs2⟩
          show Ok (b_X11_soon_37 _ _ _ _ _ _ _ _) _
          unfold b_X11_soon_37
          exact ok_pos (show (60 : Int32) < nI 61 by decide) (ok_ret hf.symm)
      · refine ok_fr (fun r σ' e => by have := m_X12_soon e; rw [r_90_57 rfl, r_90_58 rfl, r_90_59 rfl, r_90_60 rfl, r_90_18 rfl, r_90_26 rfl] at this; exact ag_mono this (fun p hp => by unfold ScM; omega)) ?_
        show Ok (f_X12_soon N (RR t) 90 (nI s) (nI h) σ) _
        unfold f_X12_soon
        rw [bits_one s (by omega)]
        refine ok_bnd (isS_y wf rm hs) (ok_neg (by decide) (ok_bnd (isH_y wf rm hh) (ok_neg (by decide) (m_fill hN rfl wf rm ra hx (fun _ σ1 b1 rm1 ra1 _ _ hx1 => ok_call (s_sendJust (v := h + 1) hN rfl wf rm1 ra1 (show ns c ≤ 6 by omega) (by decide) rfl) (fun _ σ2 h2 => ?_))))))
        have a2 := s1_of h2.2
        refine lp (F := fun n i σ' => f_X12_soon_32 N (RR t) 90 (nI s) (nI h) n (nI i) σ') 61 (fun i σ' => fs (fun i => svd c (itk c S s h i) s) i = -1 ∧ RepM c σ' ∧ (∃ U, Alo c S s h i U ∧ (∀ k, U 3 k = if decide (k = s) = true then h + 1 else 0) ∧ RepA 120 c U σ') ∧ σ'.1 90 27 = 0) ?_ ?_ N 0 σ2 (Nat.zero_le _) (by omega) ⟨rfl, RepM_s1 rm1 a2, ⟨_, Alo_j (i := 0) ⟨ws, fun _ _ => rfl, rfl⟩ hh, fun k => jst_3, h2.1⟩, by rw [s1_90 a2]; exact hx1⟩
        · rintro n i σ3 hi ⟨hf, rm3, ⟨U, hU, h3, ra3⟩, hx3⟩ kk
          show Ok (b_X12_soon_32 _ _ _ _ _ _ _ _) _
          unfold b_X12_soon_32
          rw [nI_1 i]
          refine ok_neg (n60 hi) (ok_bnd (s_isSavedM rfl wf hU.1 rm3 ra3 hs) ?_)
          rw [Alo_svd hU]
          by_cases h' : svd c (itk c S s h i) s = true
          · rw [if_pos h']
            exact ok_neg (by decide) (ok_ret (fs_stop hf h' 61 hi (by decide)).symm)
          · rw [if_neg h']
            refine ok_pos rfl (ok_call (s_goEve0 hN rfl wf hU.1 rm3 ra3 hx3) (fun _ σ4 h4 => ?_))
            exact kk σ4 ⟨fs_go hf h', RepM_se rm3 h4.2, ⟨_, Alo_ev wf ws hd (by omega) hs hU h3, fun k => by rw [ev3]; exact h3 k, h4.1⟩, by rw [se_90 h4.2]; exact hx3⟩
        · rintro n σ3 ⟨hf, _⟩
          show Ok (b_X12_soon_32 _ _ _ _ _ _ _ _) _
          unfold b_X12_soon_32
          exact ok_pos (show (60 : Int32) < nI 61 by decide) (ok_ret hf.symm)
    · refine ⟨-1, fun t σ ht rc rs => ?_, fun t σ rm ra hx => ?_⟩
      · show Ok (f_X11_soon N (RR t) 0 (nI s) a2 σ) _
        unfold f_X11_soon f_X11_soon_22
        rw [r_0_2 rfl]
        exact ok_bnd (hasS_y rc.2.1 hns hs) (ok_neg (by decide) (ok_bnd (hasH_n rc.1 hn2) (ok_pos rfl (ok_ret ⟨rfl, ag_refl⟩))))
      · show Ok (f_X12_soon N (RR t) 90 (nI s) a2 σ) _
        unfold f_X12_soon f_X12_soon_16
        exact ok_bnd (isS_y wf rm hs) (ok_neg (by decide) (ok_bnd (isH_n wf rm hn2) (ok_pos rfl (ok_ret ⟨rfl, ag_refl⟩))))
  · refine ⟨-1, fun t σ ht rc rs => ?_, fun t σ rm ra hx => ?_⟩
    · show Ok (f_X11_soon N (RR t) 0 a1 a2 σ) _
      unfold f_X11_soon f_X11_soon_22
      rw [r_0_2 rfl]
      exact ok_bnd (hasS_n rc.2.1 hn) (ok_pos rfl (ok_ret ⟨rfl, ag_refl⟩))
    · show Ok (f_X12_soon N (RR t) 90 a1 a2 σ) _
      unfold f_X12_soon f_X12_soon_16
      exact ok_bnd (isS_n wf rm hn) (ok_pos rfl (ok_ret ⟨rfl, ag_refl⟩))
