/-! TEAM, CHANGE -/
def tb1 (m k : Nat) : Bool := m.testBit k
theorem nI_tb {m : Nat} (h : m < 64) : nI m = bits (tb1 m) 6 := nI_bits m h
theorem pcn_tb {m n : Nat} (hn : n ≤ 6) (h : m < 2 ^ n) : cnt (tb1 m) n = pcn m := by
  refine (cnt_ext hn (fun k h1 h2 => ?_)).symm
  exact Nat.testBit_lt_two_pow (Nat.lt_of_lt_of_le h (Nat.pow_le_pow_right (by decide) h1))
def okT (c : CDat) (S : SDat) (h m : Nat) : Bool := decide (1 ≤ m) && (decide (pcn m ≤ dt c 2 h) && (!(qn (dt c 6) (tb1 m) (ns c)) && decide (bits (fun s => tb1 m s && decide (ld c S s h (pcn m) 0 ≤ nI (S 0 s))) (ns c) = nI m)))
set_option maxHeartbeats 400000 in
theorem s_wouldAll {N t h m : Nat} {c : CDat} {S : SDat} {σ : St} (hN : 20000 ≤ N) (ht : isT t) (wf : WfC c) (rc : RepC t c σ) (rs : RepS 41 c S σ) (hh : h < nh c) (h1 : 1 ≤ m) (hm : m < 64) :
    Ok (f_X11_wouldAllCount N (RR t) 0 (nI h) (nI m) σ) (fun r σ' => r = (if okT c S h m = true then 1 else 0) ∧ Ag (Sc t) σ σ') := by
  have hns := wf.2.1
  have hnh := wf.1
  have d2 := (wf.2.2.1 h hh).2.2.2.1
  have hp := pcn_le m
  have hp0 := pcn_pos m hm h1
  unfold f_X11_wouldAllCount f_X11_wouldAllCount_52 f_X11_wouldAllCount_53
  rw [r_0_2 rfl, r_0_4 rfl, rt2 rfl ht, nI_clamp (show h < 2 ^ 31 by omega)]
  refine ok_bnd (s_bcN hm) (ok_gd (ib_nI (by omega) (by decide)) ?_)
  rw [show σ.1 (t + 3) h = nI (dt c 2 h) from rc.2.2.2.2.2.1 2 h (by decide) hh]
  by_cases hr : pcn m ≤ dt c 2 h
  · refine ok_neg (nI_nlt hr (by omega)) (ok_bnd (by rw [nI_tb hm]; exact s_quarrelIn hN rfl ht wf rc (show ns c ≤ 6 by omega) (by decide)) ?_)
    by_cases hq : qn (dt c 6) (tb1 m) (ns c) = true
    · rw [if_pos hq]
      exact ok_neg (by decide) (ok_gd rfl (ok_ret ⟨by simp [okT, hq], ag_refl⟩))
    · rw [if_neg hq]
      refine ok_pos rfl (ok_call (P := fun r σ' => r = bits (fun s => tb1 m s && decide (ld c S s h (pcn m) 0 ≤ nI (S 0 s))) (ns c) ∧ Ag (Sc t) σ σ') (by rw [nI_tb hm]; exact s_bearing hN rfl ht q41 wf rc rs hh (show ns c ≤ 6 by omega) (by decide) hp (Or.inl hp0)) (fun r σ2 h2 => ?_))
      rw [h2.1]
      by_cases hb : bits (fun s => tb1 m s && decide (ld c S s h (pcn m) 0 ≤ nI (S 0 s))) (ns c) = nI m
      · exact ok_pos hb (ok_gd rfl (ok_ret ⟨by simp [okT, h1, hr, hq, hb], h2.2⟩))
      · exact ok_neg hb (ok_gd rfl (ok_ret ⟨by simp [okT, hb], h2.2⟩))
  · exact ok_pos (nI_lt (by omega) (by omega)) (ok_gd rfl (ok_ret ⟨by simp [okT, hr], ag_refl⟩))
def oz (o : Option Nat) : Int32 := match o with
  | none => 0
  | some k => nI k
theorem okT_0 {c : CDat} {S : SDat} {h : Nat} : ¬ okT c S h 0 = true := by simp [okT]
theorem okT_1 {c : CDat} {S : SDat} {h m : Nat} (z : okT c S h m = true) : 1 ≤ m := by
  unfold okT at z
  rw [Bool.and_eq_true] at z
  simpa using z.1
theorem bst1T {c : CDat} {S : SDat} {h : Nat} {f : Nat → Int32} : bst (okT c S h) f 1 = none := bst_n okT_0
/-- who counts, if just these are sent -/
theorem whoJ {c : CDat} {S : SDat} {h m : Nat} (wf : WfC c) (h1 : 1 ≤ m) (hm : m < 2 ^ ns c) (hr : pcn m ≤ dt c 2 h) : bits (fun s => decide (fare c (jst S (tb1 m) (h + 1)) 0 s = 1)) (ns c) = nI m ↔ okT c S h m = true := by
  have hns := wf.2.1
  have hp5 := pow_le5 (ns c) hns
  by_cases hq : qn (dt c 6) (tb1 m) (ns c) = true
  · rw [bits_0 (fun k hk => by rw [jst_fare, if_pos hq]; by_cases hb : tb1 m k = true <;> simp [hb])]
    constructor
    · intro z
      exact absurd z.symm (nI_ne0 (by omega) (by omega))
    · intro z
      simp [okT, hq] at z
  · rw [bits_cg (q := fun s => tb1 m s && decide (ld c S s h (pcn m) 0 ≤ nI (S 0 s))) (fun k hk => ?_)]
    · constructor
      · intro z
        simp [okT, h1, hr, hq, z]
      · intro z
        unfold okT at z
        simp only [Bool.and_eq_true, decide_eq_true_eq] at z
        exact z.2.2.2
    · rw [jst_fare, pcn_tb (by omega) hm]
      by_cases hb : tb1 m k = true
      · rw [if_pos hb, if_neg hq, hb]
        by_cases hl : ld c S k h (pcn m) 0 ≤ nI (S 0 k) <;> simp [hl]
      · rw [if_neg hb]
        simp [hb]
set_option maxHeartbeats 800000 in
theorem api_team {N : Nat} (hN : 20000 ≤ N) (a1 a2 : Int32) : Api Inv (fun ρ σ => f_X11_team N ρ 0 a1 a2 σ) (fun ρ σ => f_X12_team N ρ 90 a1 a2 σ) := by
  refine api_v (fun c S wf ws hd => ?_)
  have hns := wf.2.1
  have hnh := wf.1
  have hp := pow_le5 (ns c) hns
  rcases ix_of a1 (show nh c < 2 ^ 31 by omega) with ⟨h, hh, rfl⟩ | hn
  · rcases ix_of a2 (show 2 < 2 ^ 31 by decide) with ⟨w, hw, rfl⟩ | hn2
    · have d2 := (wf.2.2.1 h hh).2.2.2.1
      have blt : ∀ {i b}, bst (okT c S h) (fun m => nI (pcn m)) i = some b → b < i ∧ 1 ≤ b := fun e => ⟨(bst_lt e).1, okT_1 (bst_lt e).2⟩
      refine ⟨(match bst (okT c S h) (fun m => nI (pcn m)) (2 ^ ns c) with | none => -1 | some b => if w = 0 then nI (pcn b) else nI b), fun t σ ht rc rs => ?_, fun t σ rm ra hx => ?_⟩
      · refine ok_fr (fun r σ' e => by have := m_X11_team e; rw [r_0_2 rfl, rt8 rfl ht, rt10 rfl ht, rb1 rfl ht] at this; exact ag_mono this (fun p hp => by unfold ScX; omega)) ?_
        show Ok (f_X11_team N (RR t) 0 (nI h) (nI w) σ) _
        unfold f_X11_team
        rw [r_0_2 rfl]
        refine ok_bnd (hasH_y rc.1 hnh hh) (ok_neg (by decide) (ok_neg (nI_pos (by omega)) (ok_pos (show nI w ≤ nI 1 from nI_le (by omega) (by decide)) ?_)))
        refine ok_cast (b := f_X11_team_27 N (RR t) 0 (nI h) (nI w) N (oz (bst (okT c S h) (fun m => nI (pcn m)) 1)) (nI 1) σ) (by rw [bst1T]; rfl) ?_
        refine lp (F := fun n i σ' => f_X11_team_27 N (RR t) 0 (nI h) (nI w) n (oz (bst (okT c S h) (fun m => nI (pcn m)) i)) (nI i) σ') (2 ^ ns c) (fun i σ' => 1 ≤ i ∧ Ag (Sc t) σ σ') ?_ ?_ N 1 σ (by omega) (by omega) ⟨by omega, ag_refl⟩
        · rintro n i σ1 hi ⟨hi1, ha⟩ kk
          have rc1 := RepC_sc rc ha
          have rs1 := RepS_sc ht q41 rs ha
          have b1 := pcn_le i
          show Ok (b_X11_team_27 _ _ _ _ _ _ _ _ _) _
          unfold b_X11_team_27 f_X11_team_57 f_X11_team_62 f_X11_team_82
          rw [r_0_2 rfl, rc1.2.1, pow_bits _ (by omega), nI_1 i]
          refine ok_neg (nI_ge hi (by omega)) ?_
          have would := s_wouldAll (m := i) hN ht wf rc1 rs1 hh hi1 (by omega)
          cases e : bst (okT c S h) (fun m => nI (pcn m)) i with
          | none =>
            refine ok_pos rfl (ok_neg (by decide) (ok_call would (fun r σ2 h2 => ?_)))
            have k3 := kk σ2 ⟨by omega, ag_trans ha h2.2⟩
            rw [h2.1]
            by_cases ho : okT c S h i = true
            · rw [if_pos ho]
              rw [bst_0 ho e] at k3
              exact ok_neg (by decide) k3
            · rw [if_neg ho]
              rw [bst_n ho, e] at k3
              exact ok_pos rfl k3
          | some b =>
            have hb := blt e
            have b2 := pcn_le b
            refine ok_neg (nI_ne0 (by omega) (by omega)) (ok_bnd (s_bcN (by omega)) (ok_bnd (s_bcN (by omega)) ?_))
            by_cases hl : nI (pcn b) ≤ nI (pcn i)
            · refine ok_pos hl (ok_pos rfl ?_)
              have k3 := kk σ1 ⟨by omega, ha⟩
              by_cases ho : okT c S h i = true
              · rw [bst_1 ho e hl] at k3
                exact k3
              · rw [bst_n ho, e] at k3
                exact k3
            · refine ok_neg hl (ok_neg (by decide) (ok_call would (fun r σ2 h2 => ?_)))
              have k3 := kk σ2 ⟨by omega, ag_trans ha h2.2⟩
              rw [h2.1]
              by_cases ho : okT c S h i = true
              · rw [if_pos ho]
                rw [bst_2 ho e hl] at k3
                exact ok_neg (by decide) k3
              · rw [if_neg ho]
                rw [bst_n ho, e] at k3
                exact ok_pos rfl k3
        · rintro n σ1 ⟨_, ha⟩
          show Ok (b_X11_team_27 _ _ _ _ _ _ _ _ _) _
          unfold b_X11_team_27 f_X11_team_106
          rw [r_0_2 rfl, (RepC_sc rc ha).2.1, pow_bits _ (by omega)]
          refine ok_pos (Int32.le_refl _) ?_
          cases e : bst (okT c S h) (fun m => nI (pcn m)) (2 ^ ns c) with
          | none => exact ok_pos rfl (ok_ret rfl)
          | some b =>
            have hb := blt e
            refine ok_neg (nI_ne0 (by omega) (by omega)) ?_
            by_cases hw0 : w = 0
            · subst hw0
              exact ok_pos rfl (ok_bnd (s_bcN (by omega)) (ok_ret rfl))
            · exact ok_neg (nI_ne0 (by omega) (by omega)) (ok_ret (by simp only [if_neg hw0]; rfl))
      · refine ok_fr (fun r σ' e => by have := m_X12_team e; rw [r_90_57 rfl, r_90_18 rfl, r_90_26 rfl] at this; exact ag_mono this (fun p hp => by unfold ScM; omega)) ?_
        show Ok (f_X12_team N (RR t) 90 (nI h) (nI w) σ) _
        unfold f_X12_team
        refine ok_bnd (isH_y wf rm hh) (ok_neg (by decide) (ok_bnd (isIn_y (n := 2) (by decide) hw) (ok_neg (by decide) (m_fill hN rfl wf rm ra hx (fun _ σ0 b0 rm0 ra0 _ _ hx0 => ?_)))))
        refine ok_cast (b := f_X12_team_28 N (RR t) 90 (nI h) (nI w) N (oI (bst (okT c S h) (fun m => nI (pcn m)) 1)) (nI 1) σ0) (by rw [bst1T]; rfl) ?_
        refine lp (F := fun n i σ' => f_X12_team_28 N (RR t) 90 (nI h) (nI w) n (oI (bst (okT c S h) (fun m => nI (pcn m)) i)) (nI i) σ') (2 ^ ns c) (fun i σ' => 1 ≤ i ∧ RepM c σ' ∧ Air c S σ' ∧ σ'.1 90 27 = 0) ?_ ?_ N 1 σ0 (by omega) (by omega) ⟨by omega, rm0, Air_of ws ra0, hx0⟩
        · rintro n i σ1 hi ⟨hi1, rm1, ra1, hx1⟩ kk
          have b1 := pcn_le i
          have would : pcn i ≤ dt c 2 h → ∀ x : Int32, (∀ σ2, RepM c σ2 → Air c S σ2 → σ2.1 90 27 = 0 → Ok (f_X12_team_28 N (RR t) 90 (nI h) (nI w) n (if okT c S h i = true then nI i else x) (nI (i + 1)) σ2) (fun r _ => r = (match bst (okT c S h) (fun m => nI (pcn m)) (2 ^ ns c) with | none => -1 | some b => if w = 0 then nI (pcn b) else nI b))) → Ok (f_X12_team_72 N (RR t) 90 (nI h) (nI w) (f_X12_team_28 N (RR t) 90 (nI h) (nI w) n) x (nI i) σ1) (fun r _ => r = (match bst (okT c S h) (fun m => nI (pcn m)) (2 ^ ns c) with | none => -1 | some b => if w = 0 then nI (pcn b) else nI b)) := by
            intro hr x kx
            unfold f_X12_team_72 f_X12_team_92
            rw [nI_1 i]
            obtain ⟨T, wT, rT, eT⟩ := ra1
            refine ok_call (P := fun _ σ' => RepA 120 c (jst T (tb1 i) (h + 1)) σ' ∧ Ag (fun p => p = 120) σ1 σ') (by rw [nI_tb (show i < 64 by omega)]; exact s_sendJust hN rfl wf rm1 rT (show ns c ≤ 6 by omega) (by decide) rfl) (fun _ σ2 h2 => ?_)
            have a2 := s1_of h2.2
            have rm2 := RepM_s1 rm1 a2
            have hx2 : σ2.1 90 27 = 0 := by rw [s1_90 a2]; exact hx1
            have wJ : WfS c (jst T (tb1 i) (h + 1)) := jst_wf wT (by omega)
            refine ok_call (s_whoFares (w := 1) (x := 0) hN rfl wf wJ rm2 h2.1 hx2 (by decide)) (fun r σ3 h3 => ?_)
            have rm3 := RepM_sm rm2 h3.2
            have hx3 : σ3.1 90 27 = 0 := by rw [sm_90 h3.2]; exact hx2
            have ra3 : Air c S σ3 := ⟨_, wJ, RepA_sm (Or.inr rfl) h2.1 h3.2, fun r s hr => by rw [jst_n hr]; exact eT r s hr⟩
            have k3 := kx σ3 rm3 ra3 hx3
            have hok : okT c T h i = okT c S h i := by
              have : ∀ s, ld c T s h (pcn i) 0 = ld c S s h (pcn i) 0 := fun s => ld_cg (eT 0 s (by decide)) (eT 1 s (by decide)) (eT 4 0 (by decide))
              unfold okT
              simp only [this, eT 0 _ (show (0 : Nat) ≠ 3 by decide)]
            have hwj := whoJ (S := T) wf hi1 hi hr
            rw [hok] at hwj
            rw [h3.1]
            by_cases ho : okT c S h i = true
            · rw [if_pos ho] at k3
              exact ok_pos (hwj.mpr ho) k3
            · rw [if_neg ho] at k3
              exact ok_neg (fun z => ho (hwj.mp z)) k3
          show Ok (b_X12_team_28 _ _ _ _ _ _ _ _ _) _
          unfold b_X12_team_28
          rw [rm1.2.1, pow_bits _ (by omega), nI_clamp (show h < 2 ^ 31 by omega), r_90_38 rfl]
          refine ok_neg (nI_ge hi (by omega)) (ok_bnd (s_mbN hN (by omega)) (ok_gd (ib_nI (by omega) (by decide)) ?_))
          rw [show σ1.1 113 h = nI (dt c 2 h) from rm1.2.2.2.2.2.1 2 h (by decide) hh]
          by_cases hr : pcn i ≤ dt c 2 h
          · refine ok_neg (nI_nlt hr (by omega)) ?_
            cases e : bst (okT c S h) (fun m => nI (pcn m)) i with
            | none =>
              refine ok_pos (show (-1 : Int32) < 0 by decide) (would hr _ (fun σ2 rm2 ra2 hx2 => ?_))
              have k3 := kk σ2 ⟨by omega, rm2, ra2, hx2⟩
              by_cases ho : okT c S h i = true
              · rw [if_pos ho]
                rw [bst_0 ho e] at k3
                exact k3
              · rw [if_neg ho]
                rw [bst_n ho, e] at k3
                exact k3
            | some b =>
              have hb := blt e
              have b2 := pcn_le b
              refine ok_neg (nI_pos (by omega)) (ok_bnd (s_mbN hN (by omega)) (ok_bnd (s_mbN hN (by omega)) ?_))
              by_cases hl : nI (pcn b) ≤ nI (pcn i)
              · refine ok_neg (i_nlt.mpr hl) ?_
                have k3 := kk σ1 ⟨by omega, rm1, ra1, hx1⟩
                unfold f_X12_team_92
                rw [nI_1 i]
                by_cases ho : okT c S h i = true
                · rw [bst_1 ho e hl] at k3
                  exact k3
                · rw [bst_n ho, e] at k3
                  exact k3
              · refine ok_pos (i_nle.mp hl) (would hr _ (fun σ2 rm2 ra2 hx2 => ?_))
                have k3 := kk σ2 ⟨by omega, rm2, ra2, hx2⟩
                by_cases ho : okT c S h i = true
                · rw [if_pos ho]
                  rw [bst_2 ho e hl] at k3
                  exact k3
                · rw [if_neg ho]
                  rw [bst_n ho, e] at k3
                  exact k3
          · refine ok_pos (nI_lt (by omega) (by omega)) ?_
            have k3 := kk σ1 ⟨by omega, rm1, ra1, hx1⟩
            unfold f_X12_team_92
            rw [nI_1 i]
            rw [bst_n (by simp [okT, hr])] at k3
            exact k3
        · rintro n σ1 ⟨_, rm1, ra1, hx1⟩
          show Ok (b_X12_team_28 _ _ _ _ _ _ _ _ _) _
          unfold b_X12_team_28 f_X12_team_118
          rw [rm1.2.1, pow_bits _ (by omega)]
          refine ok_pos (Int32.le_refl _) ?_
          cases e : bst (okT c S h) (fun m => nI (pcn m)) (2 ^ ns c) with
          | none => exact ok_neg (show ¬ (0 : Int32) ≤ -1 by decide) (ok_ret rfl)
          | some b =>
            have hb := blt e
            refine ok_pos (nI_pos' (by omega)) ?_
            by_cases hw0 : w = 0
            · subst hw0
              exact ok_pos rfl (ok_bnd (s_mbN hN (by omega)) (ok_ret rfl))
            · exact ok_neg (nI_ne0 (by omega) (by omega)) (ok_ret (by simp only [if_neg hw0]; rfl))
    · refine ⟨-1, fun t σ ht rc rs => ?_, fun t σ rm ra hx => ?_⟩
      · show Ok (f_X11_team N (RR t) 0 (nI h) a2 σ) _
        unfold f_X11_team f_X11_team_20
        rw [r_0_2 rfl]
        refine ok_bnd (hasH_y rc.1 hnh hh) (ok_neg (by decide) ?_)
        rcases hn2 with hn | hn
        · exact ok_pos hn (ok_ret ⟨rfl, ag_refl⟩)
        · exact ok_ite (fun _ => ok_ret ⟨rfl, ag_refl⟩) (fun _ => ok_neg (nI_gap (k := 1) (by decide) hn) (ok_ret ⟨rfl, ag_refl⟩))
      · show Ok (f_X12_team N (RR t) 90 (nI h) a2 σ) _
        unfold f_X12_team f_X12_team_17
        exact ok_bnd (isH_y wf rm hh) (ok_neg (by decide) (ok_bnd (isIn_n (n := 2) (by decide) hn2) (ok_pos rfl (ok_ret ⟨rfl, ag_refl⟩))))
  · refine ⟨-1, fun t σ ht rc rs => ?_, fun t σ rm ra hx => ?_⟩
    · show Ok (f_X11_team N (RR t) 0 a1 a2 σ) _
      unfold f_X11_team f_X11_team_20
      rw [r_0_2 rfl]
      exact ok_bnd (hasH_n rc.1 hn) (ok_pos rfl (ok_ret ⟨rfl, ag_refl⟩))
    · show Ok (f_X12_team N (RR t) 90 a1 a2 σ) _
      unfold f_X12_team f_X12_team_17
      exact ok_bnd (isH_n wf rm hn) (ok_pos rfl (ok_ret ⟨rfl, ag_refl⟩))
