/-! SURE, ASK -/
def srv (H p : Nat) : Int32 := if p = H then -1 else nI p
def sr (f : Nat → Nat) (R H : Nat) : Nat → Int32
  | 0 => -2
  | p + 1 => if f p = R then srv H p else sr f R H p
theorem sr_none {f : Nat → Nat} {R H : Nat} : ∀ {m : Nat}, (∀ p, p < m → f p ≠ R) → sr f R H m = -2
  | 0, _ => rfl
  | m + 1, h => by rw [sr, if_neg (h m (by omega)), sr_none (fun p hp => h p (by omega))]
theorem sr_at {f : Nat → Nat} {R H p : Nat} (hp : f p = R) : ∀ {m : Nat}, p < m → (∀ q, p < q → q < m → f q ≠ R) → sr f R H m = srv H p
  | 0, h, _ => by omega
  | m + 1, h, hq => by
    rw [sr]
    by_cases e : p = m
    · subst e; rw [if_pos hp]
    · rw [if_neg (hq m (by omega) (by omega)), sr_at hp (by omega) (fun q h1 h2 => hq q h1 (by omega))]
theorem nI_pm (e : Nat) : nI (e + 1) - 1 = nI e := nI_pred e
set_option maxHeartbeats 800000 in
theorem api_sure {N : Nat} (hN : 20000 ≤ N) (a1 a2 : Int32) : Api Inv (fun ρ σ => f_X11_sure N ρ 0 a1 a2 σ) (fun ρ σ => f_X12_sure N ρ 90 a1 a2 σ) := by
  refine api_gw (fun c S M T mk wf ws hd hM hok => ?_)
  have hnh := wf.1
  by_cases hbad : a1 < 1 ∨ 3 < a1
  · refine ⟨-3, fun t σ ht rc mx => ?_, fun t σ rm hx mm => ?_⟩
    · show Ok (f_X11_sure N (RR t) 0 a1 a2 σ) _
      unfold f_X11_sure f_X11_sure_10
      exact ok_ite (fun _ => ok_ret ⟨rfl, ai_refl, rfl⟩) (fun h1 => ok_neg (fun h2 => hbad.elim h1 (fun h3 => i_nlt.mpr h2 h3)) (ok_ret ⟨rfl, ai_refl, rfl⟩))
    · show Ok (f_X12_sure N (RR t) 90 a1 a2 σ) _
      unfold f_X12_sure
      refine ok_bnd isIn_eq ?_
      rw [if_pos hbad]
      exact ok_pos rfl (ok_ret ⟨rfl, ag_refl⟩)
  · obtain ⟨e0, he1, he3, rfl⟩ := one_three hbad
    obtain ⟨e, rfl⟩ : ∃ e, e0 = e + 1 := ⟨e0 - 1, by omega⟩
    have c1 : ¬ nI (e + 1) < 1 := fun z => hbad (Or.inl z)
    have c3 : nI (e + 1) ≤ 3 := i_nlt.mp (fun z => hbad (Or.inr z))
    by_cases hn0 : ns c = 0
    · refine ⟨-3, fun t σ ht rc mx => ?_, fun t σ rm hx mm => ?_⟩
      · show Ok (f_X11_sure N (RR t) 0 (nI (e + 1)) a2 σ) _
        unfold f_X11_sure
        rw [r_0_2 rfl, r_0_11 rfl]
        exact ok_neg c1 (ok_pos c3 (ok_bnd (s_tallyRows0 hn0 rc) (ok_pos rfl (ok_ret ⟨rfl, ai_refl, rfl⟩))))
      · show Ok (f_X12_sure N (RR t) 90 (nI (e + 1)) a2 σ) _
        unfold f_X12_sure
        refine ok_bnd isIn_eq ?_
        rw [if_neg hbad]
        refine ok_neg (by decide) (ok_call (s_layF (s_layRows0 hN wf hn0 rm)) (fun r σ1 h1 => ok_pos h1.1 (ok_ret ⟨rfl, h1.2⟩)))
    · have hn0 : 0 < ns c := by omega
      have gl := gn_le (mk := mk) (k := a2) (M := M) wf
      by_cases hR : sumN (gn c mk a2 M) ((nh c + 1) ^ 3) = 0
      · refine ⟨-3, fun t σ ht rc mx => ?_, fun t σ rm hx mm => ?_⟩
        · show Ok (f_X11_sure N (RR t) 0 (nI (e + 1)) a2 σ) _
          unfold f_X11_sure
          rw [r_0_2 rfl, r_0_11 rfl]
          refine ok_neg c1 (ok_pos c3 (ok_call (s_tallyRows hN ht wf hn0 rc mx hM hok) (fun r σ1 h1 => ok_pos ?_ (ok_ret ⟨rfl, h1.1.2.2.2, h1.2⟩))))
          rw [h1.1.1, rw_eq hok, hR]; rfl
        · show Ok (f_X12_sure N (RR t) 90 (nI (e + 1)) a2 σ) _
          unfold f_X12_sure
          refine ok_bnd isIn_eq ?_
          rw [if_neg hbad]
          refine ok_neg (by decide) (ok_call (s_layF (s_layRows hN wf hn0 rm hx mm hM hok)) (fun r σ1 h1 => ok_pos ?_ (ok_ret ⟨rfl, h1.2⟩)))
          rw [h1.1.1, hR]; rfl
      · have uniq : ∀ p q, p < q → q < nh c + 1 → sumN (gt c mk a2 M e p) ((nh c + 1) ^ 3) = sumN (gn c mk a2 M) ((nh c + 1) ^ 3) → sumN (gt c mk a2 M e q) ((nh c + 1) ^ 3) ≠ sumN (gn c mk a2 M) ((nh c + 1) ^ 3) := by
          intro p q h1 h2 h3 h4
          have := sum_two (f := fun p => sumN (gt c mk a2 M e p) ((nh c + 1) ^ 3)) h1 h2
          rw [sum_tl] at this
          have h3' : (fun p => sumN (gt c mk a2 M e p) ((nh c + 1) ^ 3)) p = sumN (gn c mk a2 M) ((nh c + 1) ^ 3) := h3
          have h4' : (fun p => sumN (gt c mk a2 M e p) ((nh c + 1) ^ 3)) q = sumN (gn c mk a2 M) ((nh c + 1) ^ 3) := h4
          omega
        generalize hRR : sumN (gn c mk a2 M) ((nh c + 1) ^ 3) = R at *
        refine ⟨sr (fun p => sumN (gt c mk a2 M e p) ((nh c + 1) ^ 3)) R (nh c) (nh c + 1), fun t σ ht rc mx => ?_, fun t σ rm hx mm => ?_⟩
        · have tl := isT_le ht
          show Ok (f_X11_sure N (RR t) 0 (nI (e + 1)) a2 σ) _
          unfold f_X11_sure
          rw [r_0_2 rfl, r_0_11 rfl]
          refine ok_neg c1 (ok_pos c3 (ok_call (s_tallyRows hN ht wf hn0 rc mx hM hok) (fun r σ1 h1 => ?_)))
          obtain ⟨⟨g1, rc1, g3, g4⟩, g5⟩ := h1
          rw [g1, rw_eq hok, hRR]
          refine ok_neg (nI_ne0 (by omega) (by omega)) ?_
          refine lp (β := Unit) (F := fun n p _ => f_X11_sure_36 N (RR t) 0 (nI (e + 1)) a2 n (nI R) (nI p) σ1) (nh c + 1) (fun p _ => ∀ q, q < p → sumN (gt c mk a2 M e q) ((nh c + 1) ^ 3) ≠ R) ?_ ?_ N 0 () (Nat.zero_le _) (by omega) (fun q hq => absurd hq (by omega))
          · intro n p _ hp hq kk
            show Ok (b_X11_sure_36 _ _ _ _ _ _ _ _ _) _
            unfold b_X11_sure_36 f_X11_sure_84
            have gl2 := gt_le (mk := mk) (k := a2) (M := M) (e := e) (p := p) wf
            rw [r_0_2 rfl, r_0_11 rfl, r_68_12 rfl, nI_pm, nI_clamp (show e < 2 ^ 31 by omega), r_79 rfl, nI_clamp (show p < 2 ^ 31 by omega), rc1.1, nI_1 p, g3 e p (by omega) (by omega), tl_eq hok (by omega)]
            refine ok_neg (nI_nlt (by omega) (by omega)) (ok_gd (ib_nI (by omega) (by decide)) (ok_gd (ib_nI (by omega) (by decide)) ?_))
            by_cases hf : sumN (gt c mk a2 M e p) ((nh c + 1) ^ 3) = R
            · refine ok_pos (by rw [hf]) ?_
              have hs := sr_at (f := fun p => sumN (gt c mk a2 M e p) ((nh c + 1) ^ 3)) (H := nh c) hf hp (fun q h1 h2 => uniq p q h1 h2 hf)
              rw [hs]
              unfold srv
              by_cases hpn : p = nh c
              · rw [if_pos hpn]
                exact ok_pos (by rw [hpn]) (ok_ret ⟨rfl, g4, g5⟩)
              · rw [if_neg hpn]
                exact ok_neg (fun z => hpn ((nI_eq (by omega) (by omega)).mp z)) (ok_ret ⟨rfl, g4, g5⟩)
            · refine ok_neg (fun z => hf ((nI_eq (by omega) (by omega)).mp z)) (kk () (fun q h1 => ?_))
              by_cases eq : q = p
              · subst eq; exact hf
              · exact hq q (by omega)
          · intro n _ hq
            show Ok (b_X11_sure_36 _ _ _ _ _ _ _ _ _) _
            unfold b_X11_sure_36
            rw [r_0_2 rfl, rc1.1]
            refine ok_pos (nI_lt (by omega) (by omega)) (ok_ret ⟨?_, g4, g5⟩)
            rw [sr_none hq]
        · show Ok (f_X12_sure N (RR t) 90 (nI (e + 1)) a2 σ) _
          unfold f_X12_sure
          refine ok_bnd isIn_eq ?_
          rw [if_neg hbad]
          refine ok_neg (by decide) (ok_call (s_layF (s_layRows hN wf hn0 rm hx mm hM hok)) (fun r σ1 h1 => ?_))
          obtain ⟨⟨g1, rm1, g3⟩, g4⟩ := h1
          rw [g1, hRR]
          refine ok_neg (nI_ne0 (by omega) (by omega)) ?_
          refine lp (β := Unit) (F := fun n p _ => f_X12_sure_32 N (RR t) 90 (nI (e + 1)) a2 n (nI R) (sr (fun p => sumN (gt c mk a2 M e p) ((nh c + 1) ^ 3)) R (nh c) p) (nI p) σ1) (nh c + 1) (fun _ _ => True) ?_ ?_ N 0 () (Nat.zero_le _) (by omega) trivial
          · intro n p _ hp _ kk
            have k3 := kk () trivial
            show Ok (b_X12_sure_32 _ _ _ _ _ _ _ _ _ _) _
            unfold b_X12_sure_32 f_X12_sure_74 f_X12_sure_76
            have gl2 := gt_le (mk := mk) (k := a2) (M := M) (e := e) (p := p) wf
            rw [rm1.1, r_90_79 rfl, nI_pm, m7, nI_clamp (show 7 * e + p < 2 ^ 31 by omega), nI_1 p, g3 e p (by omega) (by omega)]
            refine ok_neg (nI_nlt (by omega) (by omega)) (ok_gd (ib_nI (by omega) (by decide)) ?_)
            rw [sr] at k3
            by_cases hf : sumN (gt c mk a2 M e p) ((nh c + 1) ^ 3) = R
            · refine ok_pos (show nI (sumN (gt c mk a2 M e p) ((nh c + 1) ^ 3)) = nI R by rw [hf]) ?_
              rw [if_pos hf] at k3
              unfold srv at k3
              by_cases hpn : p = nh c
              · rw [if_pos hpn] at k3
                exact ok_pos (by rw [hpn]) k3
              · rw [if_neg hpn] at k3
                exact ok_neg (fun z => hpn ((nI_eq (by omega) (by omega)).mp z)) k3
            · rw [if_neg hf] at k3
              exact ok_neg (fun z => hf ((nI_eq (by omega) (by omega)).mp z)) k3
          · intro n _ _
            show Ok (b_X12_sure_32 _ _ _ _ _ _ _ _ _ _) _
            unfold b_X12_sure_32
            rw [rm1.1]
            exact ok_pos (nI_lt (by omega) (by omega)) (ok_ret ⟨rfl, g4⟩)
def ab (L : Nat → Nat) : Nat → Nat
  | 0 => 0
  | i + 1 => if L (ab L i) ≤ L (i + 1) then ab L i else i + 1
theorem ab_le {L : Nat → Nat} : ∀ i, ab L i ≤ i
  | 0 => Nat.le_refl _
  | i + 1 => by
    have := ab_le (L := L) i
    rw [ab]
    split <;> omega
theorem mx_ext {f : Nat → Nat} {n : Nat} : ∀ {m : Nat}, n ≤ m → (∀ p, n ≤ p → f p = 0) → mx f m = mx f n
  | 0, h, _ => by rw [show n = 0 by omega]
  | m + 1, h, hz => by
    by_cases e : n = m + 1
    · rw [e]
    · rw [mx, mx_ext (by omega) hz, hz m (by omega), Nat.max_zero]
theorem mx_b {f : Nat → Nat} {B : Nat} (h : ∀ p, f p ≤ B) : ∀ n, mx f n ≤ B
  | 0 => Nat.zero_le _
  | n + 1 => by
    have := mx_b h n
    have := h n
    rw [mx]
    omega
theorem s_mostLeft {N t e : Nat} {f : Nat → Nat} {σ : St} (hN : 20000 ≤ N) (he : e < 3) (hf : ∀ p, p < 7 → σ.1 (80 + e) p = nI (f p)) (hb : ∀ p, f p ≤ 343) : f_X6_mostLeft N (RR t) 68 (nI (e + 1)) σ = some (nI (mx f 7), σ) := by
  refine ok_is ?_
  unfold f_X6_mostLeft
  refine ok_neg (show ¬ nI (e + 1) < nI 1 from nI_nlt (by omega) (by omega)) (ok_neg (show ¬ nI 3 < nI (e + 1) from nI_nlt (by omega) (by decide)) ?_)
  refine lp (β := Unit) (F := fun n p _ => f_X6_mostLeft_14 N (RR t) 68 (nI (e + 1)) n (nI (mx f p)) (nI p) σ) 7 (fun _ _ => True) ?_ ?_ N 0 () (Nat.zero_le _) (by omega) trivial
  · intro n p _ hp _ kk
    have b1 := mx_b hb p
    have b2 := hb p
    show Ok (b_X6_mostLeft_14 _ _ _ _ _ _ _ _) _
    unfold b_X6_mostLeft_14
    rw [r_68_12 rfl, nI_pm, nI_clamp (show e < 2 ^ 31 by omega), r_79 rfl, nI_clamp (show p < 2 ^ 31 by omega), hf p hp, mmax_nI (by omega) (by omega), nI_1 p]
    exact ok_gd (ib_nI he (by decide)) (ok_neg (nI_ge hp (by decide)) (ok_gd (ib_nI he (by decide)) (ok_gd (ib_nI hp (by decide)) (ok_nmd (kk () trivial)))))
  · intro n _ _
    show Ok (b_X6_mostLeft_14 _ _ _ _ _ _ _ _) _
    unfold b_X6_mostLeft_14 f_X6_mostLeft_48
    rw [nI_pm]
    exact ok_gd (ib_nI he (by decide)) (ok_pos (Int32.le_refl _) (ok_ret ⟨rfl, rfl⟩))
theorem s_leftBy {N t e : Nat} {c : CDat} {f : Nat → Nat} {σ : St} (hN : 20000 ≤ N) (wf : WfC c) (rm : RepM c σ) (he : e < 3) (hf : ∀ p, p < 7 → σ.1 137 (7 * e + p) = nI (f p)) (hb : ∀ p, f p ≤ 343) : f_X12_leftBy N (RR t) 90 (nI e) σ = some (nI (mx f (nh c + 1)), σ) := by
  have hnh := wf.1
  refine ok_is ?_
  refine lp (β := Unit) (F := fun n p _ => f_X12_leftBy_4 N (RR t) 90 (nI e) n (nI (mx f p)) (nI p) σ) (nh c + 1) (fun _ _ => True) ?_ ?_ N 0 () (Nat.zero_le _) (by omega) trivial
  · intro n p _ hp _ kk
    have k3 := kk () trivial
    have b1 := mx_b hb p
    have b2 := hb p
    show Ok (b_X12_leftBy_4 _ _ _ _ _ _ _ _) _
    unfold b_X12_leftBy_4 f_X12_leftBy_42
    rw [rm.1, r_90_79 rfl, m7, nI_clamp (show 7 * e + p < 2 ^ 31 by omega), hf p (by omega), nI_1 p]
    have i21 : ib (nI (7 * e + p)) 21 = true := ib_nI (by omega) (by decide)
    refine ok_neg (nI_nlt (by omega) (by omega)) (ok_gd i21 ?_)
    by_cases h : f p ≤ mx f p
    · rw [show mx f (p + 1) = mx f p by rw [mx]; exact Nat.max_eq_left h] at k3
      exact ok_pos (nI_le h (by omega)) k3
    · rw [show mx f (p + 1) = f p by rw [mx]; exact Nat.max_eq_right (by omega)] at k3
      exact ok_neg (nI_ge (by omega) (by omega)) (ok_gd i21 k3)
  · intro n _ _
    show Ok (b_X12_leftBy_4 _ _ _ _ _ _ _ _) _
    unfold b_X12_leftBy_4
    rw [rm.1]
    exact ok_pos (nI_lt (by omega) (by omega)) (ok_ret ⟨rfl, rfl⟩)
set_option maxHeartbeats 800000 in
theorem api_ask {N : Nat} (hN : 20000 ≤ N) (a1 a2 : Int32) : Api Inv (fun ρ σ => f_X11_ask N ρ 0 a1 a2 σ) (fun ρ σ => f_X12_ask N ρ 90 a1 a2 σ) := by
  refine api_gw (fun c S M T mk wf ws hd hM hok => ?_)
  have hnh := wf.1
  rcases ix_of a1 (show 2 < 2 ^ 31 by decide) with ⟨w, hw, rfl⟩ | hn
  · have c0 : ¬ nI w < 0 := nI_pos (by omega)
    have c1 : ¬ (1 : Int32) < nI w := show ¬ nI 1 < nI w from nI_nlt (by omega) (by decide)
    by_cases hn0 : ns c = 0
    · refine ⟨-1, fun t σ ht rc mx => ?_, fun t σ rm hx mm => ?_⟩
      · show Ok (f_X11_ask N (RR t) 0 (nI w) a2 σ) _
        unfold f_X11_ask f_X11_ask_24
        rw [r_0_2 rfl, r_0_11 rfl]
        exact ok_neg c0 (ok_neg c1 (ok_bnd (s_tallyRows0 hn0 rc) (ok_pos rfl (ok_ret ⟨rfl, ai_refl, rfl⟩))))
      · show Ok (f_X12_ask N (RR t) 90 (nI w) a2 σ) _
        unfold f_X12_ask f_X12_ask_17
        exact ok_bnd (isIn_y (n := 2) (by decide) hw) (ok_neg (by decide) (ok_call (s_layF (s_layRows0 hN wf hn0 rm)) (fun r σ1 h1 => ok_pos h1.1 (ok_ret ⟨rfl, h1.2⟩))))
    · have hn0 : 0 < ns c := by omega
      have gl := gn_le (mk := mk) (k := a2) (M := M) wf
      by_cases hR : sumN (gn c mk a2 M) ((nh c + 1) ^ 3) = 0
      · refine ⟨-1, fun t σ ht rc mx => ?_, fun t σ rm hx mm => ?_⟩
        · show Ok (f_X11_ask N (RR t) 0 (nI w) a2 σ) _
          unfold f_X11_ask f_X11_ask_24
          rw [r_0_2 rfl, r_0_11 rfl]
          refine ok_neg c0 (ok_neg c1 (ok_call (s_tallyRows hN ht wf hn0 rc mx hM hok) (fun r σ1 h1 => ok_pos ?_ (ok_ret ⟨rfl, h1.1.2.2.2, h1.2⟩))))
          rw [h1.1.1, rw_eq hok, hR]; rfl
        · show Ok (f_X12_ask N (RR t) 90 (nI w) a2 σ) _
          unfold f_X12_ask f_X12_ask_17
          refine ok_bnd (isIn_y (n := 2) (by decide) hw) (ok_neg (by decide) (ok_call (s_layF (s_layRows hN wf hn0 rm hx mm hM hok)) (fun r σ1 h1 => ok_pos ?_ (ok_ret ⟨rfl, h1.2⟩))))
          rw [h1.1.1, hR]; rfl
      · have bT : ∀ e p, sumN (gt c mk a2 M e p) ((nh c + 1) ^ 3) ≤ 343 := fun e p => gt_le wf
        have eL : ∀ e, mx (fun p => sumN (gt c mk a2 M e p) ((nh c + 1) ^ 3)) 7 = mx (fun p => sumN (gt c mk a2 M e p) ((nh c + 1) ^ 3)) (nh c + 1) := fun e => mx_ext (by omega) (fun p hp => gt_out (by omega))
        have bL : ∀ e, mx (fun p => sumN (gt c mk a2 M e p) ((nh c + 1) ^ 3)) (nh c + 1) ≤ 343 := fun e => mx_b (bT e) _
        refine ⟨(if w = 0 then nI (ab (fun e => mx (fun p => sumN (gt c mk a2 M e p) ((nh c + 1) ^ 3)) (nh c + 1)) 2 + 1) else nI (mx (fun p => sumN (gt c mk a2 M (ab (fun e => mx (fun p => sumN (gt c mk a2 M e p) ((nh c + 1) ^ 3)) (nh c + 1)) 2) p) ((nh c + 1) ^ 3)) (nh c + 1))), fun t σ ht rc mx' => ?_, fun t σ rm hx mm => ?_⟩
        · have tl := isT_le ht
          show Ok (f_X11_ask N (RR t) 0 (nI w) a2 σ) _
          unfold f_X11_ask
          rw [r_0_2 rfl, r_0_11 rfl]
          refine ok_neg c0 (ok_neg c1 (ok_call (s_tallyRows hN ht wf hn0 rc mx' hM hok) (fun r σ1 h1 => ?_)))
          obtain ⟨⟨g1, rc1, g3, g4⟩, g5⟩ := h1
          rw [g1, rw_eq hok]
          refine ok_neg (nI_ne0 (by omega) (by omega)) ?_
          have ml : ∀ e, e < 3 → f_X6_mostLeft N (RR t) 68 (nI (e + 1)) σ1 = some (nI (mx (fun p => sumN (gt c mk a2 M e p) ((nh c + 1) ^ 3)) (nh c + 1)), σ1) := fun e he => by
            rw [← eL]
            exact s_mostLeft hN he (fun p hp => by rw [g3 e p he hp, tl_eq hok he]) (bT e)
          refine lp (β := Unit) (F := fun n i _ => f_X11_ask_31 N (RR t) 0 (nI w) a2 n (nI (ab (fun e => mx (fun p => sumN (gt c mk a2 M e p) ((nh c + 1) ^ 3)) (nh c + 1)) i + 1)) (nI (i + 2)) σ1) 2 (fun _ _ => True) ?_ ?_ N 0 () (Nat.zero_le _) (by omega) trivial
          · intro n i _ hi _ kk
            have k3 := kk () trivial
            have l1 := ab_le (L := fun e => mx (fun p => sumN (gt c mk a2 M e p) ((nh c + 1) ^ 3)) (nh c + 1)) i
            show Ok (b_X11_ask_31 _ _ _ _ _ _ _ _ _) _
            unfold b_X11_ask_31 f_X11_ask_60
            rw [r_0_11 rfl, nI_1 (i + 2)]
            refine ok_neg (show ¬ nI 3 < nI (i + 2) from nI_nlt (by omega) (by decide)) (ok_bnd (ml (i + 1) (by omega)) (ok_bnd (ml _ (by omega)) ?_))
            rw [ab] at k3
            by_cases h : mx (fun p => sumN (gt c mk a2 M (ab (fun e => mx (fun p => sumN (gt c mk a2 M e p) ((nh c + 1) ^ 3)) (nh c + 1)) i) p) ((nh c + 1) ^ 3)) (nh c + 1) ≤ mx (fun p => sumN (gt c mk a2 M (i + 1) p) ((nh c + 1) ^ 3)) (nh c + 1)
            · rw [if_pos h] at k3
              exact ok_pos (nI_le h (by have := bL (i + 1); omega)) k3
            · rw [if_neg h] at k3
              exact ok_neg (nI_ge (by omega) (by have := bL (ab (fun e => mx (fun p => sumN (gt c mk a2 M e p) ((nh c + 1) ^ 3)) (nh c + 1)) i); omega)) k3
          · intro n _ _
            have l1 := ab_le (L := fun e => mx (fun p => sumN (gt c mk a2 M e p) ((nh c + 1) ^ 3)) (nh c + 1)) 2
            show Ok (b_X11_ask_31 _ _ _ _ _ _ _ _ _) _
            unfold b_X11_ask_31 f_X11_ask_82
            rw [r_0_11 rfl]
            refine ok_pos (show (3 : Int32) < nI (2 + 2) by decide) ?_
            by_cases hw0 : w = 0
            · subst hw0
              rw [if_pos rfl]
              exact ok_pos rfl (ok_ret ⟨rfl, g4, g5⟩)
            · rw [if_neg hw0]
              exact ok_neg (nI_ne0 (by omega) (by omega)) (ok_bnd (ml _ (by omega)) (ok_ret ⟨rfl, g4, g5⟩))
        · show Ok (f_X12_ask N (RR t) 90 (nI w) a2 σ) _
          unfold f_X12_ask
          refine ok_bnd (isIn_y (n := 2) (by decide) hw) (ok_neg (by decide) (ok_call (s_layF (s_layRows hN wf hn0 rm hx mm hM hok)) (fun r σ1 h1 => ?_)))
          obtain ⟨⟨g1, rm1, g3⟩, g4⟩ := h1
          rw [g1]
          refine ok_neg (nI_ne0 (by omega) (by omega)) ?_
          have ml : ∀ e, e < 3 → f_X12_leftBy N (RR t) 90 (nI e) σ1 = some (nI (mx (fun p => sumN (gt c mk a2 M e p) ((nh c + 1) ^ 3)) (nh c + 1)), σ1) := fun e he => s_leftBy hN wf rm1 he (fun p hp => g3 e p he hp) (bT e)
          refine lp (β := Unit) (F := fun n i _ => f_X12_ask_24 N (RR t) 90 (nI w) a2 n (nI (ab (fun e => mx (fun p => sumN (gt c mk a2 M e p) ((nh c + 1) ^ 3)) (nh c + 1)) i)) (nI (i + 1)) σ1) 2 (fun _ _ => True) ?_ ?_ N 0 () (Nat.zero_le _) (by omega) trivial
          · intro n i _ hi _ kk
            have k3 := kk () trivial
            have l1 := ab_le (L := fun e => mx (fun p => sumN (gt c mk a2 M e p) ((nh c + 1) ^ 3)) (nh c + 1)) i
            show Ok (b_X12_ask_24 _ _ _ _ _ _ _ _ _) _
            unfold b_X12_ask_24 f_X12_ask_50
            rw [nI_1 (i + 1)]
            refine ok_neg (show ¬ nI 3 ≤ nI (i + 1) from nI_ge (by omega) (by decide)) (ok_bnd (ml (i + 1) (by omega)) (ok_bnd (ml _ (by omega)) ?_))
            rw [ab] at k3
            by_cases h : mx (fun p => sumN (gt c mk a2 M (ab (fun e => mx (fun p => sumN (gt c mk a2 M e p) ((nh c + 1) ^ 3)) (nh c + 1)) i) p) ((nh c + 1) ^ 3)) (nh c + 1) ≤ mx (fun p => sumN (gt c mk a2 M (i + 1) p) ((nh c + 1) ^ 3)) (nh c + 1)
            · rw [if_pos h] at k3
              exact ok_pos (nI_le h (by have := bL (i + 1); omega)) k3
            · rw [if_neg h] at k3
              exact ok_neg (nI_ge (by omega) (by have := bL (ab (fun e => mx (fun p => sumN (gt c mk a2 M e p) ((nh c + 1) ^ 3)) (nh c + 1)) i); omega)) k3
          · intro n _ _
            have l1 := ab_le (L := fun e => mx (fun p => sumN (gt c mk a2 M e p) ((nh c + 1) ^ 3)) (nh c + 1)) 2
            show Ok (b_X12_ask_24 _ _ _ _ _ _ _ _ _) _
            unfold b_X12_ask_24 f_X12_ask_72
            refine ok_pos (show (3 : Int32) ≤ nI (2 + 1) by decide) ?_
            by_cases hw0 : w = 0
            · subst hw0
              rw [if_pos rfl, nI_1]
              exact ok_pos rfl (ok_ret ⟨rfl, g4⟩)
            · rw [if_neg hw0]
              exact ok_neg (nI_ne0 (by omega) (by omega)) (ok_bnd (ml _ (by omega)) (ok_ret ⟨rfl, g4⟩))
  · refine ⟨-1, fun t σ ht rc mx => ?_, fun t σ rm hx mm => ?_⟩
    · show Ok (f_X11_ask N (RR t) 0 a1 a2 σ) _
      unfold f_X11_ask f_X11_ask_24
      rcases hn with hn | hn
      · exact ok_pos hn (ok_ret ⟨rfl, ai_refl, rfl⟩)
      · exact ok_ite (fun _ => ok_ret ⟨rfl, ai_refl, rfl⟩) (fun _ => ok_pos (i_nle.mp (nI_gap (k := 1) (by decide) hn)) (ok_ret ⟨rfl, ai_refl, rfl⟩))
    · show Ok (f_X12_ask N (RR t) 90 a1 a2 σ) _
      unfold f_X12_ask f_X12_ask_17
      exact ok_bnd (isIn_n (n := 2) (by decide) hn) (ok_pos rfl (ok_ret ⟨rfl, ag_refl⟩))
