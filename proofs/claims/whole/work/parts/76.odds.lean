/-! ODDS -/
def eu : Nat → Nat → Nat → Nat
  | 0, a, _ => a
  | k + 1, a, b => if b = 0 then a else eu k b (a % b)
def ez : Nat → Nat → Nat → Bool
  | 0, _, b => decide (b = 0)
  | k + 1, a, b => if b = 0 then true else ez k b (a % b)
theorem eu_ok : ∀ n, n < 5 → ∀ co, co ≤ 100 → eu 64 ((100 - co) ^ n) (100 ^ n) = eu 64 (100 ^ n) ((100 - co) ^ n) ∧ ez 64 (100 ^ n) ((100 - co) ^ n) = true ∧ 0 < eu 64 (100 ^ n) ((100 - co) ^ n) ∧ eu 64 (100 ^ n) ((100 - co) ^ n) ≤ 100000000 ∧ (100 - co) ^ n ≤ 100000000 ∧ 100 ^ n ≤ 100000000 := by decide +kernel
theorem s_commonDiv {N a b : Nat} {ρ : Nat → Nat → Nat} {σ : St} (hN : 20000 ≤ N) (ha : a < 2 ^ 31) (hb : b < 2 ^ 31) : f_X11_commonDivisor N ρ (nI a) (nI b) σ = some (nI (eu 64 a b), σ) := by
  refine ok_is ?_
  refine lp (β := Nat × Nat) (F := fun n i q => f_X11_commonDivisor_7 N ρ (nI a) (nI b) n (nI q.1) (nI q.2) (nI i) σ) 64 (fun i q => q.1 < 2 ^ 31 ∧ q.2 < 2 ^ 31 ∧ eu (64 - i) q.1 q.2 = eu 64 a b) ?_ ?_ N 0 (a, b) (Nat.zero_le _) (by omega) ⟨ha, hb, rfl⟩
  · rintro n i ⟨x, y⟩ hi ⟨h1, h2, h3⟩ kk
    have h1 : x < 2 ^ 31 := h1
    have h2 : y < 2 ^ 31 := h2
    have h3 : eu (64 - i) x y = eu 64 a b := h3
    rw [show 64 - i = (63 - i) + 1 by omega, eu] at h3
    show Ok (b_X11_commonDivisor_7 _ _ _ _ _ (nI x) (nI y) _ _) _
    unfold b_X11_commonDivisor_7 f_X11_commonDivisor_34
    rw [nI_1 i]
    refine ok_neg (show ¬ nI 64 ≤ nI i from nI_ge hi (by decide)) ?_
    by_cases hy : y = 0
    · subst hy
      rw [if_pos rfl] at h3
      exact ok_pos rfl (ok_ret ⟨by rw [h3], rfl⟩)
    · rw [if_neg hy] at h3
      refine ok_neg (nI_ne0 (by omega) h2) (ok_gd (nz_t (nI_ne0 (by omega) h2)) (ok_nmd ?_))
      rw [show irem (nI x) (nI y) = nI (x % y) from pk_rem h1 (by omega) h2]
      exact kk (y, x % y) ⟨h2, Nat.lt_trans (Nat.mod_lt _ (by omega)) h2, by rw [show 64 - (i + 1) = 63 - i by omega]; exact h3⟩
  · rintro n ⟨x, y⟩ ⟨h1, h2, h3⟩
    have h3 : eu (64 - 64) x y = eu 64 a b := h3
    show Ok (b_X11_commonDivisor_7 _ _ _ _ _ (nI x) (nI y) _ _) _
    unfold b_X11_commonDivisor_7 f_X11_commonDivisor_34
    exact ok_pos (show nI 64 ≤ nI 64 from Int32.le_refl _) (ok_ret ⟨by rw [← h3]; rfl, rfl⟩)
theorem s_divisor {N a b : Nat} {ρ : Nat → Nat → Nat} {σ : St} (hN : 20000 ≤ N) (ha : a < 2 ^ 31) (hb : b < 2 ^ 31) (hz : ez 64 a b = true) : f_X12_divisor N ρ (nI a) (nI b) σ = some (nI (eu 64 a b), σ) := by
  refine ok_is ?_
  refine lp (β := Nat × Nat) (F := fun n i q => f_X12_divisor_4 N ρ (nI a) (nI b) n (nI q.1) (nI q.2) σ) 64 (fun i q => q.1 < 2 ^ 31 ∧ q.2 < 2 ^ 31 ∧ eu (64 - i) q.1 q.2 = eu 64 a b ∧ ez (64 - i) q.1 q.2 = true) ?_ ?_ N 0 (a, b) (Nat.zero_le _) (by omega) ⟨ha, hb, rfl, hz⟩
  · rintro n i ⟨x, y⟩ hi ⟨h1, h2, h3, h4⟩ kk
    have h1 : x < 2 ^ 31 := h1
    have h2 : y < 2 ^ 31 := h2
    have h3 : eu (64 - i) x y = eu 64 a b := h3
    have h4 : ez (64 - i) x y = true := h4
    rw [show 64 - i = (63 - i) + 1 by omega, eu] at h3
    rw [show 64 - i = (63 - i) + 1 by omega, ez] at h4
    show Ok (b_X12_divisor_4 _ _ _ _ _ (nI x) (nI y) _) _
    unfold b_X12_divisor_4
    by_cases hy : y = 0
    · subst hy
      rw [if_pos rfl] at h3
      exact ok_pos (show nI 0 ≤ 0 by decide) (ok_ret ⟨by rw [h3], rfl⟩)
    · rw [if_neg hy] at h3 h4
      refine ok_neg (nI_nle (by omega) h2) (ok_gd (nz_t (nI_ne0 (by omega) h2)) (ok_nmd ?_))
      rw [show irem (nI x) (nI y) = nI (x % y) from pk_rem h1 (by omega) h2]
      exact kk (y, x % y) ⟨h2, Nat.lt_trans (Nat.mod_lt _ (by omega)) h2, by rw [show 64 - (i + 1) = 63 - i by omega]; exact h3, by rw [show 64 - (i + 1) = 63 - i by omega]; exact h4⟩
  · rintro n ⟨x, y⟩ ⟨h1, h2, h3, h4⟩
    have h3 : eu (64 - 64) x y = eu 64 a b := h3
    have h4 : ez (64 - 64) x y = true := h4
    have hy : y = 0 := by simpa [ez] using h4
    subst hy
    show Ok (b_X12_divisor_4 _ _ _ _ _ (nI x) (nI 0) _) _
    unfold b_X12_divisor_4
    exact ok_pos (show nI 0 ≤ 0 by decide) (ok_ret ⟨by rw [← h3]; rfl, rfl⟩)
theorem s_power {N a m : Nat} {ρ : Nat → Nat → Nat} {σ : St} (hN : 20000 ≤ N) (hm : m ≤ 5) : f_X12_power N ρ (nI a) (nI m) σ = some (nI (a ^ m), σ) := by
  refine ok_is ?_
  refine lp (β := Unit) (F := fun n i _ => f_X12_power_4 N ρ (nI a) (nI m) n (nI (a ^ i)) (nI i) σ) m (fun _ _ => True) ?_ ?_ N 0 () (Nat.zero_le _) (by omega) trivial
  · intro n i _ hi _ kk
    show Ok (b_X12_power_4 _ _ _ _ _ _ _ _) _
    unfold b_X12_power_4
    rw [nI_1 i, pk_mul]
    exact ok_neg (nI_ge hi (by omega)) (ok_nmd (kk () trivial))
  · intro n _ _
    show Ok (b_X12_power_4 _ _ _ _ _ _ _ _) _
    unfold b_X12_power_4
    exact ok_pos (Int32.le_refl _) (ok_ret ⟨rfl, rfl⟩)
set_option maxHeartbeats 400000 in
theorem api_odds {N : Nat} (hN : 20000 ≤ N) (a1 a2 : Int32) : Api Inv (fun ρ σ => f_X11_odds N ρ 0 a1 a2 σ) (fun ρ σ => f_X12_odds N ρ 90 a1 a2 σ) := by
  refine api_v (fun c S wf ws hd => ?_)
  have hco := wf.2.2.2.2.2.2.1
  rcases ix_of a1 (show 5 < 2 ^ 31 by decide) with ⟨m, hm, rfl⟩ | hn
  · have hok1 : ¬ nI m < 0 := nI_pos (by omega)
    have hok2 : ¬ (4 : Int32) < nI m := show ¬ nI 4 < nI m from nI_nlt (by omega) (by decide)
    rcases ix_of a2 (show 2 < 2 ^ 31 by decide) with ⟨w, hw, rfl⟩ | hn2
    · obtain ⟨e1, e2, e3, e4, e5, e6⟩ := eu_ok m hm (dt c 8 1) hco
      have eco : (100 : Int32) - nI (dt c 8 1) = nI (100 - dt c 8 1) := pk_sub (a := 100) hco
      refine ⟨(if w = 0 then nI ((100 - dt c 8 1) ^ m) else nI (100 ^ m)) / nI (eu 64 (100 ^ m) ((100 - dt c 8 1) ^ m)), fun t σ ht rc rs => ?_, fun t σ rm ra hx => ?_⟩
      · show Ok (f_X11_odds N (RR t) 0 (nI m) (nI w) σ) _
        unfold f_X11_odds
        refine ok_neg hok1 (ok_neg hok2 (ok_neg (nI_pos (by omega)) (ok_pos (show nI w ≤ nI 1 from nI_le (by omega) (by decide)) ?_)))
        refine lp (β := Unit) (F := fun n i _ => f_X11_odds_28 N (RR t) 0 (nI m) (nI w) n (nI ((100 - dt c 8 1) ^ i)) (nI (100 ^ i)) (nI i) σ) m (fun _ _ => True) ?_ ?_ N 0 () (Nat.zero_le _) (by omega) trivial
        · intro n i _ hi _ kk
          show Ok (b_X11_odds_28 _ _ _ _ _ _ _ _ _ _) _
          unfold b_X11_odds_28
          rw [r_0_2 rfl, rc.2.2.2.1, eco, pk_mul, show nI (100 ^ i) * 100 = nI (100 ^ i * 100) from pk_mul _ 100, nI_1 i]
          exact ok_neg (nI_ge hi (by omega)) (ok_nmd (ok_nmd (kk () trivial)))
        · intro n _ _
          show Ok (b_X11_odds_28 _ _ _ _ _ _ _ _ _ _) _
          unfold b_X11_odds_28 f_X11_odds_85
          refine ok_pos (Int32.le_refl _) (ok_bnd (s_commonDiv hN (by omega) (by omega)) ?_)
          rw [e1]
          have hz := nI_ne0 e3 (show eu 64 (100 ^ m) ((100 - dt c 8 1) ^ m) < 2 ^ 31 by omega)
          refine ok_neg hz ?_
          by_cases hw0 : w = 0
          · subst hw0
            exact ok_pos rfl (ok_gd (nz_t hz) (ok_ret ⟨rfl, ag_refl⟩))
          · rw [if_neg hw0]
            exact ok_neg (nI_ne0 (by omega) (by omega)) (ok_gd (nz_t hz) (ok_ret ⟨rfl, ag_refl⟩))
      · show Ok (f_X12_odds N (RR t) 90 (nI m) (nI w) σ) _
        unfold f_X12_odds f_X12_odds_64
        have hz := nI_ne0 e3 (show eu 64 (100 ^ m) ((100 - dt c 8 1) ^ m) < 2 ^ 31 by omega)
        refine ok_bnd (isIn_y (n := 5) (by decide) hm) (ok_neg (by decide) (ok_bnd (isIn_y (n := 2) (by decide) hw) (ok_neg (by decide) ?_)))
        rw [rm.2.2.2.1, eco]
        refine ok_bnd (s_power hN (by omega)) (ok_bnd (s_power (a := 100) hN (by omega)) (ok_bnd (s_divisor hN (by omega) (by omega) e2) ?_))
        by_cases hw0 : w = 0
        · subst hw0
          exact ok_pos rfl (ok_gd (nz_t hz) (ok_ret ⟨rfl, ag_refl⟩))
        · rw [if_neg hw0]
          exact ok_neg (nI_ne0 (by omega) (by omega)) (ok_gd (nz_t hz) (ok_ret ⟨rfl, ag_refl⟩))
    · refine ⟨-1, fun t σ ht rc rs => ?_, fun t σ rm ra hx => ?_⟩
      · show Ok (f_X11_odds N (RR t) 0 (nI m) a2 σ) _
        unfold f_X11_odds f_X11_odds_18
        refine ok_neg hok1 (ok_neg hok2 ?_)
        rcases hn2 with hn | hn
        · exact ok_pos hn (ok_ret ⟨rfl, ag_refl⟩)
        · exact ok_ite (fun _ => ok_ret ⟨rfl, ag_refl⟩) (fun _ => ok_neg (nI_gap (k := 1) (by decide) hn) (ok_ret ⟨rfl, ag_refl⟩))
      · show Ok (f_X12_odds N (RR t) 90 (nI m) a2 σ) _
        unfold f_X12_odds f_X12_odds_18
        exact ok_bnd (isIn_y (n := 5) (by decide) hm) (ok_neg (by decide) (ok_bnd (isIn_n (n := 2) (by decide) hn2) (ok_pos rfl (ok_ret ⟨rfl, ag_refl⟩))))
  · refine ⟨-1, fun t σ ht rc rs => ?_, fun t σ rm ra hx => ?_⟩
    · show Ok (f_X11_odds N (RR t) 0 a1 a2 σ) _
      unfold f_X11_odds f_X11_odds_18
      rcases hn with hn | hn
      · exact ok_pos hn (ok_ret ⟨rfl, ag_refl⟩)
      · exact ok_ite (fun _ => ok_ret ⟨rfl, ag_refl⟩) (fun _ => ok_pos (i_nle.mp (nI_gap (k := 4) (by decide) hn)) (ok_ret ⟨rfl, ag_refl⟩))
    · show Ok (f_X12_odds N (RR t) 90 a1 a2 σ) _
      unfold f_X12_odds f_X12_odds_18
      exact ok_bnd (isIn_n (n := 5) (by decide) hn) (ok_pos rfl (ok_ret ⟨rfl, ag_refl⟩))
