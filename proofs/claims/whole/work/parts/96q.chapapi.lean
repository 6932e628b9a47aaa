/-! CHAPEL: both alike -/
set_option maxHeartbeats 1000000 in
theorem api_chapel {N : Nat} (hN : 20000 ≤ N) : ApiC Inv 0 (fun ρ σ => f_X11_chapel N ρ 0 σ) (fun ρ σ => f_X12_chapel N ρ 90 σ) := by
  intro ρ σ hI
  obtain ⟨t, c, S, rfl, hi⟩ := hI
  have hi' := hi
  obtain ⟨ht, wf, ws, hd, ⟨rc, rs⟩, ⟨rm, ra, hx⟩, hhist, hbox, hlie, hflt, ⟨M, T, mk, hmem⟩, ⟨L, bt, htap⟩, hwrd⟩ := hi'
  have tl := isT_le ht
  have td : t = 9 ∨ t = 25 := ht
  obtain ⟨hL, t1, t2, t3⟩ := htap
  have hb : ∀ j, j < ((L, bt) : Tape).1 → ((L, bt) : Tape).2 j < 256 := fun j hj => (t3 j hj).1
  obtain ⟨r, σ1, e1, o, n, hn, hr, ho⟩ := s_chapX (N := N) (t := t) (τ := (L, bt)) (σ := σ) hN ht hb ⟨hL, t1, fun j hj => ⟨(t3 j hj).1, (t3 j hj).2.2⟩⟩ hwrd
  cases o with
  | inr e =>
    obtain ⟨rfl, x4, ⟨x15, x16⟩, x14, fr⟩ := ho
    have g1 : ∀ p, 89 ≤ p → σ1.1 p = σ.1 p := fun p hp => (fr p (by unfold AcX; omega)).1
    obtain ⟨r2, σ2, e2, m1, rfl, m2, m3, m4⟩ := s_chapelM (N := N) (t := t) (τ := (L, bt)) (σ := σ1) hN hb hL (by rw [g1 90 (by decide)]; exact t2) (fun j hj => by rw [g1 91 (by decide)]; exact (t3 j hj).2.1) hr hn (fun D z => by cases z)
    have fm := fr_chapM e2
    have y90 : ∀ k, ¬ nG k → k ≠ 1 → k ≠ 5 → σ2.1 90 k = σ.1 90 k := fun k a b c => by rw [m3 k a b c, g1 90 (by decide)]
    have yc : ∀ p, ¬ AcX (34 - t) p → ¬ AmX p → σ2.1 p = σ.1 p ∧ σ2.2 p = σ.2 p := fun p a b => ⟨(fm p b).1.trans (fr p a).1, (fm p b).2.trans (fr p a).2⟩
    have ym : ∀ q, 96 ≤ q → q ≠ 99 → q ≠ 101 → ¬ (103 ≤ q ∧ q ≤ 110) → σ2.1 q = σ.1 q := fun q a b c d => by rw [m4 q a b c d, g1 q (by omega)]
    have y0 : ∀ k, σ2.1 0 k = σ1.1 0 k := fun k => by rw [(fm 0 (by unfold AmX; omega)).1]
    refine ⟨-1, σ1, σ2, e1, ?_, ?_⟩
    · rw [if_pos rfl]; exact e2
    · rw [if_pos rfl]
      refine ⟨t, c, S, rfl, Iv_gen hi (fun p hp => ?_) (fun k hk => y90 k (by unfold nG nF; omega) (by omega) (by omega)) (LieI_cg hlie (by rw [y0]; exact x14) (y90 65 (by unfold nG nF; omega) (by decide) (by decide)) (yc 89 (by unfold AcX; omega) (by unfold AmX; omega)).1 (ym 125 (by decide) (by decide) (by decide) (by decide))) ?_ ⟨M, T, mk, MemI_cg hmem (yc 68 (by unfold AcX; omega) (by unfold AmX; omega)).1 (y90 74 (by unfold nG nF; omega) (by decide) (by decide)) (y90 75 (by unfold nG nF; omega) (by decide) (by decide)) (fun p a b => (yc p (by unfold AcX; omega) (by unfold AmX; omega)).1) (fun p a b => ym p (by omega) (by omega) (by omega) (by omega))⟩ ⟨0, bt, Nat.zero_le _, ?_, m1, fun j hj => absurd hj (Nat.not_lt_zero _)⟩ (WrdI_cg hwrd (yc 6 (by unfold AcX; omega) (by unfold AmX; omega)).2)⟩
      · by_cases h96 : 96 ≤ p
        · exact ym p h96 (by unfold CoreP at hp; omega) (by unfold CoreP at hp; omega) (by unfold CoreP at hp; omega)
        · exact (yc p (by unfold CoreP at hp; unfold AcX; omega) (by unfold CoreP at hp; unfold AmX; omega)).1
      · exact ⟨by rw [y0, x15, m2.2.1], by rw [y0, x16, m2.2.2]⟩
      · rw [(fm 4 (by unfold AmX; omega)).1]; exact x4
  | inl D =>
    obtain ⟨er, wfD, rc1, rs1, hx1, ⟨x6, x7⟩, ⟨x14, x15, x16⟩, x54, x4, fr⟩ := ho
    have wc := wfD.1
    have l2 : ns (dc D) ≤ 5 := wc.2.1
    have rn : ¬ r = -1 := fun z => nI_pos (show ns (dc D) < 2 ^ 31 by omega) (by rw [← er, z]; decide)
    have g1 : ∀ p, 89 ≤ p → σ1.1 p = σ.1 p := fun p hp => (fr p (by unfold AcY AcX; omega)).1
    obtain ⟨r2, σ2, e2, m1, ⟨er2, rm2, ra2, m3, -, m138⟩, ⟨m2, m2'⟩, m27, m75⟩ := s_chapelM (N := N) (t := 34 - t) (τ := (L, bt)) (σ := σ1) hN hb hL (by rw [g1 90 (by decide)]; exact t2) (fun j hj => by rw [g1 91 (by decide)]; exact (t3 j hj).2.1) hr hn (fun D' z => by cases z; exact wfD)
    have fm := fr_chapM e2
    have y : ∀ p, p < 90 → σ2.1 p = σ1.1 p := fun p hp => (fm p (by unfold AmX; omega)).1
    have e12 : r2 = r := by rw [er2, er]
    subst e12
    refine ⟨r2, σ1, σ2, e1, ?_, ?_⟩
    · rw [if_neg rn, r_0_3 rfl, r_0_2 rfl, RR_sw ht]; exact e2
    · rw [if_neg rn, r_0_3 rfl, r_0_2 rfl, RR_sw ht]
      have hS : bgn (dc D) (dt (dc D) 8 2) 4 0 ≤ 999 := Nat.zero_le _
      have wS := bgn_wf wc wc.2.2.2.2.2.2.2.1
      refine ⟨34 - t, dc D, bgn (dc D) (dt (dc D) 8 2), rfl, tT ht, wc, wS, hS, ⟨RepC_cg rc1 (fun p a b _ => y p (by omega)), RepS_cg rs1 (fun p a b => y p (by omega))⟩, ⟨rm2, ra2, ?_⟩, ⟨0, 0, fun _ => bgn (dc D) (dt (dc D) 8 2), ⟨by decide, rfl, fun k _ => ⟨wS, hS⟩⟩, HX_cg hx1 (y 51 (by decide)) (y 52 (by decide)), m3.1, m3.2.1, fun k hk => absurd hk (Nat.not_lt_zero _), fun k a b => absurd b (by omega)⟩, fun b hb' => Or.inl ⟨?_, m138 b hb'⟩, ⟨0, by decide, ?_, m3.2.2.2, fun i hi => absurd hi (Nat.not_lt_zero _)⟩, ⟨?_, ?_⟩, ⟨0, T, mk, by decide, hmem.2.1, ?_, m3.2.2.1, ?_, ?_, fun j hj => absurd hj (Nat.not_lt_zero _)⟩, ⟨0, bt, Nat.zero_le _, ?_, m1, fun j hj => absurd hj (Nat.not_lt_zero _)⟩, WrdI_cg hwrd ?_⟩
      · rw [m27, g1 90 (by decide)]; exact hx
      · rw [y 54 (by decide)]; exact x54 b hb'
      · rw [y 0 (by decide)]; exact x14
      · rw [y 0 (by decide), x15, m2]
      · rw [y 0 (by decide), x16, m2']
      · rw [y 68 (by decide)]; exact x6
      · rw [y 68 (by decide), x7]; exact hmem.2.2.2.2.1
      · rw [m75, g1 90 (by decide)]; exact hmem.2.2.2.2.2.1
      · rw [y 4 (by decide)]; exact x4
      · rw [(fm 6 (by unfold AmX; omega)).2]; exact (fr 6 (by unfold AcY AcX; omega)).2
