/-! THE MODEL's CHAPEL, whole -/
def BgQ (n : Nat) (σ : St) (_ : Int32) (σ' : St) : Prop := (∀ s, s < n → σ'.1 120 s = σ.1 116 s ∧ σ'.1 120 (5 + s) = σ.1 118 s ∧ σ'.1 120 (15 + s) = -1) ∧ (∀ j, 10 ≤ j → j < 15 → σ'.1 120 j = 0) ∧ σ'.1 120 20 = 0 ∧ ∀ q, q ≠ 120 → σ'.1 q = σ.1 q
theorem s_begM {N t n : Nat} {σ : St} (hN : 20000 ≤ N) (hn : n ≤ 5) (h50 : σ.1 90 50 = nI n) : Ok (f_X12_begin N (RR t) 90 σ) (BgQ n σ) := by
  unfold f_X12_begin
  refine lp (F := fun m i b => f_X12_begin_2 N (RR t) 90 m (nI i) b) 22 (fun i b => (∀ j, j < i → b.1 120 j = 0) ∧ ∀ q, q ≠ 120 → b.1 q = σ.1 q) ?_ ?_ N 0 σ (Nat.zero_le _) (by omega) ⟨fun j hj => absurd hj (Nat.not_lt_zero _), fun _ _ => rfl⟩
  · intro m i b hi hI k
    obtain ⟨i1, i2⟩ := hI
    show Ok (b_X12_begin_2 N (RR t) 90 (f_X12_begin_2 N (RR t) 90 m) (nI i) b) _
    unfold b_X12_begin_2
    rw [r_90_57 rfl, nI_clamp (show i < 2 ^ 31 by omega), nI_1 i]
    refine ok_neg (n22c hi) (ok_gd (ib_nI hi (by decide)) (ok_sI2 fun σ1 n1 u1 f1 => k σ1 ⟨fun j hj => ?_, fun q hq => by rw [n1 q hq, i2 q hq]⟩))
    rw [u1]
    by_cases e : j = i
    · rw [e, pk_us]
    · rw [pk_un e]; exact i1 j (by omega)
  · intro m b hI
    obtain ⟨i1, i2⟩ := hI
    show Ok (b_X12_begin_2 N (RR t) 90 (f_X12_begin_2 N (RR t) 90 m) (nI 22) b) _
    unfold b_X12_begin_2
    refine ok_pos (by decide) ?_
    refine lp (F := fun m i b => f_X12_begin_23 N (RR t) 90 m (nI i) b) n (fun i b => BgQ i σ 0 b) ?_ ?_ N 0 b (Nat.zero_le _) (by omega) ⟨fun s hs => absurd hs (Nat.not_lt_zero _), fun j a b => i1 j (by omega), i1 20 (by decide), i2⟩
    · intro m i b hi hI k
      obtain ⟨j1, j2, j3, j4⟩ := hI
      show Ok (b_X12_begin_23 N (RR t) 90 (f_X12_begin_23 N (RR t) 90 m) (nI i) b) _
      unfold b_X12_begin_23
      rw [j4 90 (by decide), h50, r_90_57 rfl, r_90_41 rfl, r_90_43 rfl, show (5 : Int32) + nI i = nI (5 + i) from nI_add 5 i, show (15 : Int32) + nI i = nI (15 + i) from nI_add 15 i, nI_clamp (show i < 2 ^ 31 by omega), nI_clamp (show 5 + i < 2 ^ 31 by omega), nI_clamp (show 15 + i < 2 ^ 31 by omega), nI_1 i]
      refine ok_neg (nI_ge hi (by omega)) (ok_gd (ib_nI (by omega) (by decide)) (ok_gd (ib_nI (by omega) (by decide)) (ok_sI2 fun σ1 n1 u1 f1 => ok_gd (ib_nI (by omega) (by decide)) (ok_gd (ib_nI (by omega) (by decide)) (ok_sI2 fun σ2 n2 u2 f2 => ok_gd (ib_nI (by omega) (by decide)) (ok_sI2 fun σ3 n3 u3 f3 => k σ3 ?_))))))
      rw [n1 118 (by decide), j4 118 (by decide)] at u2
      rw [j4 116 (by decide)] at u1
      refine ⟨fun s hs => ?_, fun j a b => ?_, ?_, fun q hq => by rw [n3 q hq, n2 q hq, n1 q hq, j4 q hq]⟩
      · rw [u3]
        by_cases e : s = i
        · subst e
          refine ⟨?_, ?_, ?_⟩
          · rw [pk_un (by omega), u2, pk_un (by omega), u1, pk_us]
          · rw [pk_un (by omega), u2, pk_us]
          · rw [pk_us]
        · have := j1 s (by omega)
          rw [pk_un (by omega), pk_un (by omega), pk_un (by omega), u2, pk_un (by omega), pk_un (by omega), pk_un (by omega), u1, pk_un (by omega), pk_un (by omega), pk_un (by omega)]
          exact this
      · rw [u3, pk_un (by omega), u2, pk_un (by omega), u1, pk_un (by omega)]; exact j2 j a b
      · rw [u3, pk_un (by omega), u2, pk_un (by omega), u1, pk_un (by omega)]; exact j3
    · intro m b hI
      show Ok (b_X12_begin_23 N (RR t) 90 (f_X12_begin_23 N (RR t) 90 m) (nI n) b) _
      unfold b_X12_begin_23
      rw [hI.2.2.2 90 (by decide), h50]
      exact ok_pos (Int32.le_refl _) (ok_ret hI)
def ChQ (n : Nat) (σ : St) (r : Int32) (σ' : St) : Prop := r = nI n ∧ (∀ s, s < n → σ'.1 119 s = σ.1 116 s ∧ σ'.1 119 (5 + s) = σ.1 118 s ∧ σ'.1 119 (10 + s) = 0 ∧ σ'.1 119 (15 + s) = -1) ∧ (σ'.1 119 20 = 0 ∧ σ'.1 119 21 = σ.1 90 48) ∧ (σ'.1 90 62 = 0 ∧ σ'.1 90 63 = 0 ∧ σ'.1 90 74 = 0 ∧ σ'.1 90 65 = 0) ∧ (∀ k, k ≠ 62 → k ≠ 63 → k ≠ 74 → k ≠ 65 → σ'.1 90 k = σ.1 90 k) ∧ (∀ b, b < 3 → σ'.1 138 b = 0) ∧ ∀ q, q ≠ 90 → q ≠ 119 → q ≠ 120 → q ≠ 138 → σ'.1 q = σ.1 q
theorem s_chT {N t n : Nat} {σ : St} (hN : 20000 ≤ N) (hn : n ≤ 5) (h50 : σ.1 90 50 = nI n) : Ok (chT N (RR t) σ) (ChQ n σ) := by
  unfold chT
  refine ok_call (s_begM hN hn h50) (fun _ σ1 z1 => ?_)
  obtain ⟨b1, b2, b3, b4⟩ := z1
  rw [r_90_57 rfl, show (21 : Int32).toNatClampNeg = 21 from rfl]
  refine ok_gd rfl (ok_sI2 fun σ2 n2 u2 f2 => ok_call (s_keepAir hN rfl) (fun _ σ3 z3 => ?_))
  obtain ⟨c1, c2⟩ := z3
  rw [b4 90 (by decide)] at u2
  refine ok_sI2 fun σ4 n4 u4 f4 => ok_sI2 fun σ5 n5 u5 f5 => ok_sI2 fun σ6 n6 u6 f6 => ok_sI2 fun σ7 n7 u7 f7 => ?_
  have e90 : σ3.1 90 = σ.1 90 := by rw [(c2 90 (by decide)).1, n2 90 (by decide), b4 90 (by decide)]
  have eq : ∀ q, q ≠ 90 → σ7.1 q = σ3.1 q := fun q hq => by rw [n7 q hq, n6 q hq, n5 q hq, n4 q hq]
  have g119 : ∀ j, j < 22 → σ7.1 119 j = σ2.1 120 j := fun j hj => by rw [eq 119 (by decide)]; exact c1 j hj
  have k90 : ∀ k, k ≠ 62 → k ≠ 63 → k ≠ 74 → k ≠ 65 → σ7.1 90 k = σ.1 90 k := fun k a b c d => by rw [u7, pk_un d, u6, pk_un c, u5, pk_un b, u4, pk_un a, e90]
  have z90 : σ7.1 90 62 = 0 ∧ σ7.1 90 63 = 0 ∧ σ7.1 90 74 = 0 ∧ σ7.1 90 65 = 0 := by
    rw [u7, u6, u5, u4]
    exact ⟨rfl, rfl, rfl, rfl⟩
  have oq : ∀ q, q ≠ 90 → q ≠ 119 → q ≠ 120 → σ7.1 q = σ.1 q := fun q a b c => by rw [eq q a, (c2 q b).1, n2 q c, b4 q c]
  have s119 : ∀ s, s < n → σ7.1 119 s = σ.1 116 s ∧ σ7.1 119 (5 + s) = σ.1 118 s ∧ σ7.1 119 (10 + s) = 0 ∧ σ7.1 119 (15 + s) = -1 := fun s hs => by
    obtain ⟨y1, y2, y3⟩ := b1 s hs
    rw [g119 s (by omega), g119 (5 + s) (by omega), g119 (10 + s) (by omega), g119 (15 + s) (by omega), u2, pk_un (by omega), pk_un (by omega), pk_un (by omega), pk_un (by omega)]
    exact ⟨y1, y2, b2 (10 + s) (by omega) (by omega), y3⟩
  have d119 : σ7.1 119 20 = 0 ∧ σ7.1 119 21 = σ.1 90 48 := by
    rw [g119 20 (by decide), g119 21 (by decide), u2, pk_un (by decide), pk_us]
    exact ⟨b3, rfl⟩
  refine lp (F := fun m i b => f_X12_chapel_312 N (RR t) 90 m (nI i) b) 3 (fun i b => (∀ j, j < i → b.1 138 j = 0) ∧ ∀ q, q ≠ 138 → b.1 q = σ7.1 q) ?_ ?_ N 0 σ7 (Nat.zero_le _) (by omega) ⟨fun j hj => absurd hj (Nat.not_lt_zero _), fun _ _ => rfl⟩
  · intro m i b hi hI k
    obtain ⟨i1, i2⟩ := hI
    show Ok (b_X12_chapel_312 N (RR t) 90 (f_X12_chapel_312 N (RR t) 90 m) (nI i) b) _
    unfold b_X12_chapel_312
    rw [r_90_80 rfl, nI_clamp (show i < 2 ^ 31 by omega), nI_1 i, show vp_nar .boolean 0 = (0 : Int32) from rfl]
    refine ok_neg (show ¬ nI 3 ≤ nI i from nI_ge hi (by decide)) (ok_gd (ib_nI hi (by decide)) (ok_sI2 fun σ8 n8 u8 f8 => k σ8 ⟨fun j hj => ?_, fun q hq => by rw [n8 q hq, i2 q hq]⟩))
    rw [u8]
    by_cases e : j = i
    · rw [e, pk_us]
    · rw [pk_un e]; exact i1 j (by omega)
  · intro m b hI
    obtain ⟨i1, i2⟩ := hI
    show Ok (b_X12_chapel_312 N (RR t) 90 (f_X12_chapel_312 N (RR t) 90 m) (nI 3) b) _
    unfold b_X12_chapel_312
    refine ok_pos (by decide) (ok_ret ⟨?_, fun s hs => ?_, ?_, ?_, fun k a b c d => ?_, i1, fun q a b c d => ?_⟩)
    · rw [i2 90 (by decide), k90 50 (by decide) (by decide) (by decide) (by decide)]; exact h50
    · rw [i2 119 (by decide)]; exact s119 s hs
    · rw [i2 119 (by decide)]; exact d119
    · rw [i2 90 (by decide)]; exact z90
    · rw [i2 90 (by decide)]; exact k90 k a b c d
    · rw [i2 q d]; exact oq q a b c
/-- what the model has told, after a text without a fault -/
def McQ (D : Dr) (σ : St) (r : Int32) (σ' : St) : Prop := r = nI (ns (dc D)) ∧ RepM (dc D) σ' ∧ RepA 119 (dc D) (bgn (dc D) (dt (dc D) 8 2)) σ' ∧ (σ'.1 90 62 = 0 ∧ σ'.1 90 63 = 0 ∧ σ'.1 90 74 = 0 ∧ σ'.1 90 65 = 0) ∧ (∀ k, k ≠ 62 → k ≠ 63 → k ≠ 74 → k ≠ 65 → k ≠ 23 → ¬ (49 ≤ k ∧ k ≤ 52) → σ'.1 90 k = σ.1 90 k) ∧ (∀ b, b < 3 → σ'.1 138 b = 0)
theorem s_chapM {N t : Nat} {D : Dr} {σ : St} (hN : 20000 ≤ N) (wf : WfD D) (dm : DM D σ) : Ok (nmd (sI σ 90 49 (σ.1 90 44)) fun σ61 => nmd (sI σ61 90 50 (σ61.1 90 45)) fun σ62 => nmd (sI σ62 90 51 (σ62.1 90 46)) fun σ63 => nmd (sI σ63 90 52 (σ63.1 90 47)) fun σ64 => nmd (sI σ64 90 23 (σ64.1 90 22)) fun σ65 => f_X12_chapel_55 N (RR t) 90 N 0 σ65) (McQ D σ) := by
  obtain ⟨⟨d1, d2, d3, d4⟩, ⟨d5, d6⟩, d7, d8, d9, d10⟩ := dm
  have w1 := wf.1
  have l1 : nh (dc D) ≤ 6 := w1.1
  have l2 : ns (dc D) ≤ 5 := w1.2.1
  refine ok_sI2 fun σ1 n1 u1 f1 => ok_sI2 fun σ2 n2 u2 f2 => ok_sI2 fun σ3 n3 u3 f3 => ok_sI2 fun σ4 n4 u4 f4 => ok_sI2 fun σ5 n5 u5 f5 => ?_
  rw [u1, pk_un (by decide)] at u2
  rw [u2, pk_un (by decide), pk_un (by decide)] at u3
  rw [u3, pk_un (by decide), pk_un (by decide), pk_un (by decide)] at u4
  rw [u4, pk_un (by decide), pk_un (by decide), pk_un (by decide), pk_un (by decide)] at u5
  have eq : ∀ q, q ≠ 90 → σ5.1 q = σ.1 q := fun q hq => by rw [n5 q hq, n4 q hq, n3 q hq, n2 q hq, n1 q hq]
  have k5 : ∀ k, k ≠ 23 → ¬ (49 ≤ k ∧ k ≤ 52) → σ5.1 90 k = σ.1 90 k := fun k a b => by rw [u5, pk_un a, pk_un (by omega), pk_un (by omega), pk_un (by omega), pk_un (by omega)]
  have h49 : σ5.1 90 49 = nI (nh (dc D)) := by rw [u5, pk_un (by decide), pk_un (by decide), pk_un (by decide), pk_un (by decide), pk_us]; exact d1 0 (by decide)
  have h50 : σ5.1 90 50 = nI (ns (dc D)) := by rw [u5, pk_un (by decide), pk_un (by decide), pk_un (by decide), pk_us]; exact d1 1 (by decide)
  have h51 : σ5.1 90 51 = nI (dt (dc D) 8 0) := by rw [u5, pk_un (by decide), pk_un (by decide), pk_us]; exact d2 0 (by decide)
  have h52 : σ5.1 90 52 = nI (dt (dc D) 8 1) := by rw [u5, pk_un (by decide), pk_us]; exact d2 1 (by decide)
  have h23 : σ5.1 90 23 = nI (dt (dc D) 8 3) := by rw [u5, pk_us, d4, wf.2.1.2.2.2.2]
  refine cp_55 hN (Nat.le_trans w1.2.2.2.2.2.2.2.2.1.1 (by decide)) (Nat.le_trans w1.2.2.2.2.2.2.2.2.2.1 (by decide)) (by rw [eq 101 (by decide)]; exact d5) (fun z => em_cg (d9 z) (fun q a b => eq q (by omega))) (by rw [eq 101 (by decide)]; exact d6) (fun z => em_cg (d10 z) (fun q a b => eq q (by omega))) (fun σ6 f0 f1' q6 x6 => ?_)
  refine ch_145 hN l1 (by rw [q6 90 (by omega)]; exact h49) (fun σ7 c7 => ?_)
  refine ch_209 hN l2 (by rw [c7.2.1 90 (by omega), q6 90 (by omega)]; exact h50) (fun σ8 c8 => ?_)
  have e90 : σ8.1 90 = σ5.1 90 := by rw [c8.2.1 90 (by omega), c7.2.1 90 (by omega), q6 90 (by omega)]
  refine ok_mono (s_chT hN l2 (by rw [e90]; exact h50)) (fun r σ9 z9 => ?_)
  obtain ⟨r9, a9, b9, c9, k9, g9, o9⟩ := z9
  have s8 : ∀ k i, 4 ≤ k → k < 8 → i < ns (dc D) → σ8.1 (111 + k) i = nI (dt (dc D) k i) := fun k i hk hk' hi => by
    have y := c8.1 (k - 4) (by omega) i hi
    rw [show 111 + 4 + (k - 4) = 111 + k by omega, show 103 + 4 + (k - 4) = 103 + k by omega, c7.2.1 (103 + k) (by omega), q6 (103 + k) (by omega), eq (103 + k) (by omega)] at y
    rw [y]
    exact d7 k i hk' (by rw [show k / 4 = 1 by omega]; exact hi)
  have s7 : ∀ k i, k < 4 → i < nh (dc D) → σ8.1 (111 + k) i = nI (dt (dc D) k i) := fun k i hk hi => by
    have y := c7.1 k hk i hi
    rw [show 111 + 0 + k = 111 + k by omega, show 103 + 0 + k = 103 + k by omega, q6 (103 + k) (by omega), eq (103 + k) (by omega)] at y
    rw [c8.2.1 (111 + k) (by omega), y]
    exact d7 k i (by omega) (by rw [show k / 4 = 0 by omega]; exact hi)
  have fm : ∀ q, 96 ≤ q → q ≤ 98 → σ9.1 q = σ6.1 q := fun q a b => by rw [o9 q (by omega) (by omega) (by omega) (by omega), c8.2.1 q (by omega), c7.2.1 q (by omega)]
  refine ⟨r9, ⟨?_, ?_, ?_, ?_, ?_, fun k i hk hi => ?_, fun k i hk hk' hi => ?_, ?_, fun j hj => ?_, ?_, fun j hj => ?_⟩, ⟨fun s hs => ?_, ?_, ?_⟩, c9, fun k a b c d e f => ?_, g9⟩
  · rw [k9 49 (by decide) (by decide) (by decide) (by decide), e90]; exact h49
  · rw [k9 50 (by decide) (by decide) (by decide) (by decide), e90]; exact h50
  · rw [k9 51 (by decide) (by decide) (by decide) (by decide), e90]; exact h51
  · rw [k9 52 (by decide) (by decide) (by decide) (by decide), e90]; exact h52
  · rw [k9 23 (by decide) (by decide) (by decide) (by decide), e90]; exact h23
  · rw [o9 _ (by omega) (by omega) (by omega) (by omega)]; exact s7 k i hk hi
  · rw [o9 _ (by omega) (by omega) (by omega) (by omega)]; exact s8 k i hk hk' hi
  · rw [fm 98 (by decide) (by decide)]; exact f0.1
  · rw [fm 96 (by decide) (by decide), fm 97 (by decide) (by decide)]; exact f0.2 j hj
  · rw [fm 98 (by decide) (by decide)]; exact f1'.1
  · rw [fm 96 (by decide) (by decide), fm 97 (by decide) (by decide)]; exact f1'.2 j hj
  · obtain ⟨y1, y2, y3, y4⟩ := a9 s hs
    rw [y1, y2, y3, y4]
    exact ⟨s8 5 s (by decide) (by decide) hs, s8 7 s (by decide) (by decide) hs, rfl, rfl⟩
  · rw [b9.1]; rfl
  · rw [b9.2, e90, k5 48 (by decide) (by omega)]
    exact d2 2 (by decide)
  · rw [k9 k a b c d, e90, k5 k e f]
