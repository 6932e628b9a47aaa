/-! THE MODEL's CHAPEL behind its text: copies -/
theorem m320 (w : Nat) : (320 : Int32) * nI w = nI (320 * w) := by rw [show (320 : Int32) = nI 320 from rfl, pk_mul]
def CpQ (w k n : Nat) (σ σ' : St) : Prop := (∀ i, k ≤ i → i < n → σ'.1 96 (320 * w + i) = σ.1 93 (320 * w + i) ∧ σ'.1 97 (320 * w + i) = σ.1 94 (320 * w + i)) ∧ (∀ j, j < 320 * w + k ∨ 320 * w + n ≤ j → σ'.1 96 j = σ.1 96 j ∧ σ'.1 97 j = σ.1 97 j) ∧ (∀ q, q ≠ 96 → q ≠ 97 → σ'.1 q = σ.1 q) ∧ σ'.2 = σ.2
theorem cp_91 {N t w n : Nat} {rec : Int32 → St → Option (Int32 × St)} {Q : Int32 → St → Prop} (hw : w < 2) (hn : n ≤ 320) : ∀ m k σ, k ≤ n → n - k < m → σ.1 98 w = nI n → (∀ σ', CpQ w k n σ σ' → Ok (rec (nI (w + 1)) σ') Q) → Ok (f_X12_chapel_91 N (RR t) 90 rec m (nI w) (nI (320 * w + k)) σ) Q := by
  intro m
  induction m with
  | zero => intro k σ _ h; exact absurd h (Nat.not_lt_zero _)
  | succ m ih =>
    intro k σ hk hm h98 kk
    show Ok (b_X12_chapel_91 N (RR t) 90 rec (f_X12_chapel_91 N (RR t) 90 rec m) (nI w) (nI (320 * w + k)) σ) _
    unfold b_X12_chapel_91
    rw [r_90_16 rfl, r_90_14 rfl, r_90_15 rfl, r_90_11 rfl, r_90_12 rfl, nI_clamp (show w < 2 ^ 31 by omega), nI_clamp (show 320 * w + k < 2 ^ 31 by omega), h98, m320, nI_add, nI_1 w, nI_1 (320 * w + k)]
    refine ok_gd (ib_nI hw (by decide)) ?_
    by_cases e : k = n
    · subst e
      exact ok_pos (Int32.le_refl _) (kk σ ⟨fun i a b => absurd b (by omega), fun _ _ => ⟨rfl, rfl⟩, fun _ _ _ => rfl, rfl⟩)
    · have hi : ib (nI (320 * w + k)) 640 = true := ib_nI (by omega) (by decide)
      refine ok_neg (nI_ge (by omega) (by omega)) (ok_gd hi (ok_gd hi (ok_sI2 fun σ1 n1 u1 f1 => ok_gd hi (ok_gd hi (ok_sI2 fun σ2 n2 u2 f2 => ?_)))))
      rw [n1 94 (by decide), n1 97 (by decide)] at u2
      refine ih (k + 1) σ2 (by omega) (by omega) (by rw [n2 98 (by decide), n1 98 (by decide)]; exact h98) (fun σ' z => kk σ' ?_)
      obtain ⟨z1, z2, z3, z4⟩ := z
      refine ⟨fun i a b => ?_, fun j hj => ?_, fun q a b => by rw [z3 q a b, n2 q b, n1 q a], by rw [z4, f2, f1]⟩
      · by_cases ei : i = k
        · subst ei
          have y := z2 (320 * w + i) (Or.inl (by omega))
          rw [y.1, y.2, n2 96 (by decide), u1, pk_us, u2, pk_us]
          exact ⟨rfl, rfl⟩
        · have y := z1 i (by omega) b
          rw [n2 93 (by decide), n1 93 (by decide), n2 94 (by decide), n1 94 (by decide)] at y
          exact y
      · have y := z2 j (by omega)
        rw [y.1, y.2, n2 96 (by decide), u1, pk_un (by omega), u2, pk_un (by omega)]
        exact ⟨rfl, rfl⟩
def FmM (w : Nat) (E : List Cd) (σ : St) : Prop := σ.1 98 w = nI E.length ∧ ∀ j, j < E.length → σ.1 96 (320 * w + j) = encS (E.getD j (.inl 0)) ∧ σ.1 97 (320 * w + j) = encA (E.getD j (.inl 0))
def CwQ (w : Nat) (σ σ' : St) : Prop := (∀ q, q < 96 ∨ 98 < q → σ'.1 q = σ.1 q) ∧ (∀ k, k ≠ w → σ'.1 98 k = σ.1 98 k) ∧ (∀ j, j < 320 * w ∨ 320 * w + 320 ≤ j → σ'.1 96 j = σ.1 96 j ∧ σ'.1 97 j = σ.1 97 j) ∧ σ'.2 = σ.2
theorem cp_step {N t w : Nat} {E : List Cd} {rec : Int32 → St → Option (Int32 × St)} {Q : Int32 → St → Prop} {σ : St} (hN : 20000 ≤ N) (hw : w < 2) (hl : E.length ≤ 320) (h1 : σ.1 101 w = fl (decide (E ≠ []))) (h2 : E ≠ [] → EmM w E σ) (kk : ∀ σ', FmM w E σ' → CwQ w σ σ' → Ok (rec (nI (w + 1)) σ') Q) : Ok (b_X12_chapel_55 N (RR t) 90 rec (nI w) σ) Q := by
  have go : ∀ n, n ≤ 320 → n = E.length → (∀ j, j < n → σ.1 93 (320 * w + j) = encS (E.getD j (.inl 0)) ∧ σ.1 94 (320 * w + j) = encA (E.getD j (.inl 0))) → Ok (f_X12_chapel_84 N (RR t) 90 rec (nI w) (nI n) (nI w) σ) Q := by
    intro n hn en hc
    unfold f_X12_chapel_84
    rw [r_90_16 rfl, nI_clamp (show w < 2 ^ 31 by omega), m320]
    refine ok_gd (ib_nI hw (by decide)) (ok_sI2 fun σ1 n1 u1 f1 => ok_nmd ?_)
    refine cp_91 hw hn N 0 σ1 (Nat.zero_le _) (by omega) (by rw [u1, pk_us]) (fun σ' z => ?_)
    obtain ⟨z1, z2, z3, z4⟩ := z
    refine kk σ' ⟨by rw [z3 98 (by decide) (by decide), u1, pk_us, en], fun j hj => ?_⟩ ⟨fun q hq => by rw [z3 q (by omega) (by omega), n1 q (by omega)], fun k hk => by rw [z3 98 (by decide) (by decide), u1, pk_un hk], fun j hj => ?_, by rw [z4, f1]⟩
    · have y := z1 j (Nat.zero_le _) (by omega)
      rw [n1 93 (by decide), n1 94 (by decide)] at y
      rw [y.1, y.2]
      exact hc j (by omega)
    · have y := z2 j (by omega)
      rw [n1 96 (by decide), n1 97 (by decide)] at y
      exact y
  unfold b_X12_chapel_55
  rw [r_90_19 rfl, r_90_13 rfl, nI_clamp (show w < 2 ^ 31 by omega), h1]
  refine ok_neg (show ¬ nI 2 ≤ nI w from nI_ge hw (by decide)) (ok_gd (ib_nI hw (by decide)) ?_)
  by_cases c : E = []
  · rw [fl_n (fun z => z c)]
    refine ok_pos rfl ?_
    exact go 0 (by decide) (by rw [c]; rfl) (fun j hj => absurd hj (Nat.not_lt_zero _))
  · rw [fl_y c]
    refine ok_neg (by decide) (ok_gd (ib_nI hw (by decide)) ?_)
    rw [(h2 c).1]
    exact go E.length hl rfl (h2 c).2
/-- both formulas -/
theorem cp_55 {N t : Nat} {E F : List Cd} {Q : Int32 → St → Prop} {σ : St} (hN : 20000 ≤ N) (hE : E.length ≤ 320) (hF : F.length ≤ 320) (h1 : σ.1 101 0 = fl (decide (E ≠ []))) (h2 : E ≠ [] → EmM 0 E σ) (h3 : σ.1 101 1 = fl (decide (F ≠ []))) (h4 : F ≠ [] → EmM 1 F σ) (kk : ∀ σ', FmM 0 E σ' → FmM 1 F σ' → (∀ q, q < 96 ∨ 98 < q → σ'.1 q = σ.1 q) → σ'.2 = σ.2 → Ok (f_X12_chapel_145 N (RR t) 90 N 0 σ') Q) : Ok (f_X12_chapel_55 N (RR t) 90 N 0 σ) Q := by
  obtain ⟨M, hM⟩ : ∃ M, N = M + 3 := ⟨N - 3, by omega⟩
  have e : f_X12_chapel_55 N (RR t) 90 N = f_X12_chapel_55 N (RR t) 90 (M + 3) := by rw [← hM]
  rw [e]
  refine cp_step (w := 0) hN (by decide) hE h1 h2 (fun σ1 f1 c1 => ?_)
  show Ok (b_X12_chapel_55 N (RR t) 90 (f_X12_chapel_55 N (RR t) 90 (M + 1)) (nI 1) σ1) _
  have em : F ≠ [] → EmM 1 F σ1 := fun z => em_cg (h4 z) (fun q a b => c1.1 q (by omega))
  refine cp_step (w := 1) hN (by decide) hF (by rw [c1.1 101 (by omega)]; exact h3) em (fun σ2 f2 c2 => ?_)
  show Ok (b_X12_chapel_55 N (RR t) 90 (f_X12_chapel_55 N (RR t) 90 M) (nI 2) σ2) _
  unfold b_X12_chapel_55
  refine ok_pos (by decide) (kk σ2 ⟨by rw [c2.2.1 0 (by decide)]; exact f1.1, fun j hj => ?_⟩ f2 (fun q hq => by rw [c2.1 q hq, c1.1 q hq]) (by rw [c2.2.2.2, c1.2.2.2]))
  have y := c2.2.2.1 (320 * 0 + j) (Or.inl (by omega))
  rw [y.1, y.2]
  exact f1.2 j hj
def HcQ (a i : Nat) (σ σ' : St) : Prop := (∀ k, k < 4 → ∀ h, h < i → σ'.1 (111 + a + k) h = σ.1 (103 + a + k) h) ∧ (∀ q, q < 111 + a ∨ 114 + a < q → σ'.1 q = σ.1 q) ∧ σ'.2 = σ.2
theorem hc_step {a i : Nat} {σ σ1 σ2 σ3 σ4 σ5 : St} (ha : a = 0 ∨ a = 4) (h : HcQ a i σ σ1) (n2 : ∀ q, q ≠ 111 + a → σ2.1 q = σ1.1 q) (u2 : σ2.1 (111 + a) = upd (σ1.1 (111 + a)) i (σ1.1 (103 + a) i)) (f2 : σ2.2 = σ1.2) (n3 : ∀ q, q ≠ 112 + a → σ3.1 q = σ2.1 q) (u3 : σ3.1 (112 + a) = upd (σ2.1 (112 + a)) i (σ2.1 (104 + a) i)) (f3 : σ3.2 = σ2.2) (n4 : ∀ q, q ≠ 113 + a → σ4.1 q = σ3.1 q) (u4 : σ4.1 (113 + a) = upd (σ3.1 (113 + a)) i (σ3.1 (105 + a) i)) (f4 : σ4.2 = σ3.2) (n5 : ∀ q, q ≠ 114 + a → σ5.1 q = σ4.1 q) (u5 : σ5.1 (114 + a) = upd (σ4.1 (114 + a)) i (σ4.1 (106 + a) i)) (f5 : σ5.2 = σ4.2) : HcQ a (i + 1) σ σ5 := by
  obtain ⟨h1, h2, h3⟩ := h
  refine ⟨fun k hk h hh => ?_, fun q hq => by rw [n5 q (by omega), n4 q (by omega), n3 q (by omega), n2 q (by omega), h2 q hq], by rw [f5, f4, f3, f2, h3]⟩
  rcases (show k = 0 ∨ k = 1 ∨ k = 2 ∨ k = 3 by omega) with rfl | rfl | rfl | rfl
  · rw [Nat.add_zero, Nat.add_zero, n5 _ (by omega), n4 _ (by omega), n3 _ (by omega), u2]
    by_cases e : h = i
    · rw [e, pk_us, h2 _ (by omega)]
    · rw [pk_un e]; exact h1 0 (by decide) h (by omega)
  · rw [n5 _ (by omega), n4 _ (by omega), show 111 + a + 1 = 112 + a by omega, u3, n2 (104 + a) (by omega), n2 (112 + a) (by omega)]
    by_cases e : h = i
    · rw [e, pk_us, h2 _ (by omega), show 103 + a + 1 = 104 + a by omega]
    · rw [pk_un e, show 112 + a = 111 + a + 1 by omega]; exact h1 1 (by decide) h (by omega)
  · rw [n5 _ (by omega), show 111 + a + 2 = 113 + a by omega, u4, n3 (105 + a) (by omega), n3 (113 + a) (by omega), n2 (105 + a) (by omega), n2 (113 + a) (by omega)]
    by_cases e : h = i
    · rw [e, pk_us, h2 _ (by omega), show 103 + a + 2 = 105 + a by omega]
    · rw [pk_un e, show 113 + a = 111 + a + 2 by omega]; exact h1 2 (by decide) h (by omega)
  · rw [show 111 + a + 3 = 114 + a by omega, u5, n4 (106 + a) (by omega), n4 (114 + a) (by omega), n3 (106 + a) (by omega), n3 (114 + a) (by omega), n2 (106 + a) (by omega), n2 (114 + a) (by omega)]
    by_cases e : h = i
    · rw [e, pk_us, h2 _ (by omega), show 103 + a + 3 = 106 + a by omega]
    · rw [pk_un e, show 114 + a = 111 + a + 3 by omega]; exact h1 3 (by decide) h (by omega)
theorem ch_145 {N t n : Nat} {Q : Int32 → St → Prop} {σ : St} (hN : 20000 ≤ N) (hn : n ≤ 6) (h49 : σ.1 90 49 = nI n) (kk : ∀ σ', HcQ 0 n σ σ' → Ok (f_X12_chapel_209 N (RR t) 90 N 0 σ') Q) : Ok (f_X12_chapel_145 N (RR t) 90 N 0 σ) Q := by
  refine lp (F := fun m i b => f_X12_chapel_145 N (RR t) 90 m (nI i) b) n (fun i b => HcQ 0 i σ b) ?_ ?_ N 0 σ (Nat.zero_le _) (by omega) ⟨fun k _ h hh => absurd hh (Nat.not_lt_zero _), fun _ _ => rfl, rfl⟩
  · intro m i b hi hI k
    show Ok (b_X12_chapel_145 N (RR t) 90 (f_X12_chapel_145 N (RR t) 90 m) (nI i) b) _
    unfold b_X12_chapel_145
    have hi6 : ib (nI i) 6 = true := ib_nI (by omega) (by decide)
    rw [hI.2.1 90 (by omega), h49, nI_clamp (show i < 2 ^ 31 by omega), nI_1 i, r_90_36 rfl, r_90_37 rfl, r_90_38 rfl, r_90_39 rfl, r_90_28 rfl, r_90_29 rfl, r_90_30 rfl, r_90_31 rfl]
    refine ok_neg (nI_ge hi (by omega)) (ok_gd hi6 (ok_gd hi6 (ok_sI2 fun σ2 n2 u2 f2 => ok_gd hi6 (ok_gd hi6 (ok_sI2 fun σ3 n3 u3 f3 => ok_gd hi6 (ok_gd hi6 (ok_sI2 fun σ4 n4 u4 f4 => ok_gd hi6 (ok_gd hi6 (ok_sI2 fun σ5 n5 u5 f5 => k σ5 ?_)))))))))
    exact hc_step (Or.inl rfl) hI n2 u2 f2 n3 u3 f3 n4 u4 f4 n5 u5 f5
  · intro m b hI
    show Ok (b_X12_chapel_145 N (RR t) 90 (f_X12_chapel_145 N (RR t) 90 m) (nI n) b) _
    unfold b_X12_chapel_145
    rw [hI.2.1 90 (by omega), h49]
    exact ok_pos (Int32.le_refl _) (kk b hI)
def chT (N : Nat) (ρ : Nat → Nat → Nat) (σ : St) : Option (Int32 × St) :=
    bnd (f_X12_begin N ρ 90 σ) fun _ σ17 =>
    gd (ib 21 22) <|
    nmd (sI σ17 (ρ 90 57) (21 : Int32).toNatClampNeg (σ17.1 90 48)) fun σ20 =>
    bnd (f_X12_keepAir N ρ 90 σ20) fun _ σ22 =>
    nmd (sI σ22 90 62 0) fun σ24 =>
    nmd (sI σ24 90 63 0) fun σ25 =>
    nmd (sI σ25 90 74 0) fun σ26 =>
    nmd (sI σ26 90 65 0) fun σ27 =>
    f_X12_chapel_312 N ρ 90 N 0 σ27
theorem ch_209 {N t n : Nat} {Q : Int32 → St → Prop} {σ : St} (hN : 20000 ≤ N) (hn : n ≤ 5) (h50 : σ.1 90 50 = nI n) (kk : ∀ σ', HcQ 4 n σ σ' → Ok (chT N (RR t) σ') Q) : Ok (f_X12_chapel_209 N (RR t) 90 N 0 σ) Q := by
  refine lp (F := fun m i b => f_X12_chapel_209 N (RR t) 90 m (nI i) b) n (fun i b => HcQ 4 i σ b) ?_ ?_ N 0 σ (Nat.zero_le _) (by omega) ⟨fun k _ h hh => absurd hh (Nat.not_lt_zero _), fun _ _ => rfl, rfl⟩
  · intro m i b hi hI k
    show Ok (b_X12_chapel_209 N (RR t) 90 (f_X12_chapel_209 N (RR t) 90 m) (nI i) b) _
    unfold b_X12_chapel_209
    have hi6 : ib (nI i) 5 = true := ib_nI (by omega) (by decide)
    rw [hI.2.1 90 (by omega), h50, nI_clamp (show i < 2 ^ 31 by omega), nI_1 i, r_90_40 rfl, r_90_41 rfl, r_90_42 rfl, r_90_43 rfl, r_90_32 rfl, r_90_33 rfl, r_90_34 rfl, r_90_35 rfl]
    refine ok_neg (nI_ge hi (by omega)) (ok_gd hi6 (ok_gd hi6 (ok_sI2 fun σ2 n2 u2 f2 => ok_gd hi6 (ok_gd hi6 (ok_sI2 fun σ3 n3 u3 f3 => ok_gd hi6 (ok_gd hi6 (ok_sI2 fun σ4 n4 u4 f4 => ok_gd hi6 (ok_gd hi6 (ok_sI2 fun σ5 n5 u5 f5 => k σ5 ?_)))))))))
    exact hc_step (Or.inr rfl) hI n2 u2 f2 n3 u3 f3 n4 u4 f4 n5 u5 f5
  · intro m b hI
    show Ok (b_X12_chapel_209 N (RR t) 90 (f_X12_chapel_209 N (RR t) 90 m) (nI n) b) _
    unfold b_X12_chapel_209
    rw [hI.2.1 90 (by omega), h50]
    exact ok_pos (Int32.le_refl _) (kk b hI)
