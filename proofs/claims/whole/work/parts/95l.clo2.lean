/-! THE MODEL's RUN follows the yard: units and ends -/
theorem ym_add {N t w n0 p u : Nat} {τ : Tape} {σ0 σ : St} {O : List Nat} {E : List Cd} {c : Cd} {x y' : Int32} (hw : w < 2) (hl : E.length < 320) (hx : x = encS c) (hy : y' = encA c) (y : YM τ w n0 σ0 p O E u σ) : Ok (f_X12_add N (RR t) 90 x y' σ) (fun _ σ' => YM τ w n0 σ0 p O (E ++ [c]) u σ') := by
  obtain ⟨y1, y2, y3, y4, y5, y6, y7, y8, y9, y10, y11, y12⟩ := y
  refine ok_mono (s_addM (c := c) hw y4 y10 hl hx hy) (fun r σ' h => ?_)
  obtain ⟨g1, g2, g3, g4⟩ := h
  have e90 := g3 90 (by decide)
  refine ⟨TapM_cg y1 (by rw [e90]) (g3 91 (by decide)), lm_cg y2 (fun k _ => by rw [e90]) g4, by rw [e90]; exact y3, by rw [e90]; exact y4, by rw [e90]; exact y5, by rw [g3 99 (by decide)]; exact y6, by rw [e90]; exact y7, by rw [e90]; exact y8, by rw [e90]; exact y9, g1, ot_trans y11 g2, fun j hj => by rw [e90]; exact y12 j hj⟩
theorem u_101 {N t w n0 p u m : Nat} {τ : Tape} {σ0 σ : St} {O : List Nat} {E : List Cd} (hb : ∀ j, j < τ.1 → τ.2 j < 256) (h9 : ¬ (tk τ p = 9 ∧ stp 4 O)) (h40 : tk τ p ≠ 40) (bd : Bd true O E u) (y : YM τ w n0 σ0 p O E u σ) : f_X12_unit_2 N (RR t) 90 (m + 2) 1 σ = f_X12_unit_101 N (RR t) 90 σ := by
  rw [u_53 hb h9 bd y]
  unfold f_X12_unit_53
  rw [y.2.1.2.1, if_neg (show ¬ nI (srt (tk τ p)) = (40 : Int32) from fun z => h40 ((srt_40 (tk_lt hb) (a := 40) (by decide) (by decide)).mp z))]
  show b_X12_unit_2 _ _ _ _ _ _ = _
  unfold b_X12_unit_2
  rw [if_pos rfl]
theorem srt_2 {k : Nat} (hk : k < 104) : nI (srt k) = 2 ↔ k = 100 := by
  have key : ∀ k, k < 104 → (decide (nI (srt k) = 2)) = decide (k = 100) := by decide +kernel
  have := key k hk
  rw [Bool.eq_iff_iff] at this
  simpa using this
theorem clo_un {N t w n0 : Nat} {τ : Tape} {σ0 : St} (hN : 20000 ≤ N) (hb : ∀ j, j < τ.1 → τ.2 j < 256) (h0 : n0 ≤ 30) (hw : w < 2) : clun τ (XR N t τ w n0 σ0) := by
  intro p O E u r c hu hc X hp bd σ y n1 n2 hn1 hn2
  obtain ⟨m, rfl⟩ : ∃ m, n1 = m + 2 := ⟨n1 - 2, by omega⟩
  have hk := tk_lt (p := p) hb
  have hcc : (tk τ p = 100 ∧ c = .inl (nI (tv τ p))) ∨ ((1 ≤ tk τ p ∧ tk τ p ≤ 6) ∧ c = .inr (.inl (tk τ p - 1))) := by
    unfold untC at hc
    by_cases h1 : tk τ p = 100
    · rw [if_pos h1] at hc; cases hc; exact Or.inl ⟨h1, rfl⟩
    · rw [if_neg h1] at hc
      by_cases h2 : 1 ≤ tk τ p ∧ tk τ p ≤ 6
      · rw [if_pos h2] at hc; cases hc; exact Or.inr ⟨h2, rfl⟩
      · rw [if_neg h2] at hc; cases hc
  have g := tn_gt (τ := τ) (p := p) (by omega)
  have g' := tn_le hp
  have hlen := (bd_len bd).2
  have go : ∀ x s, x = encA c → s = encS c → ∀ σ1, YM τ w n0 σ0 p O E (u + 1) σ1 → Ok (bnd (f_X12_unit_172 N (RR t) 90 x s σ1) fun _ σ14 => f_X12_formula_50 N (RR t) 90 (nI w) n2 1 σ14) (fun _ σ' => QM τ w n0 σ0 r σ') := by
    intro x s hx hs σ1 y1
    unfold f_X12_unit_172
    rw [bnd_as]
    refine ok_call (ym_add (c := c) hw (by omega) hs hx y1) (fun _ σ2 y2 => ?_)
    rw [bnd_as]
    refine ok_call (ym_tok hN hp (by omega) y2) (fun _ σ3 y3 => ?_)
    have := X g' (bd_un bd hu) σ3 y3 0 n2
    exact ok_bnd rfl (by
      have h2 := X g' (bd_un bd hu) σ3 y3 (τ.1 - tn τ p + 2) n2 (Nat.le_refl _) (by omega)
      rw [if_neg (by decide)] at h2
      exact h2)
  rw [if_pos rfl, u_101 hb (fun z => by omega) (by omega) bd y]
  unfold f_X12_unit_101 f_X12_unit_126 f_X12_unit_138 f_X12_unit_160
  rw [y.2.2.1, if_pos (by decide), bnd_e (s_asked hb y.2.1), y.2.1.2.1]
  rcases hcc with ⟨h1, rfl⟩ | ⟨h1, rfl⟩
  · rw [if_pos ((srt_2 hk).mpr h1), bnd_e (s_full y.2.2.2.2.2.2.2.2.1 y.2.2.2.2.2.2.2.1 h0 (by omega)), decide_eq_false (fun z => z hu), if_pos (show fl false = 0 from rfl), y.2.2.1, if_pos (by decide), bnd_as]
    refine ok_call (ym_count y) (fun _ σ1 y1 => ?_)
    rw [h1, if_neg (show ¬ (0 : Int32) ≤ askv 100 by decide), if_neg (show ¬ (0 : Int32) ≤ askv 100 by decide)]
    exact go _ _ (y1.2.1.2.2.1 h1) rfl σ1 y1
  · have ha : askv (tk τ p) = nI (tk τ p - 1) := if_pos h1
    have hnn : (0 : Int32) ≤ nI (tk τ p - 1) := nI_pos' (by omega)
    rw [if_neg (fun z => by have := (srt_2 hk).mp z; omega), ha, if_neg (i_nlt.mpr hnn), bnd_e (s_full y.2.2.2.2.2.2.2.2.1 y.2.2.2.2.2.2.2.1 h0 (by omega)), decide_eq_false (fun z => z hu), if_pos (show fl false = 0 from rfl), y.2.2.1, if_pos (by decide), bnd_as]
    refine ok_call (ym_count y) (fun _ σ1 y1 => ?_)
    rw [if_pos hnn, if_pos hnn]
    exact go _ _ rfl rfl σ1 y1
theorem clo_unf {N t w n0 : Nat} {τ : Tape} {σ0 : St} (hb : ∀ j, j < τ.1 → τ.2 j < 256) (h0 : n0 ≤ 30) : clunf τ (XR N t τ w n0 σ0) := by
  intro p O E u h9 h40 hn hp bd σ y n1 n2 hn1 hn2
  obtain ⟨m, rfl⟩ : ∃ m, n1 = m + 2 := ⟨n1 - 2, by omega⟩
  have hk := tk_lt (p := p) hb
  have hu30 := bd.2.2.1
  have bad : ∀ x, Ok (f_X12_unit_133 N (RR t) 90 x σ) (fun _ σ' => FltM τ σ0 p σ') := by
    intro x
    unfold f_X12_unit_133 f_X12_unit_138
    exact ok_call (s_wrong hb y.2.1 y.2.2.1 (fun k hk => y.2.2.2.2.2.2.2.2.2.2.2 k (fun z => hk z.1))) (fun _ σ1 h1 => ok_neg (flt_nz h1.1).2 (ok_ret h1.1))
  have full : ¬ untC τ p = none → ∀ x, Ok (f_X12_unit_126 N (RR t) 90 x σ) (fun _ σ' => FltM τ σ0 p σ') := by
    intro hc x
    have hu : ¬ u < 30 := fun z => hn ⟨z, hc⟩
    unfold f_X12_unit_126
    rw [bnd_e (s_full y.2.2.2.2.2.2.2.2.1 y.2.2.2.2.2.2.2.1 h0 hu30), decide_eq_true hu, if_neg (by decide)]
    exact bad x
  rw [if_pos rfl, u_101 hb h9 h40 bd y]
  refine x_unit (n := 0) (p := 0) (k := 0) (σ := σ) ?_ (by omega)
  unfold f_X12_unit_101
  rw [y.2.2.1, if_pos (by decide), bnd_e (s_asked hb y.2.1), y.2.1.2.1]
  by_cases h1 : tk τ p = 100
  · rw [if_pos ((srt_2 hk).mpr h1)]
    exact full (by unfold untC; rw [if_pos h1]; exact fun z => by cases z) _
  · rw [if_neg (fun z => h1 ((srt_2 hk).mp z))]
    by_cases h2 : 1 ≤ tk τ p ∧ tk τ p ≤ 6
    · rw [show askv (tk τ p) = nI (tk τ p - 1) from if_pos h2, if_neg (i_nlt.mpr (nI_pos' (by omega)))]
      exact full (by unfold untC; rw [if_neg h1, if_pos h2]; exact fun z => by cases z) _
    · rw [show askv (tk τ p) = -1 from if_neg h2, if_pos (by decide)]
      exact bad _
