/-! ACTS AND WHAT IS KEPT OF THEM -/
def hD (d : Nat) : Nat := if d < 40 then d + 1 else 40
def hH (d : Nat) (H : Nat → SDat) (Sn : SDat) : Nat → SDat := fun k => if k = hD d then Sn else if d < 40 then H k else H (k + 1)
theorem HOk_add {d u : Nat} {c : CDat} {H : Nat → SDat} {S Sn : SDat} (h : HOk d u c H S) (wn : WfS c Sn) (hn : Sn 4 0 ≤ 999) : HOk (hD d) 0 c (hH d H Sn) Sn := by
  obtain ⟨h1, h2, h3⟩ := h
  refine ⟨by unfold hD; split <;> omega, by simp [hH], fun k hk => ?_⟩
  by_cases e : k = hD d
  · simp only [hH, if_pos e]
    exact ⟨wn, hn⟩
  · simp only [hH, if_neg e]
    unfold hD at e hk
    by_cases hd : d < 40
    · rw [if_pos hd] at e hk
      rw [if_pos hd]
      exact h3 k (by omega)
    · rw [if_neg hd] at e hk
      rw [if_neg hd]
      exact h3 (k + 1) (by omega)
theorem m22 (d : Nat) : nI d * 22 = nI (22 * d) := by
  rw [show (22 : Int32) = nI 22 from rfl, pk_mul, Nat.mul_comm]
theorem m22' (d : Nat) : 22 * nI d = nI (22 * d) := by
  rw [show (22 : Int32) = nI 22 from rfl, pk_mul]
theorem s_add32 {N t dd : Nat} {ρ : Nat → Nat → Nat} {c : CDat} {G : Nat → SDat} {Sn : SDat} {σ : St} (hρ : ρ = RR t) (wf : WfC c) (hd : σ.1 51 1 = nI dd) (hdd : dd < 40) (sl : ∀ k, k ≤ dd → RepKx 52 (22 * k) c (G k) σ) (rs : RepS 41 c Sn σ) :
    Ok (f_X4_add_32 N ρ 51 41 σ) (fun _ σ' => σ'.1 51 1 = nI (dd + 1) ∧ σ'.1 51 2 = nI 0 ∧ (∀ k, k ≤ dd → RepKx 52 (22 * k) c (G k) σ') ∧ RepKx 52 (22 * (dd + 1)) c Sn σ') := by
  have hns := wf.2.1
  unfold f_X4_add_32
  rw [r_51_0 hρ]
  refine ok_sI fun σ1 n1 u1 => ok_sI fun σ2 n2 u2 => ?_
  have e1 : σ2.1 51 1 = nI (dd + 1) := by rw [u2, pk_un (by decide), u1, pk_us, hd, nI_1]
  have e2 : σ2.1 51 2 = nI 0 := by rw [u2, pk_us]; rfl
  have rs2 : RepS 41 c Sn σ2 := RepS_cg rs (fun p a b => by rw [n2 p (by omega), n1 p (by omega)])
  rw [e1, m22]
  refine ok_call (s_keepIn hρ q41 (p := 52) (f := 22 * (dd + 1)) (n1 := 902) (Or.inr (by decide)) (by omega) (by decide) wf rs2) (fun _ σ3 h3 => ok_ret ?_)
  obtain ⟨⟨h31, h32⟩, a3⟩ := h3
  refine ⟨?_, ?_, fun k hk => ?_, h31⟩
  · rw [(a3 51 (by decide)).1]; exact e1
  · rw [(a3 51 (by decide)).1]; exact e2
  · refine RepKx_mv (sl k hk) hns (fun j hj => ?_)
    rw [h32 _ (Or.inl (by omega)), n2 52 (by decide), n1 52 (by decide)]
theorem s_addC {N t d u : Nat} {ρ : Nat → Nat → Nat} {c : CDat} {H : Nat → SDat} {Sn : SDat} {σ : St} (hρ : ρ = RR t) (wf : WfC c) (hdu : d + u ≤ 40) (hx : HX d u c H σ) (rs : RepS 41 c Sn σ) :
    Ok (f_X4_add N ρ 51 41 σ) (fun _ σ' => HX (hD d) 0 c (hH d H Sn) σ' ∧ Ag (fun p => p = 51 ∨ p = 52) σ σ') := by
  have hns := wf.2.1
  refine ok_ag ?_ (fun r σ' e => by have := m_X4_add e; rw [r_51_0 hρ] at this; exact this)
  obtain ⟨h1, h2, h3⟩ := hx
  unfold f_X4_add
  rw [h1, r_51_0 hρ]
  by_cases hd : d < 40
  · refine ok_pos (show nI d < nI 40 from nI_lt hd (by decide)) ?_
    refine ok_mono (s_add32 hρ wf h1 hd (fun k hk => h3 k (by omega)) rs) (fun _ σ' hp => ?_)
    obtain ⟨g1, g2, g3, g4⟩ := hp
    have eD : hD d = d + 1 := if_pos hd
    refine ⟨by rw [eD]; exact g1, g2, fun k hk => ?_⟩
    rw [eD] at hk
    by_cases e : k = d + 1
    · subst e
      simp only [hH, eD, if_pos]
      exact g4
    · simp only [hH, eD, if_neg e, if_pos hd]
      exact g3 k (by omega)
  · have e40 : d = 40 := by omega
    subst e40
    refine ok_neg (by decide) (ok_gd rfl (ok_cpy fun σ1 n1 u1 => ok_sI fun σ2 n2 u2 => ?_))
    have rs2 : RepS 41 c Sn σ2 := RepS_cg rs (fun p a b => by rw [n2 p (by omega), n1 p (by omega)])
    refine ok_mono (s_add32 (dd := 39) (G := fun k => H (k + 1)) hρ wf (by rw [u2, pk_us]; rfl) (by decide) (fun k hk => ?_) rs2) (fun _ σ' hp => ?_)
    · refine RepKx_mv (h3 (k + 1) (by omega)) hns (fun j hj => ?_)
      rw [n2 52 (by decide), u1, if_pos ⟨Nat.zero_le _, by show 22 * k + j < 0 + 880; omega⟩]
      show σ.1 52 (22 + (22 * k + j - 0)) = _
      rw [show 22 + (22 * k + j - 0) = 22 * (k + 1) + j by omega]
    · obtain ⟨g1, g2, g3, g4⟩ := hp
      refine ⟨g1, g2, fun k hk => ?_⟩
      have hk : k ≤ 40 := hk
      by_cases e : k = 40
      · subst e
        exact g4
      · have : hH 40 H Sn k = H (k + 1) := by simp [hH, hD, e]
        rw [this]
        exact g3 k (by omega)
theorem s_beginH {N t : Nat} {ρ : Nat → Nat → Nat} {c : CDat} {Sn : SDat} {σ : St} (hρ : ρ = RR t) (wf : WfC c) (rs : RepS 41 c Sn σ) :
    Ok (f_X4_begin N ρ 51 41 σ) (fun _ σ' => HX 0 0 c (fun _ => Sn) σ' ∧ Ag (fun p => p = 51 ∨ p = 52) σ σ') := by
  refine ok_ag ?_ (fun r σ' e => by have := m_X4_begin e; rw [r_51_0 hρ] at this; exact this)
  unfold f_X4_begin
  rw [r_51_0 hρ]
  refine ok_sI fun σ1 n1 u1 => ok_sI fun σ2 n2 u2 => ?_
  have rs2 : RepS 41 c Sn σ2 := RepS_cg rs (fun p a b => by rw [n2 p (by omega), n1 p (by omega)])
  refine ok_call (s_keepIn hρ q41 (p := 52) (f := 0) (n1 := 902) (Or.inr (by decide)) (by omega) (by decide) wf rs2) (fun _ σ3 h3 => ok_ret ?_)
  obtain ⟨⟨h31, h32⟩, a3⟩ := h3
  have e51 : σ3.1 51 = σ2.1 51 := (a3 51 (by decide)).1
  refine ⟨by rw [e51, u2, pk_un (by decide), u1, pk_us]; rfl, by rw [e51, u2, pk_us]; rfl, fun k hk => ?_⟩
  have : k = 0 := by omega
  subst this
  exact h31
/-- the model's -/
theorem n22c {i : Nat} (h : i < 22) : ¬ (22 : Int32) ≤ nI i := nI_ge (show i < 22 from h) (by decide)
set_option maxHeartbeats 400000 in
theorem s_act51 {N t dd : Nat} {ρ : Nat → Nat → Nat} {c : CDat} {G : Nat → SDat} {Sv : SDat} {σ : St} (hN : 20000 ≤ N) (hρ : ρ = RR t) (wf : WfC c) (hd : σ.1 90 62 = nI dd) (hdd : dd < 40) (sl : ∀ k, k < dd → RepK 124 (22 * k) c (G k) σ) (ra : RepA 119 c Sv σ) :
    Ok (f_X12_act_51 N ρ 90 N 0 σ) (fun _ σ' => σ'.1 90 62 = nI (dd + 1) ∧ σ'.1 90 63 = nI 0 ∧ (∀ k, k < dd → RepK 124 (22 * k) c (G k) σ') ∧ RepK 124 (22 * dd) c Sv σ' ∧ (∀ j, j < 22 → σ'.1 120 j = σ.1 119 j) ∧ (∀ k, k ≠ 62 → k ≠ 63 → σ'.1 90 k = σ.1 90 k)) := by
  have hns := wf.2.1
  refine lp_ok (F := fun n (a : Int32 × St) => f_X12_act_51 N ρ 90 n a.1 a.2) 22 (fun i a => a.1 = nI i ∧ (∀ j, j < i → a.2.1 124 (22 * dd + j) = σ.1 119 j) ∧ (∀ j, j < 22 * dd → a.2.1 124 j = σ.1 124 j) ∧ Ai (fun p => p = 124) σ a.2) ?_ ?_ N 0 (0, σ) (Nat.zero_le _) (by omega) ⟨rfl, fun j hj => absurd hj (by omega), fun j hj => rfl, ai_refl⟩
  · rintro n i ⟨j, σ1⟩ hi ⟨e2, h1, h2, ha⟩ kk
    have e2 : j = _ := e2
    have h1 : ∀ j, j < i → σ1.1 124 (22 * dd + j) = σ.1 119 j := h1
    have h2 : ∀ j, j < 22 * dd → σ1.1 124 j = σ.1 124 j := h2
    have ha : Ai (fun p => p = 124) σ σ1 := ha
    subst e2
    show Ok (b_X12_act_51 N ρ 90 (f_X12_act_51 N ρ 90 n) (nI i) σ1) _
    unfold b_X12_act_51
    rw [r_90_56 hρ, r_90_61 hρ, ha 90 (by decide), hd, m22', nI_add, nI_clamp (show i < 2 ^ 31 by omega), nI_clamp (show 22 * dd + i < 2 ^ 31 by omega), nI_1 i]
    refine ok_neg (n22c hi) (ok_gd (ib_nI hi (by decide)) (ok_gd (ib_nI (by omega) (by decide)) (ok_sI fun σ2 n2 u2 => ?_)))
    refine kk (_, σ2) ⟨rfl, fun j hj => ?_, fun j hj => ?_, ai_tr ha (ai_w n2 rfl)⟩
    · show σ2.1 124 (22 * dd + j) = _
      rw [u2]
      by_cases e : j = i
      · subst e; rw [pk_us, ha 119 (by decide)]
      · rw [pk_un (by omega)]; exact h1 j (by omega)
    · show σ2.1 124 j = _
      rw [u2, pk_un (by omega)]; exact h2 j hj
  · rintro n ⟨j, σ1⟩ ⟨e2, h1, h2, ha⟩
    have e2 : j = _ := e2
    have h1 : ∀ j, j < 22 → σ1.1 124 (22 * dd + j) = σ.1 119 j := h1
    have h2 : ∀ j, j < 22 * dd → σ1.1 124 j = σ.1 124 j := h2
    have ha : Ai (fun p => p = 124) σ σ1 := ha
    subst e2
    show Ok (b_X12_act_51 N ρ 90 (f_X12_act_51 N ρ 90 n) (nI 22) σ1) _
    unfold b_X12_act_51
    refine ok_pos (show (22 : Int32) ≤ nI 22 by decide) (ok_sI fun σ2 n2 u2 => ok_sI fun σ3 n3 u3 => ?_)
    refine ok_call (s_fill hN hρ) (fun _ σ4 h4 => ok_ret ?_)
    obtain ⟨h41, a4⟩ := h4
    have e90 : σ4.1 90 = σ3.1 90 := (a4 90 (by decide)).1
    have e124 : σ4.1 124 = σ1.1 124 := by rw [(a4 124 (by decide)).1, n3 124 (by decide), n2 124 (by decide)]
    refine ⟨?_, ?_, fun k hk => ?_, ?_, fun j hj => ?_, fun k k1 k2 => ?_⟩
    · rw [e90, u3, pk_un (by decide), u2, pk_us, ha 90 (by decide), hd, nI_1]
    · rw [e90, u3, pk_us]; rfl
    · refine RepK_mv (sl k hk) hns (fun j hj => ?_)
      rw [e124, h2 _ (by omega)]
    · refine RepK_mv (RepK_0.mpr ra) hns (fun j hj => ?_)
      rw [e124, h1 j hj, Nat.zero_add]
    · rw [h41 j hj, n3 119 (by decide), n2 119 (by decide), ha 119 (by decide)]
    · rw [e90, u3, pk_un k2, u2, pk_un k1, ha 90 (by decide)]
set_option maxHeartbeats 400000 in
theorem s_act {N t d u : Nat} {ρ : Nat → Nat → Nat} {c : CDat} {H : Nat → SDat} {S : SDat} {σ : St} (hN : 20000 ≤ N) (hρ : ρ = RR t) (wf : WfC c) (hok : HOk d u c H S) (hm : HM d u c H σ) (ra : RepA 119 c S σ) (Sn : SDat) :
    Ok (f_X12_act N ρ 90 σ) (fun _ σ' => (HM (hD d) 0 c (hH d H Sn) σ' ∧ (∀ j, j < 22 → σ'.1 120 j = σ.1 119 j) ∧ (∀ k, k ≠ 62 → k ≠ 63 → σ'.1 90 k = σ.1 90 k)) ∧ Ag (fun p => p = 90 ∨ p = 120 ∨ p = 124) σ σ') := by
  have hns := wf.2.1
  obtain ⟨o1, o2, o3⟩ := hok
  obtain ⟨g1, g2, g3, g4⟩ := hm
  refine ok_ag ?_ (fun r σ' e => by have := m_X12_act e; rw [r_90_57 hρ, r_90_61 hρ] at this; exact this)
  unfold f_X12_act f_X12_act_49
  rw [g1]
  by_cases hd : d < 40
  · refine ok_neg (fun z => by rw [show (40 : Int32) = nI 40 from rfl, nI_eq (by omega) (by decide)] at z; omega) ?_
    refine ok_mono (s_act51 (G := H) hN hρ wf g1 hd g3 ra) (fun _ σ' hp => ?_)
    obtain ⟨p1, p2, p3, p4, p5, p6⟩ := hp
    have eD : hD d = d + 1 := if_pos hd
    refine ⟨⟨by rw [eD]; exact p1, p2, fun k hk => ?_, fun k a b => by omega⟩, p5, p6⟩
    rw [eD] at hk
    have : hH d H Sn k = H k := by simp only [hH, eD, if_neg (show ¬ k = d + 1 by omega), if_pos hd]
    rw [this]
    by_cases e : k = d
    · subst e; rw [o2]; exact p4
    · exact p3 k (by omega)
  · have e40 : d = 40 := by omega
    subst e40
    refine ok_pos rfl ?_
    refine lp_ok (F := fun n (a : Int32 × St) => f_X12_act_11 N ρ 90 n a.1 a.2) 858 (fun i a => a.1 = nI i ∧ (∀ j, j < i → a.2.1 124 j = σ.1 124 (22 + j)) ∧ (∀ j, i ≤ j → a.2.1 124 j = σ.1 124 j) ∧ Ai (fun p => p = 124) σ a.2) ?_ ?_ N 0 (0, σ) (Nat.zero_le _) (by omega) ⟨rfl, fun j hj => absurd hj (by omega), fun j hj => rfl, ai_refl⟩
    · rintro n i ⟨j, σ1⟩ hi ⟨e2, h1, h2, ha⟩ kk
      have e2 : j = _ := e2
      have h1 : ∀ j, j < i → σ1.1 124 j = σ.1 124 (22 + j) := h1
      have h2 : ∀ j, i ≤ j → σ1.1 124 j = σ.1 124 j := h2
      have ha : Ai (fun p => p = 124) σ σ1 := ha
      subst e2
      show Ok (b_X12_act_11 N ρ 90 (f_X12_act_11 N ρ 90 n) (nI i) σ1) _
      unfold b_X12_act_11
      rw [r_90_61 hρ, show (22 : Int32) + nI i = nI (22 + i) from nI_add 22 i, nI_clamp (show i < 2 ^ 31 by omega), nI_clamp (show 22 + i < 2 ^ 31 by omega), nI_1]
      refine ok_neg (show ¬ (858 : Int32) ≤ nI i from nI_ge (show i < 858 from hi) (by decide)) (ok_gd (ib_nI (by omega) (by decide)) (ok_gd (ib_nI (by omega) (by decide)) (ok_sI fun σ2 n2 u2 => ?_)))
      refine kk (_, σ2) ⟨rfl, fun j hj => ?_, fun j hj => ?_, ai_tr ha (ai_w n2 rfl)⟩
      · show σ2.1 124 j = _
        rw [u2]
        by_cases e : j = i
        · subst e; rw [pk_us, h2 _ (by omega)]
        · rw [pk_un e]; exact h1 j (by omega)
      · show σ2.1 124 j = _
        rw [u2, pk_un (by omega)]; exact h2 j (by omega)
    · rintro n ⟨j, σ1⟩ ⟨e2, h1, h2, ha⟩
      have e2 : j = _ := e2
      have h1 : ∀ j, j < 858 → σ1.1 124 j = σ.1 124 (22 + j) := h1
      have ha : Ai (fun p => p = 124) σ σ1 := ha
      subst e2
      show Ok (b_X12_act_11 N ρ 90 (f_X12_act_11 N ρ 90 n) (nI 858) σ1) _
      unfold b_X12_act_11 f_X12_act_49
      refine ok_pos (show (858 : Int32) ≤ nI 858 by decide) (ok_sI fun σ2 n2 u2 => ?_)
      have ra2 : RepA 119 c S σ2 := RepA_cg ra (by rw [n2 119 (by decide), ha 119 (by decide)])
      refine ok_mono (s_act51 (dd := 39) (G := fun k => H (k + 1)) hN hρ wf (by rw [u2, pk_us, ha 90 (by decide), g1]; rfl) (by decide) (fun k hk => ?_) ra2) (fun _ σ' hp => ?_)
      · refine RepK_mv (g3 (k + 1) (by omega)) hns (fun j hj => ?_)
        rw [n2 124 (by decide), h1 _ (by omega), show 22 + (22 * k + j) = 22 * (k + 1) + j by omega]
      · obtain ⟨p1, p2, p3, p4, p5, p6⟩ := hp
        refine ⟨⟨p1, p2, fun k hk => ?_, fun k a b => by have b : k < 40 + 0 := b; have a : 40 ≤ k := a; omega⟩, fun j hj => ?_, fun k k1 k2 => ?_⟩
        · have hk : k < 40 := hk
          have : hH 40 H Sn k = H (k + 1) := by simp [hH, hD, show ¬ k = 40 by omega]
          rw [this]
          by_cases e : k = 39
          · subst e; rw [show (39 : Nat) + 1 = 40 from rfl, o2]; exact p4
          · exact p3 k (by omega)
        · rw [p5 j hj, n2 119 (by decide), ha 119 (by decide)]
        · rw [p6 k k1 k2, u2, pk_un k1, ha 90 (by decide)]
set_option maxHeartbeats 400000 in
theorem s_exchange {N t f : Nat} {ρ : Nat → Nat → Nat} {σ : St} (hN : 20000 ≤ N) (hρ : ρ = RR t) (hf : f + 22 ≤ 880) :
    Ok (f_X12_exchange N ρ 90 (nI f) σ) (fun _ σ' => ((∀ j, j < 22 → σ'.1 124 (f + j) = σ.1 119 j ∧ σ'.1 119 j = σ.1 124 (f + j)) ∧ (∀ j, j < f ∨ f + 22 ≤ j → σ'.1 124 j = σ.1 124 j)) ∧ Ag (fun p => p = 124 ∨ p = 119) σ σ') := by
  refine ok_ag ?_ (fun r σ' e => by have := m_X12_exchange e; rw [r_90_56 hρ, r_90_61 hρ] at this; exact this)
  refine lp_ok (F := fun n (a : Int32 × St) => f_X12_exchange_2 N ρ 90 (nI f) n a.1 a.2) 22 (fun i a => a.1 = nI i ∧ (∀ j, j < i → a.2.1 124 (f + j) = σ.1 119 j ∧ a.2.1 119 j = σ.1 124 (f + j)) ∧ (∀ j, i ≤ j → a.2.1 119 j = σ.1 119 j) ∧ (∀ j, j < f ∨ f + i ≤ j → a.2.1 124 j = σ.1 124 j)) ?_ ?_ N 0 (0, σ) (Nat.zero_le _) (by omega) ⟨rfl, fun j hj => absurd hj (by omega), fun j hj => rfl, fun j hj => rfl⟩
  · rintro n i ⟨j, σ1⟩ hi ⟨e2, h1, h2, h3⟩ kk
    have e2 : j = _ := e2
    have h1 : ∀ j, j < i → σ1.1 124 (f + j) = σ.1 119 j ∧ σ1.1 119 j = σ.1 124 (f + j) := h1
    have h2 : ∀ j, i ≤ j → σ1.1 119 j = σ.1 119 j := h2
    have h3 : ∀ j, j < f ∨ f + i ≤ j → σ1.1 124 j = σ.1 124 j := h3
    subst e2
    show Ok (b_X12_exchange_2 N ρ 90 (nI f) (f_X12_exchange_2 N ρ 90 (nI f) n) (nI i) σ1) _
    unfold b_X12_exchange_2
    rw [r_90_56 hρ, r_90_61 hρ, nI_add, nI_clamp (show i < 2 ^ 31 by omega), nI_clamp (show f + i < 2 ^ 31 by omega), nI_1]
    refine ok_neg (n22c hi) (ok_gd (ib_nI (by omega) (by decide)) (ok_nmd (ok_gd (ib_nI hi (by decide)) (ok_gd (ib_nI (by omega) (by decide)) (ok_sI fun σ2 n2 u2 => ok_gd (ib_nI hi (by decide)) (ok_sI fun σ3 n3 u3 => ?_))))))
    refine kk (_, σ3) ⟨rfl, fun j hj => ?_, fun j hj => ?_, fun j hj => ?_⟩
    · show σ3.1 124 (f + j) = _ ∧ σ3.1 119 j = _
      rw [n3 124 (by decide), u2, u3]
      by_cases e : j = i
      · subst e
        rw [pk_us, pk_us, h2 _ (by omega), h3 _ (by omega)]
        exact ⟨rfl, rfl⟩
      · rw [pk_un (by omega), pk_un e, n2 119 (by decide)]
        exact h1 j (by omega)
    · show σ3.1 119 j = _
      rw [u3, pk_un (by omega), n2 119 (by decide)]
      exact h2 j (by omega)
    · show σ3.1 124 j = _
      rw [n3 124 (by decide), u2, pk_un (by omega)]
      exact h3 j (by omega)
  · rintro n ⟨j, σ1⟩ ⟨e2, h1, h2, h3⟩
    have e2 : j = _ := e2
    subst e2
    show Ok (b_X12_exchange_2 N ρ 90 (nI f) (f_X12_exchange_2 N ρ 90 (nI f) n) (nI 22) σ1) _
    unfold b_X12_exchange_2
    exact ok_pos (show (22 : Int32) ≤ nI 22 by decide) (ok_ret ⟨h1, h3⟩)
