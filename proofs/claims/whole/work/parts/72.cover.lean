/-! COVER -/
def pcn (m : Nat) : Nat := cnt (fun k => m.testBit k) 6
theorem nI_bits : ∀ m, m < 64 → nI m = bits (fun k => m.testBit k) 6 := by decide +kernel
theorem pow_bits : ∀ n, n ≤ 6 → (1 : Int32) <<< (nI n &&& 31) = nI (2 ^ n) := by decide +kernel
theorem pow_le : ∀ n, n ≤ 6 → 1 ≤ 2 ^ n ∧ 2 ^ n ≤ 64 := by decide +kernel
theorem pow_le5 : ∀ n, n ≤ 5 → 1 ≤ 2 ^ n ∧ 2 ^ n ≤ 32 := by decide +kernel
theorem s_bcN {N m : Nat} {ρ : Nat → Nat → Nat} {σ : St} (h : m < 64) : f_J6_bitCount_0f7a4 N ρ (nI m) σ = some (nI (pcn m), σ) := by
  rw [nI_bits m h]
  exact s_bitCount (by decide)
theorem s_mbN {N m : Nat} {ρ : Nat → Nat → Nat} {σ : St} (hN : 20000 ≤ N) (h : m < 64) : f_X12_members N ρ (nI m) σ = some (nI (pcn m), σ) := by
  rw [nI_bits m h]
  exact s_members hN (by decide)
theorem pcn_le (m : Nat) : pcn m ≤ 6 := cnt_le _ _
theorem pcn_lt : ∀ n, n ≤ 6 → ∀ m, m < 2 ^ n - 1 → pcn m < pcn (2 ^ n - 1) := by decide +kernel
theorem pcn_pos : ∀ m, m < 64 → 1 ≤ m → 0 < pcn m := by decide +kernel
theorem nI_gap {k : Nat} {x : Int32} (hk : k + 1 < 2 ^ 31) (h : nI (k + 1) ≤ x) : ¬ x ≤ nI k := by
  rw [Int32.le_iff_toInt_le, nI_toInt hk] at h
  rw [Int32.le_iff_toInt_le, nI_toInt (by omega)]
  omega
/-- the least of the fewest -/
def Opt (f : Nat → Nat) (cv : Nat → Bool) (M b : Nat) : Prop := b ≤ M ∧ cv b = true ∧ ∀ j, j ≤ M → cv j = true → f b ≤ f j ∧ (f j = f b → b ≤ j)
theorem opt_eq {f : Nat → Nat} {cv : Nat → Bool} {M b d : Nat} (hb : Opt f cv M b) (hd : Opt f cv M d) : b = d := by
  have h1 := hb.2.2 d hd.1 hd.2.1
  have h2 := hd.2.2 b hb.1 hb.2.1
  have e : f b = f d := by omega
  have := h1.2 e.symm
  have := h2.2 e
  omega
def cvA (f : Nat → Nat) (cv : Nat → Bool) (M : Nat) : Nat → Nat
  | 0 => M
  | i + 1 => if f i < f (cvA f cv M i) ∧ cv i = true then i else cvA f cv M i
def cvD (f : Nat → Nat) (cv : Nat → Bool) (M : Nat) : Nat → Nat
  | 0 => M
  | i + 1 => if f (M - i) ≤ f (cvD f cv M i) ∧ cv (M - i) = true then M - i else cvD f cv M i
theorem cvA_ok {f : Nat → Nat} {cv : Nat → Bool} {M : Nat} (hM : cv M = true) (hf : ∀ j, j < M → f j < f M) : ∀ i, i ≤ M + 1 → cvA f cv M i ≤ M ∧ cv (cvA f cv M i) = true ∧ (cvA f cv M i < i ∨ cvA f cv M i = M) ∧ ∀ j, j < i → cv j = true → f (cvA f cv M i) ≤ f j ∧ (f j = f (cvA f cv M i) → cvA f cv M i ≤ j) := by
  intro i
  induction i with
  | zero => intro _; exact ⟨Nat.le_refl _, hM, Or.inr rfl, fun j hj => absurd hj (by omega)⟩
  | succ i ih =>
    intro hi
    obtain ⟨h1, h2, h3, h4⟩ := ih (by omega)
    by_cases h : f i < f (cvA f cv M i) ∧ cv i = true
    · have e : cvA f cv M (i + 1) = i := by rw [cvA, if_pos h]
      rw [e]
      refine ⟨by omega, h.2, Or.inl (by omega), fun j hj hc => ?_⟩
      by_cases ej : j = i
      · subst ej; exact ⟨Nat.le_refl _, fun _ => Nat.le_refl _⟩
      · have := h4 j (by omega) hc
        have := h.1
        exact ⟨by omega, fun z => by omega⟩
    · have e : cvA f cv M (i + 1) = cvA f cv M i := by rw [cvA, if_neg h]
      rw [e]
      refine ⟨h1, h2, by omega, fun j hj hc => ?_⟩
      by_cases ej : j = i
      · subst ej
        have h5 : ¬ f j < f (cvA f cv M j) := fun z => h ⟨z, hc⟩
        refine ⟨by omega, fun z => ?_⟩
        rcases h3 with h3 | h3
        · omega
        · rw [h3] at z h5 ⊢
          by_cases hjM : j < M
          · have := hf j hjM
            omega
          · omega
      · exact h4 j (by omega) hc
theorem cvD_ok {f : Nat → Nat} {cv : Nat → Bool} {M : Nat} (hM : cv M = true) : ∀ i, i ≤ M + 1 → cvD f cv M i ≤ M ∧ cv (cvD f cv M i) = true ∧ ∀ j, M < j + i → j ≤ M → cv j = true → f (cvD f cv M i) ≤ f j ∧ (f j = f (cvD f cv M i) → cvD f cv M i ≤ j) := by
  intro i
  induction i with
  | zero => intro _; exact ⟨Nat.le_refl _, hM, fun j hj hj2 => absurd hj (by omega)⟩
  | succ i ih =>
    intro hi
    obtain ⟨h1, h2, h4⟩ := ih (by omega)
    by_cases h : f (M - i) ≤ f (cvD f cv M i) ∧ cv (M - i) = true
    · have e : cvD f cv M (i + 1) = M - i := by rw [cvD, if_pos h]
      rw [e]
      refine ⟨by omega, h.2, fun j hj hj2 hc => ?_⟩
      by_cases ej : j = M - i
      · subst ej; exact ⟨Nat.le_refl _, fun _ => Nat.le_refl _⟩
      · have := h4 j (by omega) hj2 hc
        have := h.1
        exact ⟨by omega, fun z => by omega⟩
    · have e : cvD f cv M (i + 1) = cvD f cv M i := by rw [cvD, if_neg h]
      rw [e]
      refine ⟨h1, h2, fun j hj hj2 hc => ?_⟩
      by_cases ej : j = M - i
      · subst ej
        have h5 : ¬ f (M - i) ≤ f (cvD f cv M i) := fun z => h ⟨z, hc⟩
        exact ⟨by omega, fun z => by omega⟩
      · exact h4 j (by omega) hj2 hc
theorem cv_eq {f : Nat → Nat} {cv : Nat → Bool} {M : Nat} (hM : cv M = true) (hf : ∀ j, j < M → f j < f M) : cvA f cv M (M + 1) = cvD f cv M (M + 1) := by
  obtain ⟨a1, a2, _, a4⟩ := cvA_ok hM hf (M + 1) (Nat.le_refl _)
  obtain ⟨d1, d2, d4⟩ := cvD_ok (f := f) hM (M + 1) (Nat.le_refl _)
  exact opt_eq (cv := cv) (M := M) ⟨a1, a2, fun j hj hc => a4 j (by omega) hc⟩ ⟨d1, d2, fun j hj hc => d4 j (by omega) hj hc⟩
def cvP (c : CDat) (S : SDat) (m s : Nat) : Bool := decide (bits (ca c S s) (nh c) = 0) || !decide (bits (ca c S s) (nh c) &&& nI m = 0)
def cvr (c : CDat) (S : SDat) (m : Nat) : Bool := al (cvP c S m) (ns c)
theorem cvr_all {c : CDat} {S : SDat} (wf : WfC c) : cvr c S (2 ^ nh c - 1) = true := by
  have hnh := wf.1
  have hp := pow_le (nh c) hnh
  refine (al_iff _).mpr (fun s hs => ?_)
  unfold cvP
  by_cases h0 : bits (ca c S s) (nh c) = 0
  · simp [h0]
  · have e : bits (ca c S s) (nh c) &&& nI (2 ^ nh c - 1) = bits (ca c S s) (nh c) := by
      rw [← pk_sub (show 1 ≤ 2 ^ nh c by omega), ← pow_bits _ hnh, show nI 1 = 1 from rfl, bits_all _ hnh, bits_and (by omega) (by omega)]
      exact bits_cg (fun k hk => by simp [hk])
    rw [e]
    simp [h0]
set_option maxHeartbeats 800000 in
theorem s_findC {N t : Nat} {c : CDat} {S : SDat} {σ : St} (hN : 20000 ≤ N) (ht : isT t) (wf : WfC c) (rc : RepC t c σ) (rs : RepS 41 c S σ) :
    Ok (f_X11_findWhereEachCould N (RR t) 0 σ) (fun _ σ' => (∀ s, s < ns c → σ'.1 88 s = bits (ca c S s) (nh c)) ∧ RepC t c σ') := by
  have hns := wf.2.1
  have hnh := wf.1
  have tl := isT_le ht
  refine lp (F := fun n i σ' => f_X11_findWhereEachCould_2 N (RR t) 0 n (nI i) σ') (ns c) (fun i σ' => RepC t c σ' ∧ RepS 41 c S σ' ∧ ∀ s, s < i → σ'.1 88 s = bits (ca c S s) (nh c)) ?_ ?_ N 0 σ (Nat.zero_le _) (by omega) ⟨rc, rs, fun s hs => absurd hs (by omega)⟩
  · rintro n i σ1 hi ⟨rc1, rs1, hc1⟩ kk
    show Ok (b_X11_findWhereEachCould_2 _ _ _ _ _ _) _
    unfold b_X11_findWhereEachCould_2
    rw [r_0_2 rfl, r_0_12 rfl, rc1.2.1, nI_clamp (show i < 2 ^ 31 by omega)]
    refine ok_neg (nI_ge hi (by omega)) (ok_gd (ib_nI (by omega) (by decide)) (ok_sI fun σ2 n2 u2 => ?_))
    refine lp (F := fun n' j σ' => f_X11_findWhereEachCould_22 N (RR t) 0 (f_X11_findWhereEachCould_2 N (RR t) 0 n) n' (nI i) (nI j) σ') (nh c) (fun j σ' => RepC t c σ' ∧ RepS 41 c S σ' ∧ (∀ s, s < i → σ'.1 88 s = bits (ca c S s) (nh c)) ∧ σ'.1 88 i = bits (ca c S i) j) ?_ ?_ N 0 σ2 (Nat.zero_le _) (by omega) ⟨RepC_cg rc1 (fun p _ _ _ => n2 p (by omega)), RepS_cg rs1 (fun p _ _ => n2 p (by omega)), fun s hs => by rw [u2, pk_un (by omega)]; exact hc1 s hs, by rw [u2, pk_us]; rfl⟩
    · rintro n' j σ3 hj ⟨rc3, rs3, hc3, hi3⟩ k2
      show Ok (b_X11_findWhereEachCould_22 _ _ _ _ _ _ _ _) _
      unfold b_X11_findWhereEachCould_22 f_X11_findWhereEachCould_65
      rw [r_0_2 rfl, r_0_4 rfl, r_0_12 rfl, rc3.1, nI_clamp (show i < 2 ^ 31 by omega), nI_1 j, bits_one i (by omega)]
      refine ok_neg (nI_ge hj (by omega)) (ok_call (s_bearing (m := 1) hN rfl ht q41 wf rc3 rs3 hj (show ns c ≤ 6 by omega) (by decide) (by decide) (Or.inl (by decide))) (fun r σ4 h4 => ?_))
      obtain ⟨h41, a4⟩ := h4
      have e88 : σ4.1 88 = σ3.1 88 := (a4 88 (by unfold Sc; omega)).1
      have hq := bits_eq0 (p := fun s => decide (s = i) && decide (ld c S s j 1 0 ≤ nI (S 0 s))) (n := ns c) (by omega)
      rw [h41]
      by_cases hc : ca c S i j = true
      · refine ok_neg (fun z => ?_) (ok_gd (ib_nI (by omega) (by decide)) (ok_gd (ib_nI (by omega) (by decide)) (ok_sI fun σ5 n5 u5 => ?_)))
        · have := hq.mp z i hi
          simp [ca] at this hc
          exact absurd hc (by simpa using this)
        · refine k2 σ5 ⟨RepC_cg (RepC_sc rc3 a4) (fun p _ _ _ => n5 p (by omega)), RepS_cg (RepS_sc ht q41 rs3 a4) (fun p _ _ => n5 p (by omega)), fun s hs => by rw [u5, pk_un (by omega), e88]; exact hc3 s hs, ?_⟩
          rw [u5, pk_us, e88, hi3, bits_y hc]
      · refine ok_pos (hq.mpr (fun k hk => ?_)) ?_
        · by_cases ek : k = i
          · subst ek
            simpa [ca] using hc
          · simp [ek]
        · refine k2 σ4 ⟨RepC_sc rc3 a4, RepS_sc ht q41 rs3 a4, fun s hs => by rw [e88]; exact hc3 s hs, ?_⟩
          rw [e88, hi3, bits_n hc]
    · rintro n' σ3 ⟨rc3, rs3, hc3, hi3⟩
      show Ok (b_X11_findWhereEachCould_22 _ _ _ _ _ _ _ _) _
      unfold b_X11_findWhereEachCould_22
      rw [r_0_2 rfl, rc3.1, nI_1 i]
      refine ok_pos (Int32.le_refl _) (kk σ3 ⟨rc3, rs3, fun s hs => ?_⟩)
      by_cases e : s = i
      · subst e; exact hi3
      · exact hc3 s (by omega)
  · rintro n σ1 ⟨rc1, rs1, hc1⟩
    show Ok (b_X11_findWhereEachCould_2 _ _ _ _ _ _) _
    unfold b_X11_findWhereEachCould_2
    rw [r_0_2 rfl, rc1.2.1]
    exact ok_pos (Int32.le_refl _) (ok_ret ⟨hc1, rc1⟩)
theorem al_f {p : Nat → Bool} {n k : Nat} (hk : k < n) (h : ¬ p k = true) : ¬ al p n = true := fun z => h ((al_iff n).mp z k hk)
theorem s_coversAll {N t m : Nat} {c : CDat} {S : SDat} {σ : St} (hN : 20000 ≤ N) (wf : WfC c) (rc : RepC t c σ) (hc : ∀ s, s < ns c → σ.1 88 s = bits (ca c S s) (nh c)) :
    f_X11_coversAll N (RR t) 0 (nI m) σ = some (if cvr c S m = true then 1 else 0, σ) := by
  have hns := wf.2.1
  refine ok_is ?_
  refine lp (β := Unit) (F := fun n i _ => f_X11_coversAll_2 N (RR t) 0 (nI m) n (nI i) σ) (ns c) (fun i _ => al (cvP c S m) i = true) ?_ ?_ N 0 () (Nat.zero_le _) (by omega) rfl
  · intro n i _ hi ha kk
    show Ok (b_X11_coversAll_2 _ _ _ _ _ _ _) _
    unfold b_X11_coversAll_2 f_X11_coversAll_35
    rw [r_0_2 rfl, r_0_12 rfl, rc.2.1, nI_clamp (show i < 2 ^ 31 by omega), hc i hi, nI_1 i]
    refine ok_neg (nI_ge hi (by omega)) (ok_gd (ib_nI (by omega) (by decide)) ?_)
    have ht : cvP c S m i = true → al (cvP c S m) (i + 1) = true := fun z => by simp only [al]; rw [ha, z]; rfl
    by_cases h0 : bits (ca c S i) (nh c) = 0
    · exact ok_pos h0 (kk () (ht (by simp [cvP, h0])))
    · refine ok_neg h0 (ok_gd (ib_nI (by omega) (by decide)) ?_)
      by_cases h1 : bits (ca c S i) (nh c) &&& nI m = 0
      · refine ok_pos h1 (ok_ret ⟨?_, rfl⟩)
        rw [if_neg]
        exact al_f hi (by simp [cvP, h0, h1])
      · exact ok_neg h1 (kk () (ht (by simp [cvP, h1])))
  · intro n _ ha
    show Ok (b_X11_coversAll_2 _ _ _ _ _ _ _) _
    unfold b_X11_coversAll_2
    rw [r_0_2 rfl, rc.2.1]
    refine ok_pos (Int32.le_refl _) (ok_ret ⟨?_, rfl⟩)
    rw [if_pos]
    exact ha
set_option maxHeartbeats 800000 in
theorem api_cover {N : Nat} (hN : 20000 ≤ N) (a1 : Int32) : Api Inv (fun ρ σ => f_X11_cover N ρ 0 a1 σ) (fun ρ σ => f_X12_cover N ρ 90 a1 σ) := by
  refine api_v (fun c S wf ws hd => ?_)
  have hns := wf.2.1
  have hnh := wf.1
  have hp := pow_le (nh c) hnh
  rcases ix_of a1 (show 2 < 2 ^ 31 by decide) with ⟨w, hw, rfl⟩ | hn
  · obtain ⟨M, hM⟩ : ∃ M, 2 ^ nh c = M + 1 := ⟨2 ^ nh c - 1, by omega⟩
    have hMe : 2 ^ nh c - 1 = M := by omega
    have hcM : cvr c S M = true := by rw [← hMe]; exact cvr_all wf
    have hfM : ∀ j, j < M → pcn j < pcn M := fun j hj => by rw [← hMe]; exact pcn_lt _ hnh j (by omega)
    have lA : ∀ i, i ≤ M + 1 → cvA pcn (cvr c S) M i ≤ M := fun i hi => (cvA_ok hcM hfM i hi).1
    have lD : ∀ i, i ≤ M + 1 → cvD pcn (cvr c S) M i ≤ M := fun i hi => (cvD_ok (f := pcn) hcM i hi).1
    refine ⟨(if w = 0 then nI (pcn (cvA pcn (cvr c S) M (M + 1))) else nI (cvA pcn (cvr c S) M (M + 1))), fun t σ ht rc rs => ?_, fun t σ rm ra hx => ?_⟩
    · refine ok_fr (fun r σ' e => by have := m_X11_cover e; rw [r_0_2 rfl, r_0_12 rfl, rt8 rfl ht, rt10 rfl ht, rb1 rfl ht] at this; exact ag_mono this (fun p hp => by unfold ScX; omega)) ?_
      show Ok (f_X11_cover N (RR t) 0 (nI w) σ) _
      unfold f_X11_cover
      refine ok_neg (nI_pos (by omega)) (ok_pos (show nI w ≤ nI 1 from nI_le (by omega) (by decide)) (ok_call (s_findC hN ht wf rc rs) (fun _ σ1 h1 => ok_nmd ?_)))
      obtain ⟨hc, rc1⟩ := h1
      rw [r_0_2 rfl, rc1.1, pow_bits _ hnh, hM, nI_pred]
      refine lp (β := Unit) (F := fun n i _ => f_X11_cover_29 N (RR t) 0 (nI w) n (nI (cvA pcn (cvr c S) M i)) (nI i) σ1) (M + 1) (fun _ _ => True) ?_ ?_ N 0 () (Nat.zero_le _) (by omega) trivial
      · intro n i _ hi _ kk
        have k3 := kk () trivial
        have l1 := lA i (by omega)
        have b1 := pcn_le i
        have b2 := pcn_le (cvA pcn (cvr c S) M i)
        show Ok (b_X11_cover_29 _ _ _ _ _ _ _ _) _
        unfold b_X11_cover_29 f_X11_cover_63
        rw [r_0_2 rfl, rc1.1, pow_bits _ hnh, hM, nI_1 i]
        refine ok_neg (nI_ge hi (by omega)) (ok_bnd (s_bcN (by omega)) (ok_bnd (s_bcN (by omega)) ?_))
        by_cases h : pcn i < pcn (cvA pcn (cvr c S) M i)
        · refine ok_neg (nI_ge h (by omega)) (ok_bnd (s_coversAll hN wf rc1 hc) ?_)
          by_cases hv : cvr c S i = true
          · rw [if_pos hv]
            rw [cvA, if_pos ⟨h, hv⟩] at k3
            exact ok_neg (by decide) k3
          · rw [if_neg hv]
            rw [cvA, if_neg (fun z => hv z.2)] at k3
            exact ok_pos rfl k3
        · refine ok_pos (nI_le (by omega) (by omega)) ?_
          rw [cvA, if_neg (fun z => h z.1)] at k3
          exact k3
      · intro n _ _
        have l1 := lA (M + 1) (by omega)
        show Ok (b_X11_cover_29 _ _ _ _ _ _ _ _) _
        unfold b_X11_cover_29 f_X11_cover_81
        rw [r_0_2 rfl, rc1.1, pow_bits _ hnh, hM]
        refine ok_pos (Int32.le_refl _) ?_
        by_cases hw0 : w = 0
        · subst hw0
          exact ok_pos rfl (ok_bnd (s_bcN (by omega)) (ok_ret rfl))
        · exact ok_neg (nI_ne0 (by omega) (by omega)) (ok_ret (by rw [if_neg hw0]))
    · rw [cv_eq hcM hfM]
      refine ok_fr (fun r σ' e => by have := m_X12_cover e; rw [r_90_57 rfl, r_90_18 rfl, r_90_26 rfl, r_90_67 rfl] at this; exact ag_mono this (fun p hp => by unfold ScM; omega)) ?_
      show Ok (f_X12_cover N (RR t) 90 (nI w) σ) _
      unfold f_X12_cover
      refine ok_bnd (isIn_y (n := 2) (by decide) hw) (ok_neg (by decide) (ok_call (s_layCould hN rfl wf ws rm ra hx) (fun _ σ1 h1 => ok_nmd ?_)))
      obtain ⟨hc, rm1⟩ := h1
      rw [rm1.1, pow_bits _ hnh, hM, nI_pred]
      refine ok_cast (b := f_X12_cover_26 N (RR t) 90 (nI w) N (nI (cvD pcn (cvr c S) M 0)) (nI (M + 1 - 0) + (-1)) σ1) (by rw [Nat.sub_zero, pk_m1]; rfl) ?_
      refine lp (β := Unit) (F := fun n i _ => f_X12_cover_26 N (RR t) 90 (nI w) n (nI (cvD pcn (cvr c S) M i)) (nI (M + 1 - i) + (-1)) σ1) (M + 1) (fun _ _ => True) ?_ ?_ N 0 () (Nat.zero_le _) (by omega) trivial
      · intro n i _ hi _ kk
        have k3 := kk () trivial
        have l1 := lD i (by omega)
        have b1 := pcn_le (M - i)
        have b2 := pcn_le (cvD pcn (cvr c S) M i)
        show Ok (b_X12_cover_26 _ _ _ _ _ _ _ _) _
        unfold b_X12_cover_26
        rw [show M + 1 - i = (M - i) + 1 by omega, pk_m1]
        refine ok_neg (nI_pos (by omega)) (ok_bnd (s_mbN hN (by omega)) (ok_bnd (s_mbN hN (by omega)) ?_))
        rw [show M + 1 - (i + 1) = M - i by omega] at k3
        have inner : ∀ v : Bool, (v = decide (pcn (M - i) ≤ pcn (cvD pcn (cvr c S) M i))) → Ok (f_X12_cover_46 N (RR t) 90 (nI w) (f_X12_cover_26 N (RR t) 90 (nI w) n) (nI (cvD pcn (cvr c S) M i)) (nI (M - i)) (if v = true then 1 else 0) σ1) (fun r _ => r = (if w = 0 then nI (pcn (cvD pcn (cvr c S) M (M + 1))) else nI (cvD pcn (cvr c S) M (M + 1)))) := by
          intro v hv
          refine ok_cast (b := f_X12_cover_51 N (RR t) 90 (nI w) (f_X12_cover_26 N (RR t) 90 (nI w) n) N (nI (cvD pcn (cvr c S) M i)) (nI (M - i)) (if (v && al (cvP c S (M - i)) 0) = true then 1 else 0) (nI 0) σ1) (by cases v <;> rfl) ?_
          refine lp (β := Unit) (F := fun n' j _ => f_X12_cover_51 N (RR t) 90 (nI w) (f_X12_cover_26 N (RR t) 90 (nI w) n) n' (nI (cvD pcn (cvr c S) M i)) (nI (M - i)) (if (v && al (cvP c S (M - i)) j) = true then 1 else 0) (nI j) σ1) (ns c) (fun _ _ => True) ?_ ?_ N 0 () (Nat.zero_le _) (by omega) trivial
          · intro n' j _ hj _ k2
            have k4 := k2 () trivial
            show Ok (b_X12_cover_51 _ _ _ _ _ _ _ _ _ _ _) _
            unfold b_X12_cover_51 f_X12_cover_91 f_X12_cover_87 f_X12_cover_92
            rw [rm1.2.1, nI_clamp (show j < 2 ^ 31 by omega), r_90_67 rfl, nI_1 j, hc j hj]
            refine ok_neg (nI_ge hj (by omega)) ?_
            by_cases hA : (v && al (cvP c S (M - i)) j) = true
            · rw [if_pos hA]
              refine ok_neg (show ¬ (1 : Int32) = 0 by decide) (ok_gd (ib_nI (by omega) (by decide)) ?_)
              by_cases h0 : bits (ca c S j) (nh c) = 0
              · rw [show (v && al (cvP c S (M - i)) (j + 1)) = true by simp only [al]; rw [← Bool.and_assoc, hA]; simp [cvP, h0]] at k4
                exact ok_pos h0 k4
              · refine ok_neg h0 (ok_gd (ib_nI (by omega) (by decide)) ?_)
                by_cases h1 : bits (ca c S j) (nh c) &&& nI (M - i) = 0
                · rw [show (v && al (cvP c S (M - i)) (j + 1)) = false by simp only [al]; rw [← Bool.and_assoc, hA]; simp [cvP, h0, h1]] at k4
                  exact ok_pos h1 k4
                · rw [show (v && al (cvP c S (M - i)) (j + 1)) = true by simp only [al]; rw [← Bool.and_assoc, hA]; simp [cvP, h1]] at k4
                  exact ok_neg h1 k4
            · rw [if_neg hA]
              refine ok_pos rfl ?_
              rw [show (v && al (cvP c S (M - i)) (j + 1)) = false by simp only [al]; rw [← Bool.and_assoc, show (v && al (cvP c S (M - i)) j) = false by simpa using hA]; rfl] at k4
              exact k4
          · intro n' _ _
            show Ok (b_X12_cover_51 _ _ _ _ _ _ _ _ _ _ _) _
            unfold b_X12_cover_51 f_X12_cover_107
            rw [rm1.2.1]
            refine ok_pos (Int32.le_refl _) ?_
            by_cases hA : (v && al (cvP c S (M - i)) (ns c)) = true
            · rw [if_pos hA]
              rw [Bool.and_eq_true] at hA
              rw [cvD, if_pos ⟨by simpa [hv] using hA.1, hA.2⟩] at k3
              exact ok_neg (by decide) k3
            · rw [if_neg hA]
              rw [cvD, if_neg (fun z => hA (by rw [Bool.and_eq_true]; exact ⟨by simpa [hv] using z.1, z.2⟩))] at k3
              exact ok_pos rfl k3
        by_cases h : pcn (M - i) ≤ pcn (cvD pcn (cvr c S) M i)
        · refine ok_neg (nI_nlt h (by omega)) ?_
          exact inner true (by simp [h])
        · refine ok_pos (nI_lt (by omega) (by omega)) ?_
          exact inner false (by simp [h])
      · intro n _ _
        have l1 := lD (M + 1) (by omega)
        show Ok (b_X12_cover_26 _ _ _ _ _ _ _ _) _
        unfold b_X12_cover_26 f_X12_cover_125
        rw [Nat.sub_self]
        refine ok_pos (show nI 0 + (-1) < 0 by decide) ?_
        by_cases hw0 : w = 0
        · subst hw0
          exact ok_pos rfl (ok_bnd (s_mbN hN (by omega)) (ok_ret rfl))
        · exact ok_neg (nI_ne0 (by omega) (by omega)) (ok_ret (by rw [if_neg hw0]))
  · refine ⟨-1, fun t σ ht rc rs => ?_, fun t σ rm ra hx => ?_⟩
    · show Ok (f_X11_cover N (RR t) 0 a1 σ) _
      unfold f_X11_cover f_X11_cover_9
      rcases hn with hn | hn
      · exact ok_pos hn (ok_ret ⟨rfl, ag_refl⟩)
      · exact ok_ite (fun _ => ok_ret ⟨rfl, ag_refl⟩) (fun _ => ok_neg (nI_gap (k := 1) (by decide) hn) (ok_ret ⟨rfl, ag_refl⟩))
    · show Ok (f_X12_cover N (RR t) 90 a1 σ) _
      unfold f_X12_cover
      exact ok_bnd (isIn_n (n := 2) (by decide) hn) (ok_pos rfl (ok_ret ⟨rfl, ag_refl⟩))
