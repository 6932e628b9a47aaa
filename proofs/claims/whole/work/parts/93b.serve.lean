/-! SERVES, PUT -/
theorem cnt_sub {p q : Nat → Bool} : ∀ n, cnt (fun s => p s && q s) n = cnt p n ↔ ∀ k, k < n → p k = true → q k = true
  | 0 => ⟨fun _ k hk => absurd hk (by omega), fun _ => rfl⟩
  | n + 1 => by
    have le : ∀ n, cnt (fun s => p s && q s) n ≤ cnt p n := by
      intro n
      induction n with
      | zero => exact Nat.le_refl _
      | succ n ih =>
        rw [cnt_s, cnt_s]
        by_cases hp : p n = true
        · rw [if_pos hp]; split <;> omega
        · rw [if_neg (by simp [hp]), if_neg hp]; omega
    have l := le n
    rw [cnt_s, cnt_s]
    constructor
    · intro h k hk hp
      by_cases e : k = n
      · subst e
        by_cases hq : q k = true
        · exact hq
        · rw [if_neg (by simp [hq]), if_pos hp] at h; omega
      · refine (cnt_sub n).mp ?_ k (by omega) hp
        by_cases hp : p n = true
        · rw [if_pos hp] at h; split at h <;> omega
        · rw [if_neg (by simp [hp]), if_neg hp] at h; omega
    · intro h
      rw [(cnt_sub n).mpr (fun k hk => h k (by omega))]
      congr 1
      by_cases hp : p n = true
      · rw [if_pos hp, if_pos (by simp [hp, h n (by omega) hp])]
      · rw [if_neg (by simp [hp]), if_neg hp]
theorem cnt_ex {p : Nat → Bool} : ∀ n, 1 ≤ cnt p n → ∃ k, k < n ∧ p k = true
  | 0, h => absurd (show 1 ≤ 0 from h) (by decide)
  | n + 1, h => by
    rw [cnt_s] at h
    by_cases hp : p n = true
    · exact ⟨n, by omega, hp⟩
    · rw [if_neg hp] at h
      obtain ⟨k, hk, hpk⟩ := cnt_ex n h
      exact ⟨k, by omega, hpk⟩
theorem VV_t {c : CDat} {S : SDat} {V : Nat → Nat} : VV c S true (nh c) V ↔ al (rmP c V) (nh c) = true ∧ (∀ s, s < ns c → ¬ fare c (USn c S V) 0 s = 2) ∧ (∀ s, s < ns c → ¬ fare c (USn c S V) 0 s = 3) ∧ ∀ h, h < nh c → ∃ s, s < ns c ∧ V s = h ∧ fare c (USn c S V) 0 s = 1 := by
  constructor
  · intro hv
    have key : ∀ s, s < ns c → V s < nh c → fare c (USn c S V) 0 s = 1 := by
      intro s hs hn
      have := hv (V s) hn
      unfold okP at this
      simp only [Bool.not_true, Bool.false_or, Bool.and_eq_true, decide_eq_true_eq] at this
      obtain ⟨h1, h2, h3⟩ := this
      rw [USn_fare, if_pos hn]
      unfold ct at h3
      by_cases hq : qn (dt c 6) (fun i => decide (V i = V s)) (ns c) = true
      · rw [if_pos hq] at h3; omega
      · rw [if_neg hq] at h3 ⊢
        have := (cnt_sub (ns c)).mp h3 s hs (by simp)
        rw [if_pos (of_decide_eq_true this)]
    have k0 : ∀ s, ¬ V s < nh c → fare c (USn c S V) 0 s = 0 := fun s hn => by rw [USn_fare, if_neg hn]
    refine ⟨(al_iff _).mpr (fun h hh => ?_), fun s hs => ?_, fun s hs => ?_, fun h hh => ?_⟩
    · have := hv h hh
      unfold okP at this
      simp only [Bool.and_eq_true] at this
      exact this.1
    · by_cases hn : V s < nh c
      · rw [key s hs hn]; decide
      · rw [k0 s hn]; decide
    · by_cases hn : V s < nh c
      · rw [key s hs hn]; decide
      · rw [k0 s hn]; decide
    · have := hv h hh
      unfold okP at this
      simp only [Bool.not_true, Bool.false_or, Bool.and_eq_true, decide_eq_true_eq] at this
      obtain ⟨s, hs, e⟩ := cnt_ex (ns c) this.2.1
      have e := of_decide_eq_true e
      exact ⟨s, hs, e, key s hs (by omega)⟩
  · rintro ⟨h1, h2, h3, h4⟩ h hh
    have hr := (al_iff _).mp h1 h hh
    have key : ∀ s, s < ns c → V s = h → ¬ qn (dt c 6) (fun i => decide (V i = h)) (ns c) = true ∧ ld c S s h (cnt (fun i => decide (V i = h)) (ns c)) 0 ≤ nI (S 0 s) := by
      intro s hs e
      have g2 := h2 s hs
      have g3 := h3 s hs
      rw [USn_fare, if_pos (by omega), e] at g2 g3
      by_cases hq : qn (dt c 6) (fun i => decide (V i = h)) (ns c) = true
      · rw [if_pos hq] at g3; exact absurd rfl g3
      · refine ⟨hq, ?_⟩
        rw [if_neg hq] at g2
        by_cases hl : ld c S s h (cnt (fun i => decide (V i = h)) (ns c)) 0 ≤ nI (S 0 s)
        · exact hl
        · rw [if_neg hl] at g2; exact absurd rfl g2
    obtain ⟨s, hs, e, _⟩ := h4 h hh
    unfold okP
    simp only [Bool.not_true, Bool.false_or, Bool.and_eq_true]
    refine ⟨hr, decide_eq_true (cnt_pos hs (by simp [e])), decide_eq_true ?_⟩
    unfold ct
    rw [if_neg (key s hs e).1]
    exact (cnt_sub (ns c)).mpr (fun k hk hp => decide_eq_true (key k hk (of_decide_eq_true hp)).2)
def hsP (c : CDat) (S : SDat) (V : Nat → Nat) (h : Nat) : Bool := !al (fun s => !(decide (V s = h) && decide (fare c (USn c S V) 0 s = 1))) (ns c)
theorem hsP_iff {c : CDat} {S : SDat} {V : Nat → Nat} {h : Nat} : hsP c S V h = true ↔ ∃ s, s < ns c ∧ V s = h ∧ fare c (USn c S V) 0 s = 1 := by
  unfold hsP
  constructor
  · intro hz
    apply Classical.byContradiction
    intro hn
    have : al (fun s => !(decide (V s = h) && decide (fare c (USn c S V) 0 s = 1))) (ns c) = true := (al_iff _).mpr (fun s hs => by
      by_cases e : V s = h
      · by_cases f : fare c (USn c S V) 0 s = 1
        · exact absurd ⟨s, hs, e, f⟩ hn
        · simp [f]
      · simp [e])
    rw [this] at hz
    exact absurd hz (by decide)
  · rintro ⟨s, hs, e, f⟩
    rw [eq_false_of_ne_true (al_f hs (by simp [e, f]))]
    rfl
def srP (c : CDat) (S : SDat) (V : Nat → Nat) : Bool := al (fun s => !decide (fare c (USn c S V) 0 s = 2)) (ns c) && (al (fun s => !decide (fare c (USn c S V) 0 s = 3)) (ns c) && al (hsP c S V) (nh c))
theorem VV_srv {c : CDat} {S : SDat} {V : Nat → Nat} : VV c S true (nh c) V ↔ al (rmP c V) (nh c) = true ∧ srP c S V = true := by
  rw [VV_t]
  unfold srP
  simp only [Bool.and_eq_true, al_iff, hsP_iff]
  simp
theorem bits_al {p : Nat → Bool} {n : Nat} (h : n ≤ 6) : bits p n = 0 ↔ al (fun s => !p s) n = true := by
  rw [bits_eq0 h, al_iff]
  simp
theorem USn_cg {c : CDat} {S T : SDat} {V : Nat → Nat} (e : ∀ r s, r ≠ 3 → T r s = S r s) : USn c T V = USn c S V := by
  funext r s
  unfold USn
  by_cases h : r = 3
  · rw [if_pos h, if_pos h]
  · rw [if_neg h, if_neg h, e r s h]
set_option maxHeartbeats 800000 in
theorem s_serves {N t : Nat} {c : CDat} {S : SDat} {V : Nat → Nat} {σ : St} (hN : 20000 ≤ N) (wf : WfC c) (ws : WfS c (USn c S V)) (rm : RepM c σ) (ra : RepA 120 c (USn c S V) σ) (hx : σ.1 90 27 = 0) :
    Ok (f_X12_serves N (RR t) 90 σ) (fun r σ' => r = fl (srP c S V) ∧ Ag Sm σ σ') := by
  have hns := wf.2.1
  have hnh := wf.1
  refine ok_ag ?_ (fun r σ' e => by have := m_X12_serves e; rw [r_90_18 rfl, r_90_26 rfl] at this; exact ag_mono this (fun p hp => by unfold Sm; omega))
  unfold f_X12_serves
  refine ok_call (s_whoFares (w := 1) (x := 0) hN rfl wf ws rm ra hx (by decide)) (fun r1 σ1 h1 => ?_)
  obtain ⟨rfl, a1⟩ := h1
  have rm1 : RepM c σ1 := RepM_s1 rm (s1_sm a1)
  have ra1 := RepA_sm (Or.inr rfl) ra a1
  have hx1 : σ1.1 90 27 = 0 := by rw [s1_90 (s1_sm a1)]; exact hx
  refine ok_call (s_whoFares (w := 2) (x := 0) hN rfl wf ws rm1 ra1 hx1 (by decide)) (fun r2 σ2 h2 => ?_)
  obtain ⟨rfl, a2⟩ := h2
  have rm2 : RepM c σ2 := RepM_s1 rm1 (s1_sm a2)
  have ra2 := RepA_sm (Or.inr rfl) ra1 a2
  have hx2 : σ2.1 90 27 = 0 := by rw [s1_90 (s1_sm a2)]; exact hx1
  have loop : ∀ σ3 b, RepM c σ3 → RepA 120 c (USn c S V) σ3 → Ok (f_X12_serves_27 N (RR t) 90 (bits (fun s => decide (fare c (USn c S V) 0 s = 1)) (ns c)) (fl b) σ3) (fun r σ' => r = fl (b && al (hsP c S V) (nh c))) := by
    intro σ3 b rm3 ra3
    unfold f_X12_serves_27
    refine ok_cast (b := f_X12_serves_30 N (RR t) 90 N (bits (fun s => decide (fare c (USn c S V) 0 s = 1)) (ns c)) (fl (b && al (hsP c S V) 0)) (nI 0) σ3) (by rw [show al (hsP c S V) 0 = true from rfl, Bool.and_true]; rfl) ?_
    refine lp (β := Unit) (F := fun n i _ => f_X12_serves_30 N (RR t) 90 n (bits (fun s => decide (fare c (USn c S V) 0 s = 1)) (ns c)) (fl (b && al (hsP c S V) i)) (nI i) σ3) (nh c) (fun _ _ => True) ?_ ?_ N 0 () (Nat.zero_le _) (by omega) trivial
    · intro n i _ hi _ kk
      have k1 := kk () trivial
      show Ok (b_X12_serves_30 _ _ _ _ _ _ _ _) _
      unfold b_X12_serves_30 f_X12_serves_56 f_X12_serves_57
      rw [rm3.1, nI_1 i]
      refine ok_neg (nI_ge hi (by omega)) ?_
      rw [show al (hsP c S V) (i + 1) = (al (hsP c S V) i && hsP c S V i) from rfl, ← Bool.and_assoc] at k1
      by_cases ha : (b && al (hsP c S V) i) = true
      · rw [ha] at k1 ⊢
        refine ok_neg (by decide) (ok_bnd (s_sentTo hN rfl wf ws rm3 ra3 (by omega)) ?_)
        rw [USn_at hi, bits_and (by omega) (by omega)]
        by_cases hp : hsP c S V i = true
        · rw [hp] at k1
          refine ok_neg (fun z => ?_) k1
          obtain ⟨s, hs, e, f⟩ := hsP_iff.mp hp
          have := (bits_eq0 (by omega)).mp z s hs
          simp [e, f, hs] at this
        · rw [eq_false_of_ne_true hp] at k1
          refine ok_pos ((bits_eq0 (by omega)).mpr (fun s hs => ?_)) k1
          by_cases e : V s = i
          · by_cases f : fare c (USn c S V) 0 s = 1
            · exact absurd (hsP_iff.mpr ⟨s, hs, e, f⟩) hp
            · simp [f]
          · simp [e]
      · rw [eq_false_of_ne_true ha] at k1 ⊢
        exact ok_pos rfl k1
    · intro n _ _
      show Ok (b_X12_serves_30 _ _ _ _ _ _ _ _) _
      unfold b_X12_serves_30
      rw [rm3.1]
      refine ok_pos (Int32.le_refl _) (ok_gd ?_ (ok_ret rfl))
      unfold fl
      split <;> rfl
  unfold srP
  by_cases h2 : al (fun s => !decide (fare c (USn c S V) 0 s = 2)) (ns c) = true
  · refine ok_pos ((bits_al (by omega)).mpr h2) (ok_call (s_whoFares (w := 3) (x := 0) hN rfl wf ws rm2 ra2 hx2 (by decide)) (fun r3 σ3 h3 => ?_))
    obtain ⟨rfl, a3⟩ := h3
    have rm3 : RepM c σ3 := RepM_s1 rm2 (s1_sm a3)
    have ra3 := RepA_sm (Or.inr rfl) ra2 a3
    rw [h2, Bool.true_and]
    by_cases h3 : al (fun s => !decide (fare c (USn c S V) 0 s = 3)) (ns c) = true
    · rw [h3]
      exact ok_pos ((bits_al (by omega)).mpr h3) (loop σ3 true rm3 ra3)
    · rw [eq_false_of_ne_true h3]
      exact ok_neg (fun z => h3 ((bits_al (by omega)).mp z)) (loop σ3 false rm3 ra3)
  · rw [eq_false_of_ne_true h2]
    exact ok_neg (fun z => h2 ((bits_al (by omega)).mp z)) (loop σ2 false rm2 ra2)
theorem s_putSending {N t : Nat} {c : CDat} {U : SDat} {σ : St} (hN : 20000 ≤ N) (wf : WfC c) (rm : RepM c σ) (ra : RepA 120 c U σ) :
    Ok (f_X12_putSending N (RR t) 90 σ) (fun _ σ' => σ'.1 90 65 = nI (ns c) ∧ (∀ s, s < ns c → σ'.1 125 s = sv (U 3 s)) ∧ (∀ k, k ≠ 65 → σ'.1 90 k = σ.1 90 k) ∧ ∀ p, p ≠ 90 → p ≠ 125 → σ'.1 p = σ.1 p) := by
  have hns := wf.2.1
  refine lp (F := fun n i σ' => f_X12_putSending_2 N (RR t) 90 n (nI i) σ') (ns c) (fun i σ' => (∀ s, s < i → σ'.1 125 s = sv (U 3 s)) ∧ ∀ p, p ≠ 125 → σ'.1 p = σ.1 p) ?_ ?_ N 0 σ (Nat.zero_le _) (by omega) ⟨fun s hs => absurd hs (by omega), fun _ _ => rfl⟩
  · rintro n i σ1 hi ⟨h1, e1⟩ kk
    show Ok (b_X12_putSending_2 _ _ _ _ _ _) _
    unfold b_X12_putSending_2
    rw [e1 90 (by decide), rm.2.1, n15, nI_1 i, r_90_57 rfl, r_90_64 rfl, nI_clamp (show 15 + i < 2 ^ 31 by omega), nI_clamp (show i < 2 ^ 31 by omega), e1 120 (by decide), (ra.1 i hi).2.2.2]
    refine ok_neg (nI_ge hi (by omega)) (ok_gd (ib_nI (by omega) (by decide)) (ok_gd (ib_nI (by omega) (by decide)) (ok_sI fun σ2 n2 u2 => kk σ2 ⟨fun s hs => ?_, fun p hp => ?_⟩)))
    · rw [u2]
      by_cases e : s = i
      · subst e; rw [pk_us]
      · rw [pk_un e]; exact h1 s (by omega)
    · rw [n2 p hp]; exact e1 p hp
  · rintro n σ1 ⟨h1, e1⟩
    show Ok (b_X12_putSending_2 _ _ _ _ _ _) _
    unfold b_X12_putSending_2
    rw [e1 90 (by decide), rm.2.1]
    refine ok_pos (Int32.le_refl _) (ok_sI fun σ2 n2 u2 => ok_ret ⟨by rw [u2, pk_us], fun s hs => ?_, fun k hk => ?_, fun p hp hp2 => ?_⟩)
    · rw [n2 125 (by decide)]; exact h1 s hs
    · rw [u2, pk_un hk, e1 90 (by decide)]
    · rw [n2 p hp]; exact e1 p hp2
