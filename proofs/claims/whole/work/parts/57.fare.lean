/-! LOOPS, MORE OF SETS, WHO COUNTS -/
theorem lp_ok {α : Type} {F : Nat → α → Option (Int32 × St)} {Q : Int32 → St → Prop} (m : Nat) (I : Nat → α → Prop)
    (st : ∀ n i a, i < m → I i a → (∀ a', I (i + 1) a' → Ok (F n a') Q) → Ok (F (n + 1) a) Q)
    (en : ∀ n a, I m a → Ok (F (n + 1) a) Q) : ∀ n i a, i ≤ m → m - i < n → I i a → Ok (F n a) Q := by
  intro n
  induction n with
  | zero => intro i a _ h; omega
  | succ n ih =>
    intro i a hi hn h
    by_cases e : i = m
    · subst e; exact en n a h
    · exact st n i a (by omega) h (fun a' h' => ih (i + 1) a' (by omega) (by omega) h')
theorem i_nle {a b : Int32} : ¬ a ≤ b ↔ b < a := by
  rw [Int32.le_iff_toInt_le, Int32.lt_iff_toInt_lt]
  omega
theorem i_nlt {a b : Int32} : ¬ a < b ↔ b ≤ a := by
  rw [Int32.le_iff_toInt_le, Int32.lt_iff_toInt_lt]
  omega
theorem bits_0 {p : Nat → Bool} {n : Nat} (h : ∀ k, k < n → p k = false) : bits p n = 0 := by
  rw [bits_ext (n := 0) (Nat.zero_le _) (fun k _ hk => h k hk)]
  rfl
theorem bv_or : ∀ a0 a1 a2 a3 a4 a5 b0 b1 b2 b3 b4 b5 : Bool, bv a0 a1 a2 a3 a4 a5 ||| bv b0 b1 b2 b3 b4 b5 = bv (a0 || b0) (a1 || b1) (a2 || b2) (a3 || b3) (a4 || b4) (a5 || b5) := by decide +kernel
theorem bv_an : ∀ a0 a1 a2 a3 a4 a5 b0 b1 b2 b3 b4 b5 : Bool, bv a0 a1 a2 a3 a4 a5 &&& (bv b0 b1 b2 b3 b4 b5 ^^^ (-1)) = bv (a0 && !b0) (a1 && !b1) (a2 && !b2) (a3 && !b3) (a4 && !b4) (a5 && !b5) := by decide +kernel
theorem bv_and : ∀ a0 a1 a2 a3 a4 a5 b0 b1 b2 b3 b4 b5 : Bool, bv a0 a1 a2 a3 a4 a5 &&& bv b0 b1 b2 b3 b4 b5 = bv (a0 && b0) (a1 && b1) (a2 && b2) (a3 && b3) (a4 && b4) (a5 && b5) := by decide +kernel
theorem bv_inj : ∀ a0 a1 a2 a3 a4 a5 b0 b1 b2 b3 b4 b5 : Bool, bv a0 a1 a2 a3 a4 a5 = bv b0 b1 b2 b3 b4 b5 → a0 = b0 ∧ a1 = b1 ∧ a2 = b2 ∧ a3 = b3 ∧ a4 = b4 ∧ a5 = b5 := by decide +kernel
theorem bits_or {p q : Nat → Bool} {n : Nat} (h : n ≤ 6) : bits p n ||| bits q n = bits (fun k => p k || q k) n := by
  rw [bits_bv h, bits_bv h, bv_or, bits_bv h]
  simp only [tb, Bool.and_or_distrib_left]
theorem bits_an {p q : Nat → Bool} {n m : Nat} (h : n ≤ 6) (hm : m ≤ 6) : bits p n &&& (bits q m ^^^ (-1)) = bits (fun k => p k && !(decide (k < m) && q k)) n := by
  rw [bits_bv h, bits_bv hm, bv_an, bits_bv h]
  simp only [tb, Bool.and_assoc]
theorem bits_and {p q : Nat → Bool} {n m : Nat} (h : n ≤ 6) (hm : m ≤ 6) : bits p n &&& bits q m = bits (fun k => p k && (decide (k < m) && q k)) n := by
  rw [bits_bv h, bits_bv hm, bv_and, bits_bv h]
  simp only [tb, Bool.and_assoc]
theorem bits_inj {p q : Nat → Bool} {n : Nat} (h : n ≤ 6) (e : bits p n = bits q n) : ∀ k, k < n → p k = q k := by
  rw [bits_bv h, bits_bv h] at e
  obtain ⟨e0, e1, e2, e3, e4, e5⟩ := bv_inj _ _ _ _ _ _ _ _ _ _ _ _ e
  intro k hk
  have hh : ∀ j, tb p n j = tb q n j → j < n → p j = q j := fun j hj hl => by simpa [tb, hl] using hj
  rcases six_lt (show k < 6 by omega) with rfl | rfl | rfl | rfl | rfl | rfl
  · exact hh 0 e0 hk
  · exact hh 1 e1 hk
  · exact hh 2 e2 hk
  · exact hh 3 e3 hk
  · exact hh 4 e4 hk
  · exact hh 5 e5 hk
theorem bits_all : ∀ n, n ≤ 6 → ((1 : Int32) <<< (nI n &&& 31)) - 1 = bits (fun _ => true) n := by decide +kernel
theorem bits_one : ∀ s, s < 6 → ((1 : Int32) <<< (nI s &&& 31)) = bits (fun k => decide (k = s)) 6 := by decide +kernel
theorem bits_eq0 {p : Nat → Bool} {n : Nat} (h : n ≤ 6) : bits p n = 0 ↔ ∀ k, k < n → p k = false := by
  constructor
  · intro e k hk
    have : bits p n = bits (fun _ => false) n := by rw [e, bits_0 (fun _ _ => rfl)]
    exact bits_inj h this k hk
  · exact bits_0
/-- quarrels, loads, fares -/
def qrl (c : CDat) (S : SDat) (h : Nat) : Bool := qn (dt c 6) (atH S h) (ns c)
def mny (c : CDat) (S : SDat) (h : Nat) : Nat := cnt (atH S h) (ns c)
def lod (c : CDat) (S : SDat) (x : Int32) (s : Nat) : Int32 := ld c S s (S 3 s - 1) (mny c S (S 3 s - 1)) x
def fare (c : CDat) (S : SDat) (x : Int32) (s : Nat) : Nat := if S 3 s = 0 then 0 else if qrl c S (S 3 s - 1) = true then 3 else if lod c S x s ≤ nI (S 0 s) then 1 else 2
theorem fare_le {c : CDat} {S : SDat} {x : Int32} {s : Nat} : fare c S x s ≤ 3 := by
  unfold fare
  split
  · decide
  · split
    · decide
    · split <;> decide
theorem fare_0 {c : CDat} {S : SDat} {x : Int32} {s : Nat} : fare c S x s = 0 ↔ S 3 s = 0 := by
  unfold fare
  by_cases h : S 3 s = 0
  · simp [h]
  · rw [if_neg h]
    constructor
    · intro e
      by_cases h1 : qrl c S (S 3 s - 1) = true
      · rw [if_pos h1] at e; omega
      · rw [if_neg h1] at e
        by_cases h2 : lod c S x s ≤ nI (S 0 s)
        · rw [if_pos h2] at e; omega
        · rw [if_neg h2] at e; omega
    · intro e; exact absurd e h
theorem cnt_pos {p : Nat → Bool} {n k : Nat} (hk : k < n) (h : p k = true) : 0 < cnt p n := by
  induction n with
  | zero => omega
  | succ n ih =>
    simp only [cnt]
    by_cases e : k = n
    · subst e
      rw [if_pos h]
      omega
    · have := ih (by omega)
      omega
theorem mny_pos {c : CDat} {S : SDat} {s : Nat} (hs : s < ns c) (h : S 3 s ≠ 0) : 0 < mny c S (S 3 s - 1) := cnt_pos hs (by unfold atH; exact decide_eq_true (by omega))
theorem mny_le {c : CDat} {S : SDat} {h : Nat} (wf : WfC c) : mny c S h ≤ 6 := by
  have := cnt_le (atH S h) (ns c)
  have := wf.2.1
  unfold mny
  omega
theorem s_quarrelH {N t h : Nat} {ρ : Nat → Nat → Nat} {c : CDat} {S : SDat} {σ : St} (hN : 20000 ≤ N) (hρ : ρ = RR t) (ht : isT t) (wf : WfC c) (rc : RepC t c σ) : f_X0_quarrelIn N ρ t (bits (atH S h) (ns c)) σ = some (if qrl c S h = true then 1 else 0, σ) := s_quarrelIn hN hρ ht wf rc (Nat.le_refl _) (by have := wf.2.1; omega)
set_option maxHeartbeats 400000 in
theorem s_bearing {N t q h m k : Nat} {ρ : Nat → Nat → Nat} {c : CDat} {S : SDat} {x : Int32} {p : Nat → Bool} {σ : St} (hN : 20000 ≤ N) (hρ : ρ = RR t) (ht : isT t) (hq : isQ q) (wf : WfC c) (rc : RepC t c σ) (rs : RepS q c S σ) (hh : h < nh c) (hk : ns c ≤ k) (hk6 : k ≤ 6) (hm5 : m ≤ 6) (hm : 0 < m ∨ ∀ s, s < ns c → p s = false) :
    Ok (f_X0_bearing N ρ t q (nI h) (bits p k) (nI m) x σ) (fun r σ' => r = bits (fun s => p s && decide (ld c S s h m x ≤ nI (S 0 s))) (ns c) ∧ Ag (Sc t) σ σ') := by
  have hns := wf.2.1
  refine ok_ag ?_ (fun r σ' e => by have := m_X0_bearing e; rw [rt8 hρ ht, rt10 hρ ht, rb1 hρ ht] at this; exact sc_of this (fun p hp => by unfold Sc; omega))
  refine lp_ok (F := fun n (a : Int32 × Int32 × St) => f_X0_bearing_6 N ρ t q (nI h) (bits p k) (nI m) x n a.1 a.2.1 a.2.2) (ns c) (fun i a => a.1 = bits (fun s => p s && decide (ld c S s h m x ≤ nI (S 0 s))) i ∧ a.2.1 = nI i ∧ Ag (Sc t) σ a.2.2) ?_ ?_ N 0 (0, 0, σ) (Nat.zero_le _) (by omega) ⟨rfl, rfl, ag_refl⟩
  · rintro n i ⟨b, j, σ1⟩ hi ⟨e1, e2, ha⟩ kk
    have e1 : b = _ := e1
    have e2 : j = _ := e2
    have ha : Ag (Sc t) σ σ1 := ha
    subst e1 e2
    have rc1 := RepC_sc rc ha
    have rs1 := RepS_sc ht hq rs ha
    show Ok (b_X0_bearing_6 N ρ t q (nI h) (bits p k) (nI m) x (f_X0_bearing_6 N ρ t q (nI h) (bits p k) (nI m) x n) _ (nI i) σ1) _
    unfold b_X0_bearing_6
    rw [rc1.2.1]
    refine ok_neg (nI_ge hi (by omega)) ?_
    rw [bits_in hk6 (show i < k by omega)]
    by_cases hp : p i = true
    · rw [if_pos hp]
      refine ok_neg (by decide) ?_
      unfold f_X0_bearing_29
      refine ok_neg (by decide) ?_
      have hm0 : 0 < m := by
        rcases hm with h0 | h0
        · exact h0
        · rw [h0 i hi] at hp; cases hp
      refine ok_call (s_loadC hN hρ ht hq wf rc1 rs1 hi hh hm0 hm5) (fun r σ2 hr => ?_)
      obtain ⟨hr, ha2⟩ := hr
      have rs2 := RepS_sc ht hq rs1 ha2
      refine ok_gd (ib_nI (by omega) (by decide)) ?_
      rw [rq0 hρ hq, nI_clamp (by omega), (rs2.1 i hi).1, hr]
      unfold f_X0_bearing_67
      rw [nI_1]
      by_cases hl : ld c S i h m x ≤ nI (S 0 i)
      · refine ok_neg (i_nlt.mpr hl) (ok_nmd ?_)
        exact kk (_, _, σ2) ⟨bits_y (by simp [hp, hl]), rfl, ag_trans ha ha2⟩
      · refine ok_pos (i_nle.mp hl) ?_
        exact kk (_, _, σ2) ⟨bits_n (by simp [hl]), rfl, ag_trans ha ha2⟩
    · rw [if_neg hp]
      refine ok_pos rfl ?_
      unfold f_X0_bearing_29 f_X0_bearing_67
      refine ok_pos rfl ?_
      rw [nI_1]
      exact kk (_, _, σ1) ⟨bits_n (by simp [hp]), rfl, ha⟩
  · rintro n ⟨b, j, σ1⟩ ⟨e1, e2, ha⟩
    have e1 : b = _ := e1
    have e2 : j = _ := e2
    have ha : Ag (Sc t) σ σ1 := ha
    subst e1 e2
    show Ok (b_X0_bearing_6 N ρ t q (nI h) (bits p k) (nI m) x (f_X0_bearing_6 N ρ t q (nI h) (bits p k) (nI m) x n) _ (nI (ns c)) σ1) _
    unfold b_X0_bearing_6
    rw [(RepC_sc rc ha).2.1]
    exact ok_pos (Int32.le_refl _) (ok_ret rfl)
theorem atH_at {S : SDat} {h s : Nat} : atH S h s = true ↔ S 3 s = h + 1 := by simp [atH]
theorem fare_at {c : CDat} {S : SDat} {x : Int32} {h s : Nat} (hq : ¬ qrl c S h = true) (e : S 3 s = h + 1) : fare c S x s = if ld c S s h (mny c S h) x ≤ nI (S 0 s) then 1 else 2 := by
  have e2 : S 3 s - 1 = h := by omega
  unfold fare lod
  rw [if_neg (by omega), e2, if_neg hq]
theorem fare_aq {c : CDat} {S : SDat} {x : Int32} {h s : Nat} (hq : qrl c S h = true) (e : S 3 s = h + 1) : fare c S x s = 3 := by
  have e2 : S 3 s - 1 = h := by omega
  unfold fare
  rw [if_neg (by omega), e2, if_pos hq]
set_option maxHeartbeats 400000 in
theorem s_counting {N t q : Nat} {ρ : Nat → Nat → Nat} {c : CDat} {S : SDat} {x : Int32} {σ : St} (hN : 20000 ≤ N) (hρ : ρ = RR t) (ht : isT t) (hq : isQ q) (wf : WfC c) (ws : WfS c S) (rc : RepC t c σ) (rs : RepS q c S σ) :
    Ok (f_X9_counting N ρ q t x σ) (fun r σ' => r = bits (fun s => decide (fare c S x s = 1)) (ns c) ∧ Ag (Sc t) σ σ') := by
  have hns := wf.2.1
  have hnh := wf.1
  refine ok_ag ?_ (fun r σ' e => by have := m_X9_counting e; rw [rt8 hρ ht, rt10 hρ ht, rb1 hρ ht] at this; exact sc_of this (fun p hp => by unfold Sc; omega))
  refine lp_ok (F := fun n (a : Int32 × Int32 × St) => f_X9_counting_5 N ρ q t x n a.1 a.2.1 a.2.2) (nh c) (fun i a => a.1 = bits (fun s => decide (fare c S x s = 1) && decide (S 3 s ≤ i)) (ns c) ∧ a.2.1 = nI i ∧ Ag (Sc t) σ a.2.2) ?_ ?_ N 0 (0, 0, σ) (Nat.zero_le _) (by omega) ⟨?_, rfl, ag_refl⟩
  · rintro n i ⟨b, j, σ1⟩ hi ⟨e1, e2, ha⟩ kk
    have e1 : b = _ := e1
    have e2 : j = _ := e2
    have ha : Ag (Sc t) σ σ1 := ha
    subst e1 e2
    have rc1 := RepC_sc rc ha
    have rs1 := RepS_sc ht hq rs ha
    show Ok (b_X9_counting_5 N ρ q t x (f_X9_counting_5 N ρ q t x n) _ (nI i) σ1) _
    unfold b_X9_counting_5
    rw [rc1.1]
    refine ok_neg (nI_ge hi (by omega)) ?_
    refine ok_bnd (s_setAt hN hρ hq wf ws rs1 (by omega)) ?_
    refine ok_bnd (s_quarrelH hN hρ ht wf rc1) ?_
    unfold f_X9_counting_49
    rw [nI_1]
    by_cases hqr : qrl c S i = true
    · rw [if_pos hqr]
      refine ok_neg (by decide) ?_
      refine kk (_, _, σ1) ⟨bits_cg (fun s hs => ?_), rfl, ha⟩
      by_cases e : S 3 s = i + 1
      · rw [fare_aq hqr e]; simp
      · have : (S 3 s ≤ i) ↔ (S 3 s ≤ i + 1) := by omega
        simp [this]
    · rw [if_neg hqr]
      refine ok_pos rfl ?_
      refine ok_bnd (s_bitCount (by omega)) ?_
      have hm : 0 < mny c S i ∨ ∀ s, s < ns c → atH S i s = false := by
        by_cases h0 : ∀ s, s < ns c → atH S i s = false
        · exact Or.inr h0
        · left
          obtain ⟨s, hs⟩ := Classical.not_forall.mp h0
          obtain ⟨hs1, hs2⟩ := Classical.not_imp.mp hs
          exact cnt_pos hs1 (by simpa using hs2)
      refine ok_call (s_bearing (m := mny c S i) hN hρ ht hq wf rc1 rs1 hi (Nat.le_refl _) (by omega) (mny_le wf) hm) (fun r σ2 hr => ok_nmd ?_)
      obtain ⟨hr, ha2⟩ := hr
      refine kk (_, _, σ2) ⟨?_, rfl, ag_trans ha ha2⟩
      show _ ||| r = _
      rw [hr, bits_or (by omega)]
      refine bits_cg (fun s hs => ?_)
      by_cases e : S 3 s = i + 1
      · have : atH S i s = true := atH_at.mpr e
        have n1 : ¬ S 3 s ≤ i := by omega
        have n2 : S 3 s ≤ i + 1 := by omega
        rw [fare_at hqr e, this]
        by_cases hl : ld c S s i (mny c S i) x ≤ nI (S 0 s) <;> simp [hl, n1, n2]
      · have : atH S i s = false := by simp [atH, e]
        have h2 : (S 3 s ≤ i) ↔ (S 3 s ≤ i + 1) := by omega
        simp [this, h2]
  · rintro n ⟨b, j, σ1⟩ ⟨e1, e2, ha⟩
    have e1 : b = _ := e1
    have e2 : j = _ := e2
    have ha : Ag (Sc t) σ σ1 := ha
    subst e1 e2
    show Ok (b_X9_counting_5 N ρ q t x (f_X9_counting_5 N ρ q t x n) _ (nI (nh c)) σ1) _
    unfold b_X9_counting_5
    rw [(RepC_sc rc ha).1]
    refine ok_pos (Int32.le_refl _) (ok_ret (bits_cg (fun s hs => ?_)))
    have := (ws.1 s hs).2.2.2
    simp [this]
  · symm
    refine bits_0 (fun s hs => ?_)
    by_cases e : S 3 s = 0
    · rw [fare_0.mpr e]; simp
    · simp [e]
theorem s_quarrelling {N t q : Nat} {ρ : Nat → Nat → Nat} {c : CDat} {S : SDat} {x : Int32} {σ : St} (hN : 20000 ≤ N) (hρ : ρ = RR t) (ht : isT t) (hq : isQ q) (wf : WfC c) (ws : WfS c S) (rc : RepC t c σ) (rs : RepS q c S σ) :
    Ok (f_X9_quarrelling N ρ q t σ) (fun r σ' => r = bits (fun s => decide (fare c S x s = 3)) (ns c) ∧ Ag (fun _ => False) σ σ') := by
  have hns := wf.2.1
  have hnh := wf.1
  refine ok_ag ?_ (fun r σ' e => m_X9_quarrelling e)
  refine lp_ok (F := fun n (a : Int32 × Int32) => f_X9_quarrelling_4 N ρ q t n a.1 a.2 σ) (nh c) (fun i a => a.1 = bits (fun s => decide (fare c S x s = 3) && decide (S 3 s ≤ i)) (ns c) ∧ a.2 = nI i) ?_ ?_ N 0 (0, 0) (Nat.zero_le _) (by omega) ⟨?_, rfl⟩
  · rintro n i ⟨b, j⟩ hi ⟨e1, e2⟩ kk
    have e1 : b = _ := e1
    have e2 : j = _ := e2
    subst e1 e2
    show Ok (b_X9_quarrelling_4 N ρ q t (f_X9_quarrelling_4 N ρ q t n) _ (nI i) σ) _
    unfold b_X9_quarrelling_4
    rw [rc.1]
    refine ok_neg (nI_ge hi (by omega)) ?_
    refine ok_bnd (s_setAt hN hρ hq wf ws rs (by omega)) ?_
    refine ok_bnd (s_quarrelH hN hρ ht wf rc) ?_
    unfold f_X9_quarrelling_33
    rw [nI_1]
    by_cases hqr : qrl c S i = true
    · rw [if_pos hqr]
      refine ok_neg (by decide) (ok_nmd ?_)
      refine kk (_, _) ⟨?_, rfl⟩
      show _ ||| _ = _
      rw [bits_or (by omega)]
      refine bits_cg (fun s hs => ?_)
      by_cases e : S 3 s = i + 1
      · have : atH S i s = true := atH_at.mpr e
        have n2 : S 3 s ≤ i + 1 := by omega
        rw [fare_aq hqr e, this]
        simp [n2]
      · have : atH S i s = false := by simp [atH, e]
        have h2 : (S 3 s ≤ i) ↔ (S 3 s ≤ i + 1) := by omega
        simp [this, h2]
    · rw [if_neg hqr]
      refine ok_pos rfl ?_
      refine kk (_, _) ⟨bits_cg (fun s hs => ?_), rfl⟩
      by_cases e : S 3 s = i + 1
      · rw [fare_at hqr e]
        by_cases hl : ld c S s i (mny c S i) x ≤ nI (S 0 s) <;> simp [hl]
      · have : (S 3 s ≤ i) ↔ (S 3 s ≤ i + 1) := by omega
        simp [this]
  · rintro n ⟨b, j⟩ ⟨e1, e2⟩
    have e1 : b = _ := e1
    have e2 : j = _ := e2
    subst e1 e2
    show Ok (b_X9_quarrelling_4 N ρ q t (f_X9_quarrelling_4 N ρ q t n) _ (nI (nh c)) σ) _
    unfold b_X9_quarrelling_4
    rw [rc.1]
    refine ok_pos (Int32.le_refl _) (ok_ret (bits_cg (fun s hs => ?_)))
    have := (ws.1 s hs).2.2.2
    simp [this]
  · symm
    refine bits_0 (fun s hs => ?_)
    by_cases e : S 3 s = 0
    · rw [fare_0.mpr e]; simp
    · simp [e]
theorem s_breaking {N t q : Nat} {ρ : Nat → Nat → Nat} {c : CDat} {S : SDat} {σ : St} (hN : 20000 ≤ N) (hρ : ρ = RR t) (ht : isT t) (hq : isQ q) (wf : WfC c) (ws : WfS c S) (rc : RepC t c σ) (rs : RepS q c S σ) :
    Ok (f_X9_breaking N ρ q t σ) (fun r σ' => r = bits (fun s => decide (fare c S 0 s = 2)) (ns c) ∧ Ag (Sc t) σ σ') := by
  have hns := wf.2.1
  refine ok_ag ?_ (fun r σ' e => by have := m_X9_breaking e; rw [rt8 hρ ht, rt10 hρ ht, rb1 hρ ht] at this; exact sc_of this (fun p hp => by unfold Sc; omega))
  unfold f_X9_breaking
  refine ok_bnd (s_setNone hN hρ hq wf ws rs) ?_
  refine ok_bnd (r := bits (fun _ => true) (ns c)) (σ := σ) (by unfold f_X0_allStools; rw [rc.2.1, bits_all _ (by omega)]) ?_
  refine ok_call (s_quarrelling (x := 0) hN hρ ht hq wf ws rc rs) (fun r σ1 hr => ?_)
  obtain ⟨hr, ha⟩ := hr
  have ha : Ag (Sc t) σ σ1 := sc_of ha (fun p hp => hp.elim)
  refine ok_call (s_counting hN hρ ht hq wf ws (RepC_sc rc ha) (RepS_sc ht hq rs ha)) (fun r2 σ2 hr2 => ok_ret ?_)
  rw [hr, hr2.1, bits_an (by omega) (by omega), bits_an (by omega) (by omega), bits_an (by omega) (by omega)]
  refine bits_cg (fun s hs => ?_)
  have h1 := fare_le (c := c) (S := S) (x := 0) (s := s)
  have h0 := fare_0 (c := c) (S := S) (x := 0) (s := s)
  have h5 : s < 5 := by omega
  by_cases e : S 3 s = 0
  · have := h0.mpr e
    simp [hs, h5, e, this]
  · have h3 : ¬ fare c S 0 s = 0 := fun z => e (h0.mp z)
    by_cases e1 : fare c S 0 s = 1
    · simp [e1, hs]
    · by_cases e2 : fare c S 0 s = 2
      · simp [e2, hs, h5, e]
      · have e3 : fare c S 0 s = 3 := by omega
        simp [e3, hs]
