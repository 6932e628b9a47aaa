/-! THE MODEL's TOKEN -/
def TapM (τ : Tape) (σ : St) : Prop := τ.1 ≤ 1600 ∧ σ.1 90 5 = nI τ.1 ∧ ∀ j, j < τ.1 → τ.2 j < 256 ∧ σ.1 91 j = nI (τ.2 j)
theorem TapM_cg {τ : Tape} {σ σ' : St} (h : TapM τ σ) (e4 : σ'.1 90 5 = σ.1 90 5) (e5 : σ'.1 91 = σ.1 91) : TapM τ σ' := ⟨h.1, by rw [e4]; exact h.2.1, fun j hj => by rw [e5]; exact h.2.2 j hj⟩
def hr (τ : Tape) (i : Nat) : Int32 := if i < τ.1 then nI (τ.2 i) else -1
theorem s_here {N t a k : Nat} {τ : Tape} {σ : St} (tm : TapM τ σ) (h4 : σ.1 90 4 = nI a) (hk : a + k < 2 ^ 30) : f_X12_here N (RR t) 90 (nI k) σ = some (hr τ (a + k), σ) := by
  unfold f_X12_here f_X12_here_28 hr
  have hL := tm.1
  rw [h4, nI_add, tm.2.1]
  by_cases h : a + k < τ.1
  · rw [if_neg (nI_ge h (by omega)), gd_t (ib_nI (by omega) (by decide)), nI_clamp (by omega), r_90_0 rfl, (tm.2.2 _ h).2, if_pos h]
  · rw [if_pos (nI_le (by omega) (by omega)), if_neg h]
theorem let_m : ∀ b, b < 256 → (nI b < 97 ↔ b < 97) ∧ (122 < nI b ↔ 122 < b) ∧ (nI b < 48 ↔ b < 48) ∧ (57 < nI b ↔ 57 < b) := by decide +kernel
theorem s_isLet {N : Nat} {ρ : Nat → Nat → Nat} {τ : Tape} {i : Nat} {σ σ0 : St} (tm : TapM τ σ0) : f_X12_isLetter N ρ (hr τ i) σ = some (fl (decide (i < τ.1) && isL (τ.2 i)), σ) := by
  unfold f_X12_isLetter f_X12_isLetter_16 f_X12_isLetter_17 hr
  by_cases h : i < τ.1
  · have hb := (tm.2.2 i h).1
    obtain ⟨l1, l2, _⟩ := let_m _ hb
    rw [if_pos h, decide_eq_true h, Bool.true_and]
    by_cases c1 : τ.2 i < 97
    · rw [if_pos (l1.mpr c1), show isL (τ.2 i) = false from decide_eq_false (by omega)]; rfl
    · rw [if_neg (fun z => c1 (l1.mp z))]
      by_cases c2 : 122 < τ.2 i
      · rw [if_pos (l2.mpr c2), show isL (τ.2 i) = false from decide_eq_false (by omega)]; rfl
      · rw [if_neg (fun z => c2 (l2.mp z)), show isL (τ.2 i) = true from decide_eq_true (by omega)]; rfl
  · rw [if_neg h, if_pos (by decide), decide_eq_false h]; rfl
theorem s_isDig {N : Nat} {ρ : Nat → Nat → Nat} {τ : Tape} {i : Nat} {σ σ0 : St} (tm : TapM τ σ0) : f_X12_isDigit N ρ (hr τ i) σ = some (fl (decide (i < τ.1) && isD (τ.2 i)), σ) := by
  unfold f_X12_isDigit f_X12_isDigit_16 f_X12_isDigit_17 hr
  by_cases h : i < τ.1
  · have hb := (tm.2.2 i h).1
    obtain ⟨_, _, l1, l2⟩ := let_m _ hb
    rw [if_pos h, decide_eq_true h, Bool.true_and]
    by_cases c1 : τ.2 i < 48
    · rw [if_pos (l1.mpr c1), show isD (τ.2 i) = false from decide_eq_false (by omega)]; rfl
    · rw [if_neg (fun z => c1 (l1.mp z))]
      by_cases c2 : 57 < τ.2 i
      · rw [if_pos (l2.mpr c2), show isD (τ.2 i) = false from decide_eq_false (by omega)]; rfl
      · rw [if_neg (fun z => c2 (l2.mp z)), show isD (τ.2 i) = true from decide_eq_true (by omega)]; rfl
  · rw [if_neg h, if_pos (by decide), decide_eq_false h]; rfl
theorem sg_m : ∀ b, b < 256 → (if nI b = 59 ∨ nI b = 40 ∨ nI b = 41 ∨ nI b = 60 ∨ nI b = 62 ∨ nI b = 61 ∨ nI b = 43 ∨ nI b = 45 ∨ nI b = 42 ∨ nI b = 47 ∨ nI b = 37 then (1 : Int32) else 0) = fl (isSg b) := by decide +kernel
theorem s_isSig {N b : Nat} {ρ : Nat → Nat → Nat} {σ : St} (hb : b < 256) : f_X12_isSign N ρ (nI b) σ = some (fl (isSg b), σ) := by
  rw [← sg_m b hb]
  unfold f_X12_isSign f_X12_isSign_66 f_X12_isSign_71
  generalize nI b = x
  by_cases h1 : x = 59
  · simp only [h1, if_true, true_or]; rfl
  by_cases h2 : x = 40
  · simp only [h1, h2, if_true, if_false, true_or, false_or]; rfl
  by_cases h3 : x = 41
  · simp only [h1, h2, h3, if_true, if_false, true_or, false_or]; rfl
  by_cases h4 : x = 60
  · simp only [h1, h2, h3, h4, if_true, if_false, true_or, false_or]; rfl
  by_cases h5 : x = 62
  · simp only [h1, h2, h3, h4, h5, if_true, if_false, true_or, false_or]; rfl
  by_cases h6 : x = 61
  · simp only [h1, h2, h3, h4, h5, h6, if_true, if_false, true_or, false_or]; rfl
  by_cases h7 : x = 43
  · simp only [h1, h2, h3, h4, h5, h6, h7, if_true, if_false, true_or, false_or]; rfl
  by_cases h8 : x = 45
  · simp only [h1, h2, h3, h4, h5, h6, h7, h8, if_true, if_false, true_or, false_or]; rfl
  by_cases h9 : x = 42
  · simp only [h1, h2, h3, h4, h5, h6, h7, h8, h9, if_true, if_false, true_or, false_or]; rfl
  by_cases h10 : x = 47
  · simp only [h1, h2, h3, h4, h5, h6, h7, h8, h9, h10, if_true, if_false, true_or, false_or]; rfl
  by_cases h11 : x = 37
  · simp only [h1, h2, h3, h4, h5, h6, h7, h8, h9, h10, h11, if_true, if_false, true_or, false_or, or_true]; rfl
  simp only [h1, h2, h3, h4, h5, h6, h7, h8, h9, h10, h11, if_false, or_self]
  rfl
theorem b64 : ∀ b, b < 256 → (nI b).toInt64 = lO b := by decide +kernel
theorem c8 : ((8 : Int32).toInt64 &&& 63) = 8 := by decide
theorem sh8 {a b : Nat} (ha : a < 72057594037927936) (hb : b < 256) : (lO a <<< ((8 : Int32).toInt64 &&& 63)) ||| (nI b).toInt64 = lO (a * 256 + b) := by
  rw [b64 b hb, c8]
  apply Int64.toBitVec_inj.mp
  apply BitVec.eq_of_toNat_eq
  have h2 := Nat.shiftLeft_add_eq_or_of_lt (b := b) (i := 8) (by omega) a
  have h3 : a <<< 8 = a * 256 := Nat.shiftLeft_eq _ _
  have e1 : (lO a <<< (8 : Int64)).toBitVec.toNat = a * 256 := by
    show (BitVec.shiftLeft (BitVec.ofNat 64 a) 8).toNat = _
    simp [BitVec.toNat_ofNat, Nat.shiftLeft_eq]
    omega
  have e2 : (lO b).toBitVec.toNat = b := by
    show (BitVec.ofNat 64 b).toNat = b
    simp
    omega
  have e3 : (lO (a * 256 + b)).toBitVec.toNat = a * 256 + b := by
    show (BitVec.ofNat 64 (a * 256 + b)).toNat = _
    simp
    omega
  rw [Int64.toBitVec_or, BitVec.toNat_or, e1, e2, e3, ← h3, ← h2]
def srt (k : Nat) : Nat := if k = 102 then 0 else if k ≤ 19 ∨ k = 101 then 1 else if k = 100 then 2 else if k = 103 then 3 else k
def LexM (τ : Tape) (p : Nat) (σ : St) : Prop := σ.1 90 7 = nI (tq τ p) ∧ σ.1 90 6 = nI (srt (tk τ p)) ∧ (tk τ p = 100 → σ.1 90 8 = nI (tv τ p)) ∧ (tk τ p ≤ 19 ∨ tk τ p = 101 → σ.2 90 9 = lO (vM (tw τ p))) ∧ (tk τ p ≠ 103 → σ.1 90 4 = nI (tn τ p))
theorem kwn_r (w : List Nat) : ∀ n, n < 20 → (1 ≤ kwn w n ∧ kwn w n ≤ 19) ∨ kwn w n = 101
  | 0, _ => Or.inr rfl
  | n + 1, h => by
    rw [kwn]
    split
    · omega
    · exact kwn_r w n (by omega)
theorem kw_r (w : List Nat) : (1 ≤ kw w ∧ kw w ≤ 19) ∨ kw w = 101 := kwn_r w 19 (by decide)
