/-! WHAT IS TOLD AND WHAT IS SO, as both hold it -/
abbrev CDat : Type := (Nat × Nat) × (Nat → Nat → Nat) × (List Cd × List Cd)
abbrev SDat : Type := Nat → Nat → Nat
abbrev nh (c : CDat) : Nat := c.1.1
abbrev ns (c : CDat) : Nat := c.1.2
abbrev dt (c : CDat) : Nat → Nat → Nat := c.2.1
abbrev fb (c : CDat) : List Cd := c.2.2.1
abbrev fw (c : CDat) : List Cd := c.2.2.2
/-- where one is sent: 0 is nowhere -/
def sv (v : Nat) : Int32 := if v = 0 then -1 else nI (v - 1)
def WfF (E : List Cd) : Prop := E.length ≤ 270 ∧ (E = [] ∨ wfE 0 E)
def WfC (c : CDat) : Prop :=
  nh c ≤ 6 ∧ ns c ≤ 5 ∧ (∀ h, h < nh c → dt c 0 h ≤ 99 ∧ dt c 1 h ≤ 99 ∧ 1 ≤ dt c 2 h ∧ dt c 2 h ≤ 5 ∧ dt c 3 h ≤ 9) ∧ (∀ s, s < ns c → dt c 4 s ≤ 99 ∧ dt c 5 s ≤ 99 ∧ dt c 6 s ≤ 3 ∧ dt c 7 s ≤ 99) ∧ 1 ≤ dt c 8 0 ∧ dt c 8 0 ≤ 99 ∧ dt c 8 1 ≤ 100 ∧ dt c 8 2 ≤ 999 ∧ WfF (fb c) ∧ WfF (fw c)
def WfS (c : CDat) (S : SDat) : Prop := (∀ s, s < ns c → S 0 s ≤ dt c 5 s ∧ S 1 s ≤ 99 ∧ S 2 s ≤ 99 ∧ S 3 s ≤ nh c) ∧ S 4 0 ≤ 2000 ∧ S 4 1 ≤ 999
def RepC (t : Nat) (c : CDat) (σ : St) : Prop :=
  σ.1 t 11 = nI (nh c) ∧ σ.1 t 12 = nI (ns c) ∧ σ.1 t 13 = nI (dt c 8 0) ∧ σ.1 t 14 = nI (dt c 8 1) ∧ σ.1 t 15 = nI (dt c 8 2) ∧
  (∀ k i, k < 4 → i < nh c → σ.1 (t + 1 + k) i = nI (dt c k i)) ∧ (∀ k i, 4 ≤ k → k < 8 → i < ns c → σ.1 (t + 1 + k) i = nI (dt c k i)) ∧
  σ.1 (t + 9) 2 = nI (fb c).length ∧ (∀ j, j < (fb c).length → σ.1 (t + 10) j = encC ((fb c).getD j (.inl 0))) ∧ σ.1 (t + 12) 2 = nI (fw c).length ∧ (∀ j, j < (fw c).length → σ.1 (t + 13) j = encC ((fw c).getD j (.inl 0))) ∧
  σ.1 (t + 9) 3 + σ.1 (t + 12) 3 = nI (dt c 8 3)
def RepM (c : CDat) (σ : St) : Prop :=
  σ.1 90 49 = nI (nh c) ∧ σ.1 90 50 = nI (ns c) ∧ σ.1 90 51 = nI (dt c 8 0) ∧ σ.1 90 52 = nI (dt c 8 1) ∧ σ.1 90 23 = nI (dt c 8 3) ∧
  (∀ k i, k < 4 → i < nh c → σ.1 (111 + k) i = nI (dt c k i)) ∧ (∀ k i, 4 ≤ k → k < 8 → i < ns c → σ.1 (111 + k) i = nI (dt c k i)) ∧
  σ.1 98 0 = nI (fb c).length ∧ (∀ j, j < (fb c).length → σ.1 96 (320 * 0 + j) = encS ((fb c).getD j (.inl 0)) ∧ σ.1 97 (320 * 0 + j) = encA ((fb c).getD j (.inl 0))) ∧
  σ.1 98 1 = nI (fw c).length ∧ (∀ j, j < (fw c).length → σ.1 96 (320 * 1 + j) = encS ((fw c).getD j (.inl 0)) ∧ σ.1 97 (320 * 1 + j) = encA ((fw c).getD j (.inl 0)))
def RepS (q : Nat) (c : CDat) (S : SDat) (σ : St) : Prop := (∀ s, s < ns c → σ.1 (q + 1) s = nI (S 0 s) ∧ σ.1 (q + 2) s = nI (S 1 s) ∧ σ.1 (q + 3) s = nI (S 2 s) ∧ σ.1 (q + 4) s = sv (S 3 s)) ∧ (∀ s, ns c ≤ s → s < 5 → σ.1 (q + 4) s = -1) ∧ σ.1 q 4 = nI (S 4 0) ∧ σ.1 q 5 = nI (S 4 1)
def RepA (p : Nat) (c : CDat) (S : SDat) (σ : St) : Prop := (∀ s, s < ns c → σ.1 p s = nI (S 0 s) ∧ σ.1 p (5 + s) = nI (S 1 s) ∧ σ.1 p (10 + s) = nI (S 2 s) ∧ σ.1 p (15 + s) = sv (S 3 s)) ∧ σ.1 p 20 = nI (S 4 0) ∧ σ.1 p 21 = nI (S 4 1)
theorem RepC_cg {t : Nat} {c : CDat} {σ σ' : St} (h : RepC t c σ) (e : ∀ p, t ≤ p → p ≤ t + 13 → p ≠ t + 11 → σ'.1 p = σ.1 p) : RepC t c σ' := by
  obtain ⟨h1, h2, h3, h4, h5, h6, h7, h8, h9, h10, h11, h12⟩ := h
  refine ⟨?_, ?_, ?_, ?_, ?_, ?_, ?_, ?_, ?_, ?_, ?_, ?_⟩
  · rw [e t (by omega) (by omega) (by omega)]; exact h1
  · rw [e t (by omega) (by omega) (by omega)]; exact h2
  · rw [e t (by omega) (by omega) (by omega)]; exact h3
  · rw [e t (by omega) (by omega) (by omega)]; exact h4
  · rw [e t (by omega) (by omega) (by omega)]; exact h5
  · intro k i a b; rw [e (t + 1 + k) (by omega) (by omega) (by omega)]; exact h6 k i a b
  · intro k i a b d; rw [e (t + 1 + k) (by omega) (by omega) (by omega)]; exact h7 k i a b d
  · rw [e (t + 9) (by omega) (by omega) (by omega)]; exact h8
  · intro j a; rw [e (t + 10) (by omega) (by omega) (by omega)]; exact h9 j a
  · rw [e (t + 12) (by omega) (by omega) (by omega)]; exact h10
  · intro j a; rw [e (t + 13) (by omega) (by omega) (by omega)]; exact h11 j a
  · rw [e (t + 9) (by omega) (by omega) (by omega), e (t + 12) (by omega) (by omega) (by omega)]; exact h12
theorem RepM_cg {c : CDat} {σ σ' : St} (h : RepM c σ) (e : ∀ p, p = 90 ∨ (96 ≤ p ∧ p ≤ 98) ∨ (111 ≤ p ∧ p ≤ 118) → σ'.1 p = σ.1 p) : RepM c σ' := by
  obtain ⟨h1, h2, h3, h4, h5, h6, h7, h8, h9, h10, h11⟩ := h
  refine ⟨?_, ?_, ?_, ?_, ?_, ?_, ?_, ?_, ?_, ?_, ?_⟩
  · rw [e 90 (by omega)]; exact h1
  · rw [e 90 (by omega)]; exact h2
  · rw [e 90 (by omega)]; exact h3
  · rw [e 90 (by omega)]; exact h4
  · rw [e 90 (by omega)]; exact h5
  · intro k i a b; rw [e (111 + k) (by omega)]; exact h6 k i a b
  · intro k i a b d; rw [e (111 + k) (by omega)]; exact h7 k i a b d
  · rw [e 98 (by omega)]; exact h8
  · intro j a; rw [e 96 (by omega), e 97 (by omega)]; exact h9 j a
  · rw [e 98 (by omega)]; exact h10
  · intro j a; rw [e 96 (by omega), e 97 (by omega)]; exact h11 j a
theorem RepS_cg {q : Nat} {c : CDat} {S : SDat} {σ σ' : St} (h : RepS q c S σ) (e : ∀ p, q ≤ p → p ≤ q + 4 → σ'.1 p = σ.1 p) : RepS q c S σ' := by
  obtain ⟨h1, h2, h3, h4⟩ := h
  refine ⟨?_, ?_, ?_, ?_⟩
  · intro s hs; rw [e (q + 1) (by omega) (by omega), e (q + 2) (by omega) (by omega), e (q + 3) (by omega) (by omega), e (q + 4) (by omega) (by omega)]; exact h1 s hs
  · intro s a b; rw [e (q + 4) (by omega) (by omega)]; exact h2 s a b
  · rw [e q (by omega) (by omega)]; exact h3
  · rw [e q (by omega) (by omega)]; exact h4
theorem RepA_cg {p : Nat} {c : CDat} {S : SDat} {σ σ' : St} (h : RepA p c S σ) (e : σ'.1 p = σ.1 p) : RepA p c S σ' := by
  unfold RepA
  rw [e]
  exact h
theorem rt0 {ρ : Nat → Nat → Nat} {t u : Nat} (hρ : ρ = RR t) (h : isT u) : ρ u 0 = u + 1 := (r_t hρ h).1
theorem rt1 {ρ : Nat → Nat → Nat} {t u : Nat} (hρ : ρ = RR t) (h : isT u) : ρ u 1 = u + 2 := (r_t hρ h).2.1
theorem rt2 {ρ : Nat → Nat → Nat} {t u : Nat} (hρ : ρ = RR t) (h : isT u) : ρ u 2 = u + 3 := (r_t hρ h).2.2.1
theorem rt3 {ρ : Nat → Nat → Nat} {t u : Nat} (hρ : ρ = RR t) (h : isT u) : ρ u 3 = u + 4 := (r_t hρ h).2.2.2.1
theorem rt4 {ρ : Nat → Nat → Nat} {t u : Nat} (hρ : ρ = RR t) (h : isT u) : ρ u 4 = u + 5 := (r_t hρ h).2.2.2.2.1
theorem rt5 {ρ : Nat → Nat → Nat} {t u : Nat} (hρ : ρ = RR t) (h : isT u) : ρ u 5 = u + 6 := (r_t hρ h).2.2.2.2.2.1
theorem rt6 {ρ : Nat → Nat → Nat} {t u : Nat} (hρ : ρ = RR t) (h : isT u) : ρ u 6 = u + 7 := (r_t hρ h).2.2.2.2.2.2.1
theorem rt7 {ρ : Nat → Nat → Nat} {t u : Nat} (hρ : ρ = RR t) (h : isT u) : ρ u 7 = u + 8 := (r_t hρ h).2.2.2.2.2.2.2.1
theorem rt8 {ρ : Nat → Nat → Nat} {t u : Nat} (hρ : ρ = RR t) (h : isT u) : ρ u 8 = u + 9 := (r_t hρ h).2.2.2.2.2.2.2.2.1
theorem rt9 {ρ : Nat → Nat → Nat} {t u : Nat} (hρ : ρ = RR t) (h : isT u) : ρ u 9 = u + 12 := (r_t hρ h).2.2.2.2.2.2.2.2.2.1
theorem rt10 {ρ : Nat → Nat → Nat} {t u : Nat} (hρ : ρ = RR t) (h : isT u) : ρ u 10 = u + 15 := (r_t hρ h).2.2.2.2.2.2.2.2.2.2.1
theorem rb0 {ρ : Nat → Nat → Nat} {t u : Nat} (hρ : ρ = RR t) (h : isT u) : ρ (u + 9) 0 = u + 10 := (r_t hρ h).2.2.2.2.2.2.2.2.2.2.2.1
theorem rb1 {ρ : Nat → Nat → Nat} {t u : Nat} (hρ : ρ = RR t) (h : isT u) : ρ (u + 9) 1 = u + 11 := (r_t hρ h).2.2.2.2.2.2.2.2.2.2.2.2.1
theorem rw0 {ρ : Nat → Nat → Nat} {t u : Nat} (hρ : ρ = RR t) (h : isT u) : ρ (u + 12) 0 = u + 13 := (r_t hρ h).2.2.2.2.2.2.2.2.2.2.2.2.2.1
theorem rw1 {ρ : Nat → Nat → Nat} {t u : Nat} (hρ : ρ = RR t) (h : isT u) : ρ (u + 12) 1 = u + 14 := (r_t hρ h).2.2.2.2.2.2.2.2.2.2.2.2.2.2
theorem rq0 {ρ : Nat → Nat → Nat} {t q : Nat} (hρ : ρ = RR t) (h : isQ q) : ρ q 0 = q + 1 := (r_q hρ h).1
theorem rq1 {ρ : Nat → Nat → Nat} {t q : Nat} (hρ : ρ = RR t) (h : isQ q) : ρ q 1 = q + 2 := (r_q hρ h).2.1
theorem rq2 {ρ : Nat → Nat → Nat} {t q : Nat} (hρ : ρ = RR t) (h : isQ q) : ρ q 2 = q + 3 := (r_q hρ h).2.2.1
theorem rq3 {ρ : Nat → Nat → Nat} {t q : Nat} (hρ : ρ = RR t) (h : isQ q) : ρ q 3 = q + 4 := (r_q hρ h).2.2.2
/-- scratch of the class's formulas; of the model's -/
def Sc (t p : Nat) : Prop := p = t + 15 ∨ p = t + 11 ∨ p = t + 14
def Sm (p : Nat) : Prop := p = 100 ∨ p = 102
theorem isT_le {t : Nat} (h : isT t) : 9 ≤ t ∧ t + 16 ≤ 41 := by rcases h with rfl | rfl <;> decide
theorem isQ_le {q : Nat} (h : isQ q) : 41 ≤ q ∧ q + 4 < 90 := by rcases h with rfl | rfl | rfl <;> decide
theorem RepC_sc {t : Nat} {c : CDat} {σ σ' : St} (h : RepC t c σ) (a : Ag (Sc t) σ σ') : RepC t c σ' := RepC_cg h (fun p h1 h2 h3 => (a p (by unfold Sc; omega)).1)
theorem RepS_sc {t q : Nat} {c : CDat} {S : SDat} {σ σ' : St} (ht : isT t) (hq : isQ q) (h : RepS q c S σ) (a : Ag (Sc t) σ σ') : RepS q c S σ' := RepS_cg h (fun p h1 h2 => (a p (by have := isT_le ht; have := isQ_le hq; unfold Sc; omega)).1)
theorem RepM_sm {c : CDat} {σ σ' : St} (h : RepM c σ) (a : Ag Sm σ σ') : RepM c σ' := RepM_cg h (fun p hp => (a p (by unfold Sm; omega)).1)
theorem RepA_sm {p : Nat} {c : CDat} {S : SDat} {σ σ' : St} (hp : p = 119 ∨ p = 120) (h : RepA p c S σ) (a : Ag Sm σ σ') : RepA p c S σ' := RepA_cg h (a p (by unfold Sm; omega)).1
theorem ok_ag {o : Option (Int32 × St)} {Q : Int32 → St → Prop} {P : St → Prop} (h : Ok o Q) (m : ∀ r σ', o = some (r, σ') → P σ') : Ok o (fun r σ' => Q r σ' ∧ P σ') := by
  obtain ⟨r, σ', e, q⟩ := h
  exact ⟨r, σ', e, q, m r σ' e⟩
/-- the terms, the load and the wear -/
def hvy (c : CDat) (h : Nat) (x : Int32) : Int32 := if 0 ≤ nI (dt c 1 h) + x then nI (dt c 1 h) + x else 0
def tt (c : CDat) (S : SDat) (s h : Nat) (m x : Int32) (k : Nat) : Int32 := ([hvy c h x, m, nI (dt c 3 h), nI (S 1 s), nI (S 0 s), nI (S 4 0)] : List Int32).getD k 0
def fv (E : List Cd) (T : Nat → Int32) (o : Int32) : Int32 := match E with
  | [] => o
  | c :: E => (evE T [] (c :: E)).headD 0
def ld (c : CDat) (S : SDat) (s h m : Nat) (x : Int32) : Int32 := wth (fv (fb c) (tt c S s h (nI m) x) ((hvy c h x + nI m - 1) / nI m)) 999
def wr (c : CDat) (S : SDat) (s h m : Nat) : Int32 := wth (fv (fw c) (tt c S s h (nI m) 0) 1) (nI (S 0 s))
theorem fa_of_lt' {y : Int32} (h : 0 < y) : 0 ≤ y := by
  rw [Int32.lt_iff_toInt_lt] at h
  rw [Int32.le_iff_toInt_le]
  omega
theorem mmax0 (y : Int32) : mmax 0 y = if 0 ≤ y then y else 0 := by
  unfold mmax
  by_cases h : 0 < y
  · rw [if_pos h, if_pos (fa_of_lt' h)]
  · rw [if_neg h]
    by_cases h2 : 0 ≤ y
    · rw [if_pos h2]
      rw [Int32.lt_iff_toInt_lt] at h
      rw [Int32.le_iff_toInt_le] at h2
      exact Int32.toInt_inj.mp (by omega)
    · rw [if_neg h2]
theorem hasS_y {N : Nat} {ρ : Nat → Nat → Nat} {t n s : Nat} {σ : St} (e : σ.1 t 12 = nI n) (hn : n ≤ 5) (h : s < n) : f_X0_hasStool N ρ t (nI s) σ = some (1, σ) := by
  unfold f_X0_hasStool f_X0_hasStool_22
  rw [e, if_neg (nI_pos (by omega)), if_neg (nI_ge h (by omega)), if_neg (show ¬ (5 : Int32) ≤ nI s from nI_ge (show s < 5 by omega) (by decide))]
  rfl
theorem hasS_n {N : Nat} {ρ : Nat → Nat → Nat} {t n : Nat} {x : Int32} {σ : St} (e : σ.1 t 12 = nI n) (h : x < 0 ∨ nI n ≤ x) : f_X0_hasStool N ρ t x σ = some (0, σ) := by
  unfold f_X0_hasStool f_X0_hasStool_21 f_X0_hasStool_22
  rw [e]
  rcases h with h | h
  · rw [if_pos h]; rfl
  · by_cases h0 : x < 0
    · rw [if_pos h0]; rfl
    · rw [if_neg h0, if_pos h]; rfl
theorem hasH_y {N : Nat} {ρ : Nat → Nat → Nat} {t n s : Nat} {σ : St} (e : σ.1 t 11 = nI n) (hn : n ≤ 6) (h : s < n) : f_X0_hasHearth N ρ t (nI s) σ = some (1, σ) := by
  unfold f_X0_hasHearth f_X0_hasHearth_23
  rw [e, if_neg (nI_pos (by omega)), if_neg (nI_ge h (by omega)), if_neg (show ¬ (6 : Int32) ≤ nI s from nI_ge (show s < 6 by omega) (by decide))]
  rfl
theorem hasH_n {N : Nat} {ρ : Nat → Nat → Nat} {t n : Nat} {x : Int32} {σ : St} (e : σ.1 t 11 = nI n) (h : x < 0 ∨ nI n ≤ x) : f_X0_hasHearth N ρ t x σ = some (0, σ) := by
  unfold f_X0_hasHearth f_X0_hasHearth_22 f_X0_hasHearth_23
  rw [e]
  rcases h with h | h
  · rw [if_pos h]; rfl
  · by_cases h0 : x < 0
    · rw [if_pos h0]; rfl
    · rw [if_neg h0, if_pos h]; rfl
theorem isTold_0 {N : Nat} {ρ : Nat → Nat → Nat} {p : Nat} {σ : St} (e : σ.1 p 2 = nI 0) : f_X1_isTold N ρ p σ = some (0, σ) := by
  unfold f_X1_isTold f_X1_isTold_12
  rw [e]
  rfl
theorem isTold_1 {N : Nat} {ρ : Nat → Nat → Nat} {p n : Nat} {σ : St} (e : σ.1 p 2 = nI (n + 1)) (hn : n + 1 < 2 ^ 31) : f_X1_isTold N ρ p σ = some (1, σ) := by
  unfold f_X1_isTold f_X1_isTold_12
  rw [e, if_neg (nI_nle (by omega) hn)]
  rfl
