/-! SETS OF STOOLS, QUARRELS -/
def atH (S : SDat) (h s : Nat) : Bool := decide (S 3 s = h + 1)
theorem sv_eq {v h : Nat} (hv : v < 2 ^ 31) (hh : h < 2 ^ 31) : sv v = nI h ↔ v = h + 1 := by
  unfold sv
  by_cases h0 : v = 0
  · rw [if_pos h0]
    constructor
    · intro e
      have := congrArg Int32.toInt e
      rw [nI_toInt hh] at this
      have e1 : (-1 : Int32).toInt = -1 := rfl
      omega
    · intro e; omega
  · rw [if_neg h0, nI_eq (by omega) hh]
    omega
theorem sv_m1 {v : Nat} (hv : v < 2 ^ 31) : sv v = -1 ↔ v = 0 := by
  unfold sv
  by_cases h0 : v = 0
  · rw [if_pos h0]
    exact ⟨fun _ => h0, fun _ => rfl⟩
  · rw [if_neg h0]
    constructor
    · intro e
      have := congrArg Int32.toInt e
      rw [nI_toInt (by omega)] at this
      have e1 : (-1 : Int32).toInt = -1 := rfl
      omega
    · intro e; exact absurd e h0
theorem sv_0 : sv 0 = -1 := rfl
theorem sv_s (h : Nat) : sv (h + 1) = nI h := rfl
theorem sv_neg {v : Nat} (h : v = 0) : ¬ 0 ≤ sv v := by subst h; decide
theorem sv_pos {v : Nat} (h : v ≠ 0) (hv : v < 2 ^ 31) : 0 ≤ sv v := by
  unfold sv
  rw [if_neg h]
  exact nI_pos' (by omega)
theorem five_lit {i : Nat} (h : i < 5) : ¬ (5 : Int32) ≤ nI i := nI_ge (show i < 5 from h) (by decide)
theorem bits_y {p : Nat → Bool} {i : Nat} (h : p i = true) : bits p i ||| (1 <<< (nI i &&& 31)) = bits p (i + 1) := by
  simp only [bits]
  rw [if_pos h]
theorem bits_n {p : Nat → Bool} {i : Nat} (h : ¬ p i = true) : bits p i = bits p (i + 1) := by
  simp only [bits]
  rw [if_neg h]
theorem sh_0 : ∀ i, i < 6 → (0 : Int32) <<< (nI i &&& 31) = 0 := by decide +kernel
theorem or_0 (x : Int32) : x ||| 0 = x := by simp
theorem bits_t {p : Nat → Bool} {i : Nat} (hi : i < 6) : bits p i ||| ((if p i = true then (1 : Int32) else 0) <<< (nI i &&& 31)) = bits p (i + 1) := by
  by_cases h : p i = true
  · rw [if_pos h]; exact bits_y h
  · rw [if_neg h, sh_0 i hi, or_0]; exact bits_n h
theorem setAt_loop {N q : Nat} {ρ : Nat → Nat → Nat} {x : Int32} {σ : St} : ∀ n i, i ≤ 5 → 5 - i < n → f_X9_setAt_4 N ρ q x n (bits (fun s => decide (σ.1 (ρ q 3) s = x)) i) (nI i) σ = some (bits (fun s => decide (σ.1 (ρ q 3) s = x)) 5, σ) := by
  intro n
  induction n with
  | zero => intro i _ h; omega
  | succ n ih =>
    intro i hi hn
    show b_X9_setAt_4 N ρ q x (f_X9_setAt_4 N ρ q x n) _ (nI i) σ = _
    unfold b_X9_setAt_4 f_X9_setAt_25
    by_cases h5 : i = 5
    · subst h5; rfl
    · have h := ih (i + 1) (by omega) (by omega)
      rw [if_neg (five_lit (by omega)), gd_t (ib_nI (by omega) (by decide)), nI_clamp (by omega), nI_1, nmd_e]
      by_cases hp : σ.1 (ρ q 3) i = x
      · rw [if_pos hp, bits_y (p := fun s => decide (σ.1 (ρ q 3) s = x)) (by simpa using hp)]
        exact h
      · rw [if_neg hp, bits_n (p := fun s => decide (σ.1 (ρ q 3) s = x)) (by simpa using hp)]
        exact h
theorem s_setAtX {N q : Nat} {ρ : Nat → Nat → Nat} {x : Int32} {σ : St} (hN : 20000 ≤ N) : f_X9_setAt N ρ q x σ = some (bits (fun s => decide (σ.1 (ρ q 3) s = x)) 5, σ) := setAt_loop N 0 (by decide) (by omega)
theorem WfS_lt {c : CDat} {S : SDat} (wf : WfC c) (ws : WfS c S) {s : Nat} (hs : s < ns c) : S 0 s < 2 ^ 31 ∧ S 3 s < 2 ^ 31 ∧ S 0 s ≤ 99 := by
  have h1 := (ws.1 s hs)
  have h2 := (wf.2.2.2.1 s hs)
  have h3 := wf.1
  omega
theorem s_setAt {N t q h : Nat} {ρ : Nat → Nat → Nat} {c : CDat} {S : SDat} {σ : St} (hN : 20000 ≤ N) (hρ : ρ = RR t) (hq : isQ q) (wf : WfC c) (ws : WfS c S) (rs : RepS q c S σ) (hh : h < 6) : f_X9_setAt N ρ q (nI h) σ = some (bits (atH S h) (ns c), σ) := by
  rw [s_setAtX hN, rq3 hρ hq]
  have hns := wf.2.1
  have e1 : bits (fun s => decide (σ.1 (q + 4) s = nI h)) 5 = bits (fun s => decide (σ.1 (q + 4) s = nI h)) (ns c) := bits_ext hns (fun k h1 h2 => by
    rw [rs.2.1 k h1 h2]
    have : ∀ h, h < 6 → decide ((-1 : Int32) = nI h) = false := by decide
    exact this h hh)
  rw [e1, bits_cg (q := atH S h) (fun k hk => ?_)]
  rw [(rs.1 k hk).2.2.2]
  have := sv_eq (WfS_lt wf ws hk).2.1 (show h < 2 ^ 31 by omega)
  unfold atH
  exact decide_eq_decide.mpr this
theorem s_setNone {N t q : Nat} {ρ : Nat → Nat → Nat} {c : CDat} {S : SDat} {σ : St} (hN : 20000 ≤ N) (hρ : ρ = RR t) (hq : isQ q) (wf : WfC c) (ws : WfS c S) (rs : RepS q c S σ) : f_X9_setAt N ρ q (-1) σ = some (bits (fun s => !decide (s < ns c) || decide (S 3 s = 0)) 5, σ) := by
  rw [s_setAtX hN, rq3 hρ hq, bits_cg (q := fun s => !decide (s < ns c) || decide (S 3 s = 0)) (fun k hk => ?_)]
  by_cases h : k < ns c
  · rw [(rs.1 k h).2.2.2]
    have := sv_m1 (WfS_lt wf ws h).2.1
    simp [h, this]
  · rw [rs.2.1 k (by omega) hk]
    simp [h]
theorem sentTo_loop {N t h : Nat} {ρ : Nat → Nat → Nat} {c : CDat} {S : SDat} {σ : St} (hρ : ρ = RR t) (wf : WfC c) (ws : WfS c S) (rm : RepM c σ) (ra : RepA 120 c S σ) (hh : h < 6) : ∀ n i, i ≤ ns c → ns c - i < n → f_X12_sentTo_4 N ρ 90 (nI h) n (bits (atH S h) i) (nI i) σ = some (bits (atH S h) (ns c), σ) := by
  have hns := wf.2.1
  intro n
  induction n with
  | zero => intro i _ h; omega
  | succ n ih =>
    intro i hi hn
    show b_X12_sentTo_4 N ρ 90 (nI h) (f_X12_sentTo_4 N ρ 90 (nI h) n) _ (nI i) σ = _
    unfold b_X12_sentTo_4 f_X12_sentTo_31
    rw [rm.2.1]
    by_cases h5 : i = ns c
    · rw [if_pos (by rw [h5]; exact Int32.le_refl _), h5]
    · have hx := ih (i + 1) (by omega) (by omega)
      rw [if_neg (nI_ge (by omega) (by omega)), show (15 : Int32) + nI i = nI (15 + i) from nI_add 15 i, gd_t (ib_nI (by omega) (by decide)), nI_clamp (by omega), nI_1, r_90_57 hρ, (ra.1 i (by omega)).2.2.2]
      have e := sv_eq (WfS_lt wf ws (show i < ns c by omega)).2.1 (show h < 2 ^ 31 by omega)
      have ht := bits_t (p := atH S h) (show i < 6 by omega)
      by_cases hp : S 3 i = h + 1
      · rw [if_pos (e.mpr hp), bnd_e s_truth, nmd_e]
        have : atH S h i = true := by simp [atH, hp]
        rw [this] at ht
        rw [show (if (1 : Int32) = 0 then (0 : Int32) else 1) = (if true = true then 1 else 0) from rfl, ht]
        exact hx
      · rw [if_neg (fun z => hp (e.mp z)), bnd_e s_truth, nmd_e]
        have : atH S h i = false := by simp [atH, hp]
        rw [this] at ht
        rw [show (if (0 : Int32) = 0 then (0 : Int32) else 1) = (if false = true then 1 else 0) from rfl, ht]
        exact hx
theorem s_sentTo {N t h : Nat} {ρ : Nat → Nat → Nat} {c : CDat} {S : SDat} {σ : St} (hN : 20000 ≤ N) (hρ : ρ = RR t) (wf : WfC c) (ws : WfS c S) (rm : RepM c σ) (ra : RepA 120 c S σ) (hh : h < 6) : f_X12_sentTo N ρ 90 (nI h) σ = some (bits (atH S h) (ns c), σ) := sentTo_loop hρ wf ws rm ra hh N 0 (Nat.zero_le _) (by have := wf.2.1; omega)
/-- unlike creeds -/
def exq (cr : Nat → Nat) (p : Nat → Bool) (a : Nat) : Nat → Bool
  | 0 => false
  | b + 1 => exq cr p a b || (p a && p b && decide (cr a ≠ cr b))
def qn (cr : Nat → Nat) (p : Nat → Bool) : Nat → Bool
  | 0 => false
  | a + 1 => qn cr p a || exq cr p a a
theorem exq_iff {cr : Nat → Nat} {p : Nat → Bool} {a : Nat} : ∀ n, exq cr p a n = true ↔ ∃ b, b < n ∧ p a = true ∧ p b = true ∧ cr a ≠ cr b
  | 0 => by simp [exq]
  | n + 1 => by
    simp only [exq, Bool.or_eq_true, exq_iff n, Bool.and_eq_true, decide_eq_true_eq]
    constructor
    · rintro (⟨b, hb, h⟩ | ⟨⟨h1, h2⟩, h3⟩)
      · exact ⟨b, by omega, h⟩
      · exact ⟨n, by omega, h1, h2, h3⟩
    · rintro ⟨b, hb, h1, h2, h3⟩
      by_cases e : b = n
      · subst e; exact Or.inr ⟨⟨h1, h2⟩, h3⟩
      · exact Or.inl ⟨b, by omega, h1, h2, h3⟩
theorem qn_iff {cr : Nat → Nat} {p : Nat → Bool} : ∀ n, qn cr p n = true ↔ ∃ a b, b < a ∧ a < n ∧ p a = true ∧ p b = true ∧ cr a ≠ cr b
  | 0 => by simp [qn]
  | n + 1 => by
    simp only [qn, Bool.or_eq_true, qn_iff n, exq_iff]
    constructor
    · rintro (⟨a, b, h1, h2, h⟩ | ⟨b, h1, h⟩)
      · exact ⟨a, b, h1, by omega, h⟩
      · exact ⟨n, b, h1, by omega, h⟩
    · rintro ⟨a, b, h1, h2, h⟩
      by_cases e : a = n
      · subst e; exact Or.inr ⟨b, h1, h⟩
      · exact Or.inl ⟨a, b, h1, by omega, h⟩
theorem qIn_loop {N t : Nat} {ρ : Nat → Nat → Nat} {c : CDat} {p : Nat → Bool} {m : Nat} {σ : St} (hρ : ρ = RR t) (ht : isT t) (wf : WfC c) (rc : RepC t c σ) (hm : ns c ≤ m) (hm6 : m ≤ 6) : ∀ n i (f : Int32), i ≤ ns c → ns c - i < n → ((f = -1 ∧ ∀ a, a < i → p a = false) ∨ (∃ a0, a0 < i ∧ p a0 = true ∧ f = nI (dt c 6 a0) ∧ ∀ a, a < i → p a = true → dt c 6 a = dt c 6 a0)) →
    f_X0_quarrelIn_4 N ρ t (bits p m) n f (nI i) σ = some (if qn (dt c 6) p (ns c) = true then 1 else 0, σ) := by
  have hns := wf.2.1
  intro n
  induction n with
  | zero => intro i f _ h; omega
  | succ n ih =>
    intro i f hi hn hf
    show b_X0_quarrelIn_4 N ρ t (bits p m) (f_X0_quarrelIn_4 N ρ t (bits p m) n) f (nI i) σ = _
    unfold b_X0_quarrelIn_4 f_X0_quarrelIn_47
    rw [rc.2.1]
    by_cases h5 : i = ns c
    · rw [if_pos (by rw [h5]; exact Int32.le_refl _), if_neg]
      rw [qn_iff]
      rintro ⟨a, b, h1, h2, h3, h4, h6⟩
      rcases hf with ⟨_, hf⟩ | ⟨a0, h7, h8, h9, h10⟩
      · rw [hf a (by omega)] at h3; cases h3
      · exact h6 ((h10 a (by omega) h3).trans (h10 b (by omega) h4).symm)
    · have il : i < ns c := by omega
      have cr31 : ∀ a, a < ns c → dt c 6 a < 2 ^ 31 := fun a ha => by have := (wf.2.2.2.1 a ha).2.2.1; omega
      have em : σ.1 (t + 7) i = nI (dt c 6 i) := rc.2.2.2.2.2.2.1 6 i (by decide) (by decide) il
      rw [if_neg (nI_ge il (by omega)), bits_in hm6 (show i < m by omega), nI_1, rt6 hρ ht, nI_clamp (by omega), em]
      by_cases hp : p i = true
      · rw [if_pos hp, if_neg (by decide)]
        rcases hf with ⟨e, hf⟩ | ⟨a0, h7, h8, h9, h10⟩
        · rw [if_pos e, gd_t (ib_nI (by omega) (by decide)), nmd_e]
          refine ih (i + 1) _ (by omega) (by omega) (Or.inr ⟨i, by omega, hp, rfl, fun a ha hpa => ?_⟩)
          by_cases e2 : a = i
          · rw [e2]
          · rw [hf a (by omega)] at hpa; cases hpa
        · have hne : ¬ f = -1 := by
            rw [h9]
            intro z
            have := congrArg Int32.toInt z
            rw [nI_toInt (cr31 a0 (by omega))] at this
            have e1 : (-1 : Int32).toInt = -1 := rfl
            omega
          rw [if_neg hne, gd_t (ib_nI (by omega) (by decide)), h9]
          by_cases e : dt c 6 i = dt c 6 a0
          · rw [if_pos (by rw [e]), ← h9]
            refine ih (i + 1) f (by omega) (by omega) (Or.inr ⟨a0, by omega, h8, h9, fun a ha hpa => ?_⟩)
            by_cases e2 : a = i
            · rw [e2, e]
            · exact h10 a (by omega) hpa
          · rw [if_neg (fun z => e ((nI_eq (cr31 i il) (cr31 a0 (by omega))).mp z)), if_pos ((qn_iff _).mpr ⟨i, a0, h7, il, hp, h8, e⟩)]
      · rw [if_neg hp, if_pos rfl]
        refine ih (i + 1) f (by omega) (by omega) ?_
        rcases hf with ⟨e, hf⟩ | ⟨a0, h7, h8, h9, h10⟩
        · refine Or.inl ⟨e, fun a ha => ?_⟩
          by_cases e2 : a = i
          · rw [e2]; simpa using hp
          · exact hf a (by omega)
        · refine Or.inr ⟨a0, by omega, h8, h9, fun a ha hpa => ?_⟩
          by_cases e2 : a = i
          · rw [e2] at hpa; exact absurd hpa hp
          · exact h10 a (by omega) hpa
theorem s_quarrelIn {N t : Nat} {ρ : Nat → Nat → Nat} {c : CDat} {p : Nat → Bool} {m : Nat} {σ : St} (hN : 20000 ≤ N) (hρ : ρ = RR t) (ht : isT t) (wf : WfC c) (rc : RepC t c σ) (hm : ns c ≤ m) (hm6 : m ≤ 6) : f_X0_quarrelIn N ρ t (bits p m) σ = some (if qn (dt c 6) p (ns c) = true then 1 else 0, σ) :=
  qIn_loop hρ ht wf rc hm hm6 N 0 (-1) (Nat.zero_le _) (by have := wf.2.1; omega) (Or.inl ⟨rfl, fun a ha => by omega⟩)
