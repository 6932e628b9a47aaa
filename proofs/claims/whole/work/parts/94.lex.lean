/-! THE TOKENS of a tape -/
def isL (b : Nat) : Bool := decide (97 ≤ b ∧ b ≤ 122)
def isD (b : Nat) : Bool := decide (48 ≤ b ∧ b ≤ 57)
def isB (b : Nat) : Bool := decide (b = 32 ∨ b = 10)
def isSg (b : Nat) : Bool := decide (b = 59 ∨ b = 40 ∨ b = 41 ∨ b = 60 ∨ b = 62 ∨ b = 61 ∨ b = 43 ∨ b = 45 ∨ b = 42 ∨ b = 47 ∨ b = 37)
abbrev Tape := Nat × (Nat → Nat)
def rnn (P : Nat → Bool) (τ : Tape) : Nat → Nat → Nat
  | 0, p => p
  | n + 1, p => if p < τ.1 ∧ P (τ.2 p) = true then rnn P τ n (p + 1) else p
theorem rnn_in {P : Nat → Bool} {τ : Tape} : ∀ n p i, p ≤ i → i < rnn P τ n p → i < τ.1 ∧ P (τ.2 i) = true
  | 0, p, i, h1, h2 => by
    have : i < p := h2
    omega
  | n + 1, p, i, h1, h2 => by
    rw [rnn] at h2
    by_cases h : p < τ.1 ∧ P (τ.2 p) = true
    · rw [if_pos h] at h2
      by_cases e : i = p
      · subst e; exact h
      · exact rnn_in n (p + 1) i (by omega) h2
    · rw [if_neg h] at h2
      omega
theorem rnn_ge {P : Nat → Bool} {τ : Tape} : ∀ n p, p ≤ rnn P τ n p
  | 0, p => Nat.le_refl _
  | n + 1, p => by
    rw [rnn]
    split
    · have := rnn_ge (P := P) (τ := τ) n (p + 1); omega
    · exact Nat.le_refl _
theorem rnn_out {P : Nat → Bool} {τ : Tape} : ∀ n p, τ.1 - p ≤ n → ¬ (rnn P τ n p < τ.1 ∧ P (τ.2 (rnn P τ n p)) = true)
  | 0, p, h => by
    rintro ⟨h1, _⟩
    have : p < τ.1 := h1
    omega
  | n + 1, p, h => by
    rw [rnn]
    by_cases hh : p < τ.1 ∧ P (τ.2 p) = true
    · rw [if_pos hh]
      exact rnn_out n (p + 1) (by omega)
    · rw [if_neg hh]
      exact hh
def rnP (P : Nat → Bool) (τ : Tape) (p : Nat) : Nat := rnn P τ (τ.1 - p) p
theorem rnP_in {P : Nat → Bool} {τ : Tape} {p i : Nat} (h1 : p ≤ i) (h2 : i < rnP P τ p) : i < τ.1 ∧ P (τ.2 i) = true := rnn_in _ p i h1 h2
theorem rnP_ge {P : Nat → Bool} {τ : Tape} {p : Nat} : p ≤ rnP P τ p := rnn_ge _ p
theorem rnP_out {P : Nat → Bool} {τ : Tape} {p : Nat} : ¬ (rnP P τ p < τ.1 ∧ P (τ.2 (rnP P τ p)) = true) := rnn_out _ p (Nat.le_refl _)
theorem rnP_le {P : Nat → Bool} {τ : Tape} {p : Nat} (h : p ≤ τ.1) : rnP P τ p ≤ τ.1 := by
  by_cases e : rnP P τ p = p
  · omega
  · have g := rnP_ge (P := P) (τ := τ) (p := p)
    have := (rnP_in (P := P) (τ := τ) (p := p) (i := rnP P τ p - 1) (by omega) (by omega)).1
    omega
/-- letters, the last one first -/
def lw (bt : Nat → Nat) (q : Nat) : Nat → List Nat
  | 0 => []
  | n + 1 => bt (q + n) :: lw bt q n
def vX : List Nat → Nat
  | [] => 0
  | b :: r => vX r * 32 + (b - 96)
def vM : List Nat → Nat
  | [] => 0
  | b :: r => vM r * 256 + b
def nvl (bt : Nat → Nat) (q : Nat) : Nat → Nat
  | 0 => 0
  | n + 1 => nvl bt q n * 10 + (bt (q + n) - 48)
def okW (w : List Nat) : Prop := w.length ≤ 8 ∧ ∀ b ∈ w, 97 ≤ b ∧ b ≤ 122
theorem vX_lt : ∀ {w : List Nat}, (∀ b ∈ w, 97 ≤ b ∧ b ≤ 122) → vX w < 32 ^ w.length
  | [], _ => by decide
  | b :: r, h => by
    have ih := vX_lt (w := r) (fun x hx => h x (List.mem_cons_of_mem _ hx))
    have hb := h b List.mem_cons_self
    rw [vX, List.length_cons, Nat.pow_succ]
    omega
theorem vM_lt : ∀ {w : List Nat}, (∀ b ∈ w, 97 ≤ b ∧ b ≤ 122) → vM w < 128 * 256 ^ (w.length - 1) ∧ vM w < 256 ^ w.length
  | [], _ => by decide
  | b :: r, h => by
    have ih := vM_lt (w := r) (fun x hx => h x (List.mem_cons_of_mem _ hx))
    have hb := h b List.mem_cons_self
    rw [vM, List.length_cons, Nat.add_sub_cancel, Nat.pow_succ]
    cases r with
    | nil => simp [vM]; omega
    | cons a s =>
      rw [List.length_cons, Nat.add_sub_cancel, Nat.pow_succ] at ih
      rw [List.length_cons, Nat.pow_succ]
      omega
theorem vX_inj : ∀ {w w' : List Nat}, (∀ b ∈ w, 97 ≤ b ∧ b ≤ 122) → (∀ b ∈ w', 97 ≤ b ∧ b ≤ 122) → vX w = vX w' → w = w'
  | [], [], _, _, _ => rfl
  | [], b :: r, _, h', e => by
    have hb := h' b List.mem_cons_self
    rw [vX, vX] at e
    omega
  | b :: r, [], h, _, e => by
    have hb := h b List.mem_cons_self
    rw [vX, vX] at e
    omega
  | b :: r, b' :: r', h, h', e => by
    have hb := h b List.mem_cons_self
    have hb' := h' b' List.mem_cons_self
    rw [vX, vX] at e
    have e1 : vX r = vX r' := by omega
    have e2 : b = b' := by omega
    rw [e2, vX_inj (fun x hx => h x (List.mem_cons_of_mem _ hx)) (fun x hx => h' x (List.mem_cons_of_mem _ hx)) e1]
theorem vM_inj : ∀ {w w' : List Nat}, (∀ b ∈ w, 97 ≤ b ∧ b ≤ 122) → (∀ b ∈ w', 97 ≤ b ∧ b ≤ 122) → vM w = vM w' → w = w'
  | [], [], _, _, _ => rfl
  | [], b :: r, _, h', e => by
    have hb := h' b List.mem_cons_self
    rw [vM, vM] at e
    omega
  | b :: r, [], h, _, e => by
    have hb := h b List.mem_cons_self
    rw [vM, vM] at e
    omega
  | b :: r, b' :: r', h, h', e => by
    have hb := h b List.mem_cons_self
    have hb' := h' b' List.mem_cons_self
    rw [vM, vM] at e
    have e1 : vM r = vM r' := by omega
    have e2 : b = b' := by omega
    rw [e2, vM_inj (fun x hx => h x (List.mem_cons_of_mem _ hx)) (fun x hx => h' x (List.mem_cons_of_mem _ hx)) e1]
theorem pow_b (b n : Nat) (h : n ≤ 8) : 32 ^ n ≤ 1099511627776 := by
  have : (32 : Nat) ^ n ≤ 32 ^ 8 := Nat.pow_le_pow_right (by decide) h
  exact Nat.le_trans this (by decide)
theorem vX_b {w : List Nat} (h : okW w) : vX w < 1099511627776 := Nat.lt_of_lt_of_le (vX_lt h.2) (pow_b 0 _ h.1)
theorem vM_b {w : List Nat} (h : okW w) : vM w < 9223372036854775808 := by
  have a := (vM_lt h.2).1
  have b : (256 : Nat) ^ (w.length - 1) ≤ 256 ^ 7 := Nat.pow_le_pow_right (by decide) (by have := h.1; omega)
  have c : (256 : Nat) ^ 7 = 72057594037927936 := by decide
  omega
def lO (n : Nat) : Int64 := Int64.ofNat n
theorem lO_inj {a b : Nat} (ha : a < 9223372036854775808) (hb : b < 9223372036854775808) (h : lO a = lO b) : a = b := by
  have h1 : (lO a).toInt = a := Int64.toInt_ofNat_of_lt ha
  have h2 : (lO b).toInt = b := Int64.toInt_ofNat_of_lt hb
  rw [h] at h1
  omega
/-- the words, the last letter first -/
def WL (k : Nat) : List Nat := ([[], [121, 118, 97, 101, 104], [121, 110, 97, 109], [109, 114, 97, 119], [116, 110, 101, 100], [103, 110, 111, 114, 116, 115], [121, 97, 100], [114, 111], [100, 110, 97], [116, 111, 110], [104, 116, 114, 97, 101, 104], [116, 97], [109, 111, 111, 114], [108, 111, 111, 116, 115], [100, 101, 101, 114, 99], [115, 114, 97, 101, 98], [115, 114, 97, 101, 119], [115, 101, 118, 97, 115], [100, 108, 111, 99], [119, 97, 114, 100]] : List (List Nat)).getD k []
theorem WL_WT : ∀ k, k < 20 → WT k = lO (vX (WL k)) := by decide +kernel
theorem WL_ok : ∀ k, k < 20 → (WL k).length ≤ 8 ∧ ∀ b ∈ WL k, 97 ≤ b ∧ b ≤ 122 := by decide +kernel
theorem WL_ne : ∀ j, j < 20 → ∀ k, k < 20 → WL j = WL k → j = k := by decide +kernel
def kwn (w : List Nat) : Nat → Nat
  | 0 => 101
  | k + 1 => if w = WL (k + 1) then k + 1 else kwn w k
def kw (w : List Nat) : Nat := kwn w 19
theorem kwn_n {w : List Nat} : ∀ n, (∀ k, 1 ≤ k → k ≤ n → w ≠ WL k) → kwn w n = 101
  | 0, _ => rfl
  | n + 1, h => by
    rw [kwn, if_neg (h (n + 1) (by omega) (Nat.le_refl _))]
    exact kwn_n n (fun k a b => h k a (by omega))
theorem kwn_y {w : List Nat} {k : Nat} (e : w = WL k) (k1 : 1 ≤ k) : ∀ n, n < 20 → k ≤ n → kwn w n = k
  | 0, _, h => by omega
  | n + 1, hn, h => by
    rw [kwn]
    by_cases e2 : w = WL (n + 1)
    · rw [if_pos e2]
      exact WL_ne _ hn _ (by omega) (e2.symm.trans e)
    · rw [if_neg e2]
      refine kwn_y e k1 n (by omega) ?_
      by_cases e3 : k = n + 1
      · subst e3; exact absurd e e2
      · omega
def tq (τ : Tape) (p : Nat) : Nat := rnP isB τ p
def tl (τ : Tape) (p : Nat) : Nat := rnP isL τ (tq τ p) - tq τ p
def td (τ : Tape) (p : Nat) : Nat := rnP isD τ (tq τ p) - tq τ p
/-- the sort of the token read from p: a word's number, a sign, 100 a number, 101 a name, 102 the end, 103 none -/
def tk (τ : Tape) (p : Nat) : Nat :=
  if tq τ p < τ.1 then
    (if isL (τ.2 (tq τ p)) = true then (if tl τ p ≤ 8 then kw (lw τ.2 (tq τ p) (tl τ p)) else 103)
     else if isD (τ.2 (tq τ p)) = true then (if td τ p ≤ 4 ∧ ¬ (tq τ p + td τ p < τ.1 ∧ isL (τ.2 (tq τ p + td τ p)) = true) then 100 else 103)
     else if isSg (τ.2 (tq τ p)) = true then τ.2 (tq τ p) else 103)
  else 102
def tn (τ : Tape) (p : Nat) : Nat :=
  if tq τ p < τ.1 then
    (if isL (τ.2 (tq τ p)) = true then tq τ p + tl τ p else if isD (τ.2 (tq τ p)) = true then tq τ p + td τ p else tq τ p + 1)
  else tq τ p
def tw (τ : Tape) (p : Nat) : List Nat := lw τ.2 (tq τ p) (tl τ p)
def tv (τ : Tape) (p : Nat) : Nat := nvl τ.2 (tq τ p) (td τ p)
theorem tl_in {τ : Tape} {p i : Nat} (h : i < tl τ p) : tq τ p + i < τ.1 ∧ isL (τ.2 (tq τ p + i)) = true := rnP_in (p := tq τ p) (by omega) (by unfold tl at h; omega)
theorem tl_out {τ : Tape} {p : Nat} : ¬ (tq τ p + tl τ p < τ.1 ∧ isL (τ.2 (tq τ p + tl τ p)) = true) := by
  have := rnP_out (P := isL) (τ := τ) (p := tq τ p)
  have g := rnP_ge (P := isL) (τ := τ) (p := tq τ p)
  rw [show tq τ p + tl τ p = rnP isL τ (tq τ p) by unfold tl; omega]
  exact this
theorem td_in {τ : Tape} {p i : Nat} (h : i < td τ p) : tq τ p + i < τ.1 ∧ isD (τ.2 (tq τ p + i)) = true := rnP_in (p := tq τ p) (by omega) (by unfold td at h; omega)
theorem td_out {τ : Tape} {p : Nat} : ¬ (tq τ p + td τ p < τ.1 ∧ isD (τ.2 (tq τ p + td τ p)) = true) := by
  have := rnP_out (P := isD) (τ := τ) (p := tq τ p)
  have g := rnP_ge (P := isD) (τ := τ) (p := tq τ p)
  rw [show tq τ p + td τ p = rnP isD τ (tq τ p) by unfold td; omega]
  exact this
theorem lw_in {bt : Nat → Nat} {q : Nat} : ∀ n, (∀ i, i < n → isL (bt (q + i)) = true) → ∀ b ∈ lw bt q n, 97 ≤ b ∧ b ≤ 122
  | 0, _, b, hb => by cases hb
  | n + 1, h, b, hb => by
    rw [lw] at hb
    rcases List.mem_cons.mp hb with rfl | hb
    · exact of_decide_eq_true (h n (by omega))
    · exact lw_in n (fun i hi => h i (by omega)) b hb
theorem lw_len {bt : Nat → Nat} {q : Nat} : ∀ n, (lw bt q n).length = n
  | 0 => rfl
  | n + 1 => by rw [lw, List.length_cons, lw_len n]
theorem tw_in {τ : Tape} {p : Nat} : ∀ b ∈ tw τ p, 97 ≤ b ∧ b ≤ 122 := lw_in _ (fun _ hi => (tl_in hi).2)
theorem tw_ok {τ : Tape} {p : Nat} (h : tl τ p ≤ 8) : okW (tw τ p) := ⟨by unfold tw; rw [lw_len]; exact h, tw_in⟩
