/-! FORMULAS: a code is a number, a term, a not, or one of ten joins -/
abbrev Cd : Type := Int32 ⊕ Nat ⊕ Unit ⊕ Nat
def opC (o : Nat) : Int32 := ([43, 45, 42, 47, 37, 60, 62, 61, 8, 7] : List Int32).getD o 0
def opM (o : Nat) : Int32 := ([43, 45, 42, 47, 37, 60, 62, 61, 38, 124] : List Int32).getD o 0
def encC (c : Cd) : Int32 := match c with
  | .inl v => v
  | .inr (.inl k) => -(nI (k + 1))
  | .inr (.inr (.inl _)) => -9
  | .inr (.inr (.inr o)) => -(opC o)
def encS (c : Cd) : Int32 := match c with
  | .inl _ => 0
  | .inr (.inl _) => 1
  | .inr (.inr (.inl _)) => 2
  | .inr (.inr (.inr _)) => 3
def encA (c : Cd) : Int32 := match c with
  | .inl v => v
  | .inr (.inl k) => nI k
  | .inr (.inr (.inl _)) => 0
  | .inr (.inr (.inr o)) => opM o
def okCd (c : Cd) : Prop := match c with
  | .inl v => 0 ≤ v
  | .inr (.inl k) => k < 6
  | .inr (.inr (.inl _)) => True
  | .inr (.inr (.inr o)) => o < 10
def jn (o : Nat) (a b : Int32) : Int32 := match o with
  | 0 => a + b
  | 1 => a - b
  | 2 => a * b
  | 3 => if b = 0 then 0 else a / b
  | 4 => if b = 0 then 0 else irem a b
  | 5 => if b ≤ a then 0 else 1
  | 6 => if a ≤ b then 0 else 1
  | 7 => if a = b then 1 else 0
  | 8 => if a = 0 then 0 else if b = 0 then 0 else 1
  | _ => if a = 0 then (if b = 0 then 0 else 1) else 1
theorem ten {o : Nat} (h : o < 10) : o = 0 ∨ o = 1 ∨ o = 2 ∨ o = 3 ∨ o = 4 ∨ o = 5 ∨ o = 6 ∨ o = 7 ∨ o = 8 ∨ o = 9 := by omega
theorem nz_t {y : Int32} (h : ¬ y = 0) : nz y = true := by simp [nz, h]
theorem s_truth {N : Nat} {ρ : Nat → Nat → Nat} {x : Int32} {σ : St} : f_X12_truth N ρ x σ = some (if x = 0 then 0 else 1, σ) := by
  unfold f_X12_truth f_X12_truth_9
  split <;> rfl
set_option maxRecDepth 100000 in
theorem s_joined {N : Nat} {ρ : Nat → Nat → Nat} {o : Nat} {a b : Int32} {σ : St} (h : o < 10) : f_X1_joined N ρ (opC o) a b σ = some (jn o a b, σ) := by
  rcases ten h with rfl | rfl | rfl | rfl | rfl | rfl | rfl | rfl | rfl | rfl
  · rfl
  · rfl
  · rfl
  · show (if b = 0 then some ((0 : Int32), σ) else gd (nz b) (some (a / b, σ))) = some (if b = 0 then 0 else a / b, σ)
    by_cases hb : b = 0
    · rw [if_pos hb, if_pos hb]
    · rw [if_neg hb, if_neg hb, gd_t (nz_t hb)]
  · show (if b = 0 then some ((0 : Int32), σ) else gd (nz b) (some (irem a b, σ))) = some (if b = 0 then 0 else irem a b, σ)
    by_cases hb : b = 0
    · rw [if_pos hb, if_pos hb]
    · rw [if_neg hb, if_neg hb, gd_t (nz_t hb)]
  · show (if b ≤ a then some ((0 : Int32), σ) else some (1, σ)) = some (if b ≤ a then 0 else 1, σ)
    split <;> rfl
  · show (if a ≤ b then some ((0 : Int32), σ) else some (1, σ)) = some (if a ≤ b then 0 else 1, σ)
    split <;> rfl
  · show (if a = b then some ((1 : Int32), σ) else some (0, σ)) = some (if a = b then 1 else 0, σ)
    split <;> rfl
  · show (if a = 0 then some ((0 : Int32), σ) else if b = 0 then some (0, σ) else some (1, σ)) = some (if a = 0 then 0 else if b = 0 then 0 else 1, σ)
    split <;> (try split) <;> rfl
  · show (if a = 0 then (if b = 0 then some ((0 : Int32), σ) else some (1, σ)) else some (1, σ)) = some (if a = 0 then (if b = 0 then 0 else 1) else 1, σ)
    split <;> (try split) <;> rfl
set_option maxRecDepth 100000 in
theorem s_done {N : Nat} {ρ : Nat → Nat → Nat} {o : Nat} {a b : Int32} {σ : St} (h : o < 10) : f_X12_done N ρ (opM o) a b σ = some (jn o a b, σ) := by
  rcases ten h with rfl | rfl | rfl | rfl | rfl | rfl | rfl | rfl | rfl | rfl
  · rfl
  · rfl
  · rfl
  · show (if b = 0 then some ((0 : Int32), σ) else gd (nz b) (some (a / b, σ))) = some (if b = 0 then 0 else a / b, σ)
    by_cases hb : b = 0
    · rw [if_pos hb, if_pos hb]
    · rw [if_neg hb, if_neg hb, gd_t (nz_t hb)]
  · show (if b = 0 then some ((0 : Int32), σ) else gd (nz b) (some (irem a b, σ))) = some (if b = 0 then 0 else irem a b, σ)
    by_cases hb : b = 0
    · rw [if_pos hb, if_pos hb]
    · rw [if_neg hb, if_neg hb, gd_t (nz_t hb)]
  · show (if b ≤ a then some ((0 : Int32), σ) else some (1, σ)) = some (if b ≤ a then 0 else 1, σ)
    split <;> rfl
  · show (if a ≤ b then some ((0 : Int32), σ) else some (1, σ)) = some (if a ≤ b then 0 else 1, σ)
    split <;> rfl
  · show (if a = b then some ((1 : Int32), σ) else some (0, σ)) = some (if a = b then 1 else 0, σ)
    split <;> rfl
  · show (if a = 0 then some ((0 : Int32), σ) else if b = 0 then some (0, σ) else some (1, σ)) = some (if a = 0 then 0 else if b = 0 then 0 else 1, σ)
    split <;> (try split) <;> rfl
  · show (if a = 0 then (if b = 0 then some ((0 : Int32), σ) else some (1, σ)) else some (1, σ)) = some (if a = 0 then (if b = 0 then 0 else 1) else 1, σ)
    split <;> (try split) <;> rfl
