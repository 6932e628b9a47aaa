/-! THE PURE PART: a calculus of what comes out, and the places -/
def Ok (o : Option (Int32 × St)) (Q : Int32 → St → Prop) : Prop := ∃ r σ', o = some (r, σ') ∧ Q r σ'
theorem ok_ret {r : Int32} {σ : St} {Q : Int32 → St → Prop} (h : Q r σ) : Ok (some (r, σ)) Q := ⟨r, σ, rfl, h⟩
theorem ok_eq {o : Option (Int32 × St)} {r : Int32} {σ : St} {Q : Int32 → St → Prop} (e : o = some (r, σ)) (h : Q r σ) : Ok o Q := ⟨r, σ, e, h⟩
theorem ok_mono {o : Option (Int32 × St)} {P Q : Int32 → St → Prop} (h : Ok o P) (k : ∀ r σ, P r σ → Q r σ) : Ok o Q := by
  obtain ⟨r, σ, e, p⟩ := h
  exact ⟨r, σ, e, k r σ p⟩
theorem ok_call {o : Option (Int32 × St)} {k : Int32 → St → Option (Int32 × St)} {P Q : Int32 → St → Prop} (h : Ok o P) (kk : ∀ r σ, P r σ → Ok (k r σ) Q) : Ok (bnd o k) Q := by
  obtain ⟨r, σ, e, p⟩ := h
  rw [e]
  exact kk r σ p
theorem ok_bnd {o : Option (Int32 × St)} {k : Int32 → St → Option (Int32 × St)} {r : Int32} {σ : St} {Q : Int32 → St → Prop} (e : o = some (r, σ)) (h : Ok (k r σ) Q) : Ok (bnd o k) Q := by
  rw [e]
  exact h
theorem ok_gd {c : Bool} {k : Option (Int32 × St)} {Q : Int32 → St → Prop} (hc : c = true) (h : Ok k Q) : Ok (gd c k) Q := by
  subst hc
  exact h
theorem ok_nmd {α : Type} {e : α} {k : α → Option (Int32 × St)} {Q : Int32 → St → Prop} (h : Ok (k e) Q) : Ok (nmd e k) Q := h
theorem ok_pos {c : Prop} [Decidable c] {a b : Option (Int32 × St)} {Q : Int32 → St → Prop} (hc : c) (h : Ok a Q) : Ok (if c then a else b) Q := by
  rw [if_pos hc]
  exact h
theorem ok_neg {c : Prop} [Decidable c] {a b : Option (Int32 × St)} {Q : Int32 → St → Prop} (hc : ¬ c) (h : Ok b Q) : Ok (if c then a else b) Q := by
  rw [if_neg hc]
  exact h
theorem ok_ite {c : Prop} [Decidable c] {a b : Option (Int32 × St)} {Q : Int32 → St → Prop} (ha : c → Ok a Q) (hb : ¬ c → Ok b Q) : Ok (if c then a else b) Q := by
  by_cases hc : c
  · exact ok_pos hc (ha hc)
  · exact ok_neg hc (hb hc)
theorem gd_t {α : Type} {c : Bool} {k : Option α} (h : c = true) : gd c k = k := if_pos h
theorem bnd_e {β : Type} {o : Option (Int32 × St)} {k : Int32 → St → Option β} {r : Int32} {σ : St} (e : o = some (r, σ)) : bnd o k = k r σ := by rw [e]; rfl
theorem nmd_e {α β : Type} {e : α} {k : α → β} : nmd e k = k e := rfl
theorem ib_nI {i n : Nat} (h : i < n) (hn : n < 2 ^ 31) : ib (nI i) n = true := by
  have := nI_in h hn
  unfold ib
  simpa using this
theorem ib_v {x : Int32} {i n : Nat} (e : x = nI i) (h : i < n) (hn : n < 2 ^ 31) : ib x n = true := by
  subst e
  exact ib_nI h hn
/-- the places -/
def RR0 : Nat → Nat → Nat := wR (rhoOf (xH (fun _ => 0)))
def RR (t : Nat) : Nat → Nat → Nat := sR (sR RR0 0 2 t) 0 3 (34 - t)
def isT (t : Nat) : Prop := t = 9 ∨ t = 25
def isQ (q : Nat) : Prop := q = 41 ∨ q = 46 ∨ q = 83
theorem r_0_2 {ρ : Nat → Nat → Nat} {t : Nat} (h : ρ = RR t) : ρ 0 2 = t := by subst h; rfl
theorem r_0_3 {ρ : Nat → Nat → Nat} {t : Nat} (h : ρ = RR t) : ρ 0 3 = 34 - t := by subst h; rfl
theorem r_62 {ρ : Nat → Nat → Nat} {t j : Nat} (h : ρ = RR t) : ρ 62 j = 63 + j := by subst h; rfl
theorem r_65 {ρ : Nat → Nat → Nat} {t j : Nat} (h : ρ = RR t) : ρ 65 j = 66 + j := by subst h; rfl
theorem r_79 {ρ : Nat → Nat → Nat} {t j : Nat} (h : ρ = RR t) : ρ 79 j = 80 + j := by subst h; rfl
theorem r_t {ρ : Nat → Nat → Nat} {t u : Nat} (hρ : ρ = RR t) (h : isT u) : ρ u 0 = u + 1 ∧ ρ u 1 = u + 2 ∧ ρ u 2 = u + 3 ∧ ρ u 3 = u + 4 ∧ ρ u 4 = u + 5 ∧ ρ u 5 = u + 6 ∧ ρ u 6 = u + 7 ∧ ρ u 7 = u + 8 ∧ ρ u 8 = u + 9 ∧ ρ u 9 = u + 12 ∧ ρ u 10 = u + 15 ∧ ρ (u + 9) 0 = u + 10 ∧ ρ (u + 9) 1 = u + 11 ∧ ρ (u + 12) 0 = u + 13 ∧ ρ (u + 12) 1 = u + 14 := by
  subst hρ
  rcases h with rfl | rfl <;> exact ⟨rfl, rfl, rfl, rfl, rfl, rfl, rfl, rfl, rfl, rfl, rfl, rfl, rfl, rfl, rfl⟩
theorem r_q {ρ : Nat → Nat → Nat} {t q : Nat} (hρ : ρ = RR t) (h : isQ q) : ρ q 0 = q + 1 ∧ ρ q 1 = q + 2 ∧ ρ q 2 = q + 3 ∧ ρ q 3 = q + 4 := by
  subst hρ
  rcases h with rfl | rfl | rfl <;> exact ⟨rfl, rfl, rfl, rfl⟩
theorem r_0_0 {ρ : Nat → Nat → Nat} {t : Nat} (h : ρ = RR t) : ρ 0 0 = 4 := by subst h; rfl
theorem r_0_1 {ρ : Nat → Nat → Nat} {t : Nat} (h : ρ = RR t) : ρ 0 1 = 1 := by subst h; rfl
theorem r_0_4 {ρ : Nat → Nat → Nat} {t : Nat} (h : ρ = RR t) : ρ 0 4 = 41 := by subst h; rfl
theorem r_0_5 {ρ : Nat → Nat → Nat} {t : Nat} (h : ρ = RR t) : ρ 0 5 = 46 := by subst h; rfl
theorem r_0_6 {ρ : Nat → Nat → Nat} {t : Nat} (h : ρ = RR t) : ρ 0 6 = 51 := by subst h; rfl
theorem r_0_7 {ρ : Nat → Nat → Nat} {t : Nat} (h : ρ = RR t) : ρ 0 7 = 53 := by subst h; rfl
theorem r_0_8 {ρ : Nat → Nat → Nat} {t : Nat} (h : ρ = RR t) : ρ 0 8 = 54 := by subst h; rfl
theorem r_0_9 {ρ : Nat → Nat → Nat} {t : Nat} (h : ρ = RR t) : ρ 0 9 = 55 := by subst h; rfl
theorem r_0_10 {ρ : Nat → Nat → Nat} {t : Nat} (h : ρ = RR t) : ρ 0 10 = 61 := by subst h; rfl
theorem r_0_11 {ρ : Nat → Nat → Nat} {t : Nat} (h : ρ = RR t) : ρ 0 11 = 68 := by subst h; rfl
theorem r_0_12 {ρ : Nat → Nat → Nat} {t : Nat} (h : ρ = RR t) : ρ 0 12 = 88 := by subst h; rfl
theorem r_0_13 {ρ : Nat → Nat → Nat} {t : Nat} (h : ρ = RR t) : ρ 0 13 = 89 := by subst h; rfl
theorem r_1_0 {ρ : Nat → Nat → Nat} {t : Nat} (h : ρ = RR t) : ρ 1 0 = 2 := by subst h; rfl
theorem r_1_1 {ρ : Nat → Nat → Nat} {t : Nat} (h : ρ = RR t) : ρ 1 1 = 3 := by subst h; rfl
theorem r_1_2 {ρ : Nat → Nat → Nat} {t : Nat} (h : ρ = RR t) : ρ 1 2 = 7 := by subst h; rfl
theorem r_1_3 {ρ : Nat → Nat → Nat} {t : Nat} (h : ρ = RR t) : ρ 1 3 = 8 := by subst h; rfl
theorem r_2_0 {ρ : Nat → Nat → Nat} {t : Nat} (h : ρ = RR t) : ρ 2 0 = 3 := by subst h; rfl
theorem r_3_0 {ρ : Nat → Nat → Nat} {t : Nat} (h : ρ = RR t) : ρ 3 0 = 4 := by subst h; rfl
theorem r_3_1 {ρ : Nat → Nat → Nat} {t : Nat} (h : ρ = RR t) : ρ 3 1 = 6 := by subst h; rfl
theorem r_4_0 {ρ : Nat → Nat → Nat} {t : Nat} (h : ρ = RR t) : ρ 4 0 = 5 := by subst h; rfl
theorem r_41_0 {ρ : Nat → Nat → Nat} {t : Nat} (h : ρ = RR t) : ρ 41 0 = 42 := by subst h; rfl
theorem r_41_1 {ρ : Nat → Nat → Nat} {t : Nat} (h : ρ = RR t) : ρ 41 1 = 43 := by subst h; rfl
theorem r_41_2 {ρ : Nat → Nat → Nat} {t : Nat} (h : ρ = RR t) : ρ 41 2 = 44 := by subst h; rfl
theorem r_41_3 {ρ : Nat → Nat → Nat} {t : Nat} (h : ρ = RR t) : ρ 41 3 = 45 := by subst h; rfl
theorem r_46_0 {ρ : Nat → Nat → Nat} {t : Nat} (h : ρ = RR t) : ρ 46 0 = 47 := by subst h; rfl
theorem r_46_1 {ρ : Nat → Nat → Nat} {t : Nat} (h : ρ = RR t) : ρ 46 1 = 48 := by subst h; rfl
theorem r_46_2 {ρ : Nat → Nat → Nat} {t : Nat} (h : ρ = RR t) : ρ 46 2 = 49 := by subst h; rfl
theorem r_46_3 {ρ : Nat → Nat → Nat} {t : Nat} (h : ρ = RR t) : ρ 46 3 = 50 := by subst h; rfl
theorem r_51_0 {ρ : Nat → Nat → Nat} {t : Nat} (h : ρ = RR t) : ρ 51 0 = 52 := by subst h; rfl
theorem r_55_0 {ρ : Nat → Nat → Nat} {t : Nat} (h : ρ = RR t) : ρ 55 0 = 56 := by subst h; rfl
theorem r_55_1 {ρ : Nat → Nat → Nat} {t : Nat} (h : ρ = RR t) : ρ 55 1 = 57 := by subst h; rfl
theorem r_55_2 {ρ : Nat → Nat → Nat} {t : Nat} (h : ρ = RR t) : ρ 55 2 = 58 := by subst h; rfl
theorem r_55_3 {ρ : Nat → Nat → Nat} {t : Nat} (h : ρ = RR t) : ρ 55 3 = 59 := by subst h; rfl
theorem r_55_4 {ρ : Nat → Nat → Nat} {t : Nat} (h : ρ = RR t) : ρ 55 4 = 60 := by subst h; rfl
theorem r_61_0 {ρ : Nat → Nat → Nat} {t : Nat} (h : ρ = RR t) : ρ 61 0 = 62 := by subst h; rfl
theorem r_61_1 {ρ : Nat → Nat → Nat} {t : Nat} (h : ρ = RR t) : ρ 61 1 = 65 := by subst h; rfl
theorem r_68_0 {ρ : Nat → Nat → Nat} {t : Nat} (h : ρ = RR t) : ρ 68 0 = 69 := by subst h; rfl
theorem r_68_1 {ρ : Nat → Nat → Nat} {t : Nat} (h : ρ = RR t) : ρ 68 1 = 70 := by subst h; rfl
theorem r_68_2 {ρ : Nat → Nat → Nat} {t : Nat} (h : ρ = RR t) : ρ 68 2 = 71 := by subst h; rfl
theorem r_68_3 {ρ : Nat → Nat → Nat} {t : Nat} (h : ρ = RR t) : ρ 68 3 = 72 := by subst h; rfl
theorem r_68_4 {ρ : Nat → Nat → Nat} {t : Nat} (h : ρ = RR t) : ρ 68 4 = 73 := by subst h; rfl
theorem r_68_5 {ρ : Nat → Nat → Nat} {t : Nat} (h : ρ = RR t) : ρ 68 5 = 74 := by subst h; rfl
theorem r_68_8 {ρ : Nat → Nat → Nat} {t : Nat} (h : ρ = RR t) : ρ 68 8 = 75 := by subst h; rfl
theorem r_68_9 {ρ : Nat → Nat → Nat} {t : Nat} (h : ρ = RR t) : ρ 68 9 = 76 := by subst h; rfl
theorem r_68_10 {ρ : Nat → Nat → Nat} {t : Nat} (h : ρ = RR t) : ρ 68 10 = 77 := by subst h; rfl
theorem r_68_11 {ρ : Nat → Nat → Nat} {t : Nat} (h : ρ = RR t) : ρ 68 11 = 78 := by subst h; rfl
theorem r_68_12 {ρ : Nat → Nat → Nat} {t : Nat} (h : ρ = RR t) : ρ 68 12 = 79 := by subst h; rfl
theorem r_68_13 {ρ : Nat → Nat → Nat} {t : Nat} (h : ρ = RR t) : ρ 68 13 = 83 := by subst h; rfl
theorem r_83_0 {ρ : Nat → Nat → Nat} {t : Nat} (h : ρ = RR t) : ρ 83 0 = 84 := by subst h; rfl
theorem r_83_1 {ρ : Nat → Nat → Nat} {t : Nat} (h : ρ = RR t) : ρ 83 1 = 85 := by subst h; rfl
theorem r_83_2 {ρ : Nat → Nat → Nat} {t : Nat} (h : ρ = RR t) : ρ 83 2 = 86 := by subst h; rfl
theorem r_83_3 {ρ : Nat → Nat → Nat} {t : Nat} (h : ρ = RR t) : ρ 83 3 = 87 := by subst h; rfl
theorem r_90_0 {ρ : Nat → Nat → Nat} {t : Nat} (h : ρ = RR t) : ρ 90 0 = 91 := by subst h; rfl
theorem r_90_10 {ρ : Nat → Nat → Nat} {t : Nat} (h : ρ = RR t) : ρ 90 10 = 92 := by subst h; rfl
theorem r_90_11 {ρ : Nat → Nat → Nat} {t : Nat} (h : ρ = RR t) : ρ 90 11 = 93 := by subst h; rfl
theorem r_90_12 {ρ : Nat → Nat → Nat} {t : Nat} (h : ρ = RR t) : ρ 90 12 = 94 := by subst h; rfl
theorem r_90_13 {ρ : Nat → Nat → Nat} {t : Nat} (h : ρ = RR t) : ρ 90 13 = 95 := by subst h; rfl
theorem r_90_14 {ρ : Nat → Nat → Nat} {t : Nat} (h : ρ = RR t) : ρ 90 14 = 96 := by subst h; rfl
theorem r_90_15 {ρ : Nat → Nat → Nat} {t : Nat} (h : ρ = RR t) : ρ 90 15 = 97 := by subst h; rfl
theorem r_90_16 {ρ : Nat → Nat → Nat} {t : Nat} (h : ρ = RR t) : ρ 90 16 = 98 := by subst h; rfl
theorem r_90_17 {ρ : Nat → Nat → Nat} {t : Nat} (h : ρ = RR t) : ρ 90 17 = 99 := by subst h; rfl
theorem r_90_18 {ρ : Nat → Nat → Nat} {t : Nat} (h : ρ = RR t) : ρ 90 18 = 100 := by subst h; rfl
theorem r_90_19 {ρ : Nat → Nat → Nat} {t : Nat} (h : ρ = RR t) : ρ 90 19 = 101 := by subst h; rfl
theorem r_90_26 {ρ : Nat → Nat → Nat} {t : Nat} (h : ρ = RR t) : ρ 90 26 = 102 := by subst h; rfl
theorem r_90_28 {ρ : Nat → Nat → Nat} {t : Nat} (h : ρ = RR t) : ρ 90 28 = 103 := by subst h; rfl
theorem r_90_29 {ρ : Nat → Nat → Nat} {t : Nat} (h : ρ = RR t) : ρ 90 29 = 104 := by subst h; rfl
theorem r_90_30 {ρ : Nat → Nat → Nat} {t : Nat} (h : ρ = RR t) : ρ 90 30 = 105 := by subst h; rfl
theorem r_90_31 {ρ : Nat → Nat → Nat} {t : Nat} (h : ρ = RR t) : ρ 90 31 = 106 := by subst h; rfl
theorem r_90_32 {ρ : Nat → Nat → Nat} {t : Nat} (h : ρ = RR t) : ρ 90 32 = 107 := by subst h; rfl
theorem r_90_33 {ρ : Nat → Nat → Nat} {t : Nat} (h : ρ = RR t) : ρ 90 33 = 108 := by subst h; rfl
theorem r_90_34 {ρ : Nat → Nat → Nat} {t : Nat} (h : ρ = RR t) : ρ 90 34 = 109 := by subst h; rfl
theorem r_90_35 {ρ : Nat → Nat → Nat} {t : Nat} (h : ρ = RR t) : ρ 90 35 = 110 := by subst h; rfl
theorem r_90_36 {ρ : Nat → Nat → Nat} {t : Nat} (h : ρ = RR t) : ρ 90 36 = 111 := by subst h; rfl
theorem r_90_37 {ρ : Nat → Nat → Nat} {t : Nat} (h : ρ = RR t) : ρ 90 37 = 112 := by subst h; rfl
theorem r_90_38 {ρ : Nat → Nat → Nat} {t : Nat} (h : ρ = RR t) : ρ 90 38 = 113 := by subst h; rfl
theorem r_90_39 {ρ : Nat → Nat → Nat} {t : Nat} (h : ρ = RR t) : ρ 90 39 = 114 := by subst h; rfl
theorem r_90_40 {ρ : Nat → Nat → Nat} {t : Nat} (h : ρ = RR t) : ρ 90 40 = 115 := by subst h; rfl
theorem r_90_41 {ρ : Nat → Nat → Nat} {t : Nat} (h : ρ = RR t) : ρ 90 41 = 116 := by subst h; rfl
theorem r_90_42 {ρ : Nat → Nat → Nat} {t : Nat} (h : ρ = RR t) : ρ 90 42 = 117 := by subst h; rfl
theorem r_90_43 {ρ : Nat → Nat → Nat} {t : Nat} (h : ρ = RR t) : ρ 90 43 = 118 := by subst h; rfl
theorem r_90_56 {ρ : Nat → Nat → Nat} {t : Nat} (h : ρ = RR t) : ρ 90 56 = 119 := by subst h; rfl
theorem r_90_57 {ρ : Nat → Nat → Nat} {t : Nat} (h : ρ = RR t) : ρ 90 57 = 120 := by subst h; rfl
theorem r_90_58 {ρ : Nat → Nat → Nat} {t : Nat} (h : ρ = RR t) : ρ 90 58 = 121 := by subst h; rfl
theorem r_90_59 {ρ : Nat → Nat → Nat} {t : Nat} (h : ρ = RR t) : ρ 90 59 = 122 := by subst h; rfl
theorem r_90_60 {ρ : Nat → Nat → Nat} {t : Nat} (h : ρ = RR t) : ρ 90 60 = 123 := by subst h; rfl
theorem r_90_61 {ρ : Nat → Nat → Nat} {t : Nat} (h : ρ = RR t) : ρ 90 61 = 124 := by subst h; rfl
theorem r_90_64 {ρ : Nat → Nat → Nat} {t : Nat} (h : ρ = RR t) : ρ 90 64 = 125 := by subst h; rfl
theorem r_90_66 {ρ : Nat → Nat → Nat} {t : Nat} (h : ρ = RR t) : ρ 90 66 = 126 := by subst h; rfl
theorem r_90_67 {ρ : Nat → Nat → Nat} {t : Nat} (h : ρ = RR t) : ρ 90 67 = 127 := by subst h; rfl
theorem r_90_68 {ρ : Nat → Nat → Nat} {t : Nat} (h : ρ = RR t) : ρ 90 68 = 128 := by subst h; rfl
theorem r_90_69 {ρ : Nat → Nat → Nat} {t : Nat} (h : ρ = RR t) : ρ 90 69 = 129 := by subst h; rfl
theorem r_90_70 {ρ : Nat → Nat → Nat} {t : Nat} (h : ρ = RR t) : ρ 90 70 = 130 := by subst h; rfl
theorem r_90_71 {ρ : Nat → Nat → Nat} {t : Nat} (h : ρ = RR t) : ρ 90 71 = 131 := by subst h; rfl
theorem r_90_72 {ρ : Nat → Nat → Nat} {t : Nat} (h : ρ = RR t) : ρ 90 72 = 132 := by subst h; rfl
theorem r_90_73 {ρ : Nat → Nat → Nat} {t : Nat} (h : ρ = RR t) : ρ 90 73 = 133 := by subst h; rfl
theorem r_90_76 {ρ : Nat → Nat → Nat} {t : Nat} (h : ρ = RR t) : ρ 90 76 = 134 := by subst h; rfl
theorem r_90_77 {ρ : Nat → Nat → Nat} {t : Nat} (h : ρ = RR t) : ρ 90 77 = 135 := by subst h; rfl
theorem r_90_78 {ρ : Nat → Nat → Nat} {t : Nat} (h : ρ = RR t) : ρ 90 78 = 136 := by subst h; rfl
theorem r_90_79 {ρ : Nat → Nat → Nat} {t : Nat} (h : ρ = RR t) : ρ 90 79 = 137 := by subst h; rfl
theorem r_90_80 {ρ : Nat → Nat → Nat} {t : Nat} (h : ρ = RR t) : ρ 90 80 = 138 := by subst h; rfl
theorem r_90_81 {ρ : Nat → Nat → Nat} {t : Nat} (h : ρ = RR t) : ρ 90 81 = 139 := by subst h; rfl
/-- sets as bits -/
def bits (p : Nat → Bool) : Nat → Int32
  | 0 => 0
  | n + 1 => if p n = true then bits p n ||| (1 <<< (nI n &&& 31)) else bits p n
def cnt (p : Nat → Bool) : Nat → Nat
  | 0 => 0
  | n + 1 => cnt p n + (if p n = true then 1 else 0)
def bv (b0 b1 b2 b3 b4 b5 : Bool) : Int32 := (((((if b0 then 1 else 0) ||| (if b1 then 2 else 0)) ||| (if b2 then 4 else 0)) ||| (if b3 then 8 else 0)) ||| (if b4 then 16 else 0)) ||| (if b5 then 32 else 0)
def bn (b0 b1 b2 b3 b4 b5 : Bool) : Nat := (if b0 then 1 else 0) + (if b1 then 1 else 0) + (if b2 then 1 else 0) + (if b3 then 1 else 0) + (if b4 then 1 else 0) + (if b5 then 1 else 0)
theorem six {n : Nat} (h : n ≤ 6) : n = 0 ∨ n = 1 ∨ n = 2 ∨ n = 3 ∨ n = 4 ∨ n = 5 ∨ n = 6 := by omega
theorem six_lt {n : Nat} (h : n < 6) : n = 0 ∨ n = 1 ∨ n = 2 ∨ n = 3 ∨ n = 4 ∨ n = 5 := by omega
def tb (p : Nat → Bool) (n k : Nat) : Bool := decide (k < n) && p k
theorem bits_cg {p q : Nat → Bool} {n : Nat} (h : ∀ k, k < n → p k = q k) : bits p n = bits q n := by
  induction n with
  | zero => rfl
  | succ n ih =>
    simp only [bits]
    rw [ih (fun k hk => h k (by omega)), h n (by omega)]
theorem bits_bv {p : Nat → Bool} {n : Nat} (h : n ≤ 6) : bits p n = bv (tb p n 0) (tb p n 1) (tb p n 2) (tb p n 3) (tb p n 4) (tb p n 5) := by
  have key : ∀ b0 b1 b2 b3 b4 b5 : Bool, ∀ n, n ≤ 6 → bits (fun k => [b0, b1, b2, b3, b4, b5].getD k false) n = bv (decide (0 < n) && b0) (decide (1 < n) && b1) (decide (2 < n) && b2) (decide (3 < n) && b3) (decide (4 < n) && b4) (decide (5 < n) && b5) := by decide +kernel
  have hc : bits p n = bits (fun k => [p 0, p 1, p 2, p 3, p 4, p 5].getD k false) n := bits_cg (fun m hm => by
    rcases six_lt (show m < 6 by omega) with rfl | rfl | rfl | rfl | rfl | rfl <;> rfl)
  rw [hc]
  exact key _ _ _ _ _ _ n h
theorem cnt_bn {p : Nat → Bool} {n : Nat} (h : n ≤ 6) : cnt p n = bn (tb p n 0) (tb p n 1) (tb p n 2) (tb p n 3) (tb p n 4) (tb p n 5) := by
  rcases six h with rfl | rfl | rfl | rfl | rfl | rfl | rfl <;> simp [cnt, bn, tb]
theorem bv_bit : ∀ b0 b1 b2 b3 b4 b5 : Bool, ∀ k, k < 6 → (bv b0 b1 b2 b3 b4 b5 >>> (nI k &&& 31)) &&& 1 = if [b0, b1, b2, b3, b4, b5].getD k false = true then 1 else 0 := by decide +kernel
theorem bits_bit {p : Nat → Bool} {n k : Nat} (h : n ≤ 6) (hk : k < 6) : (bits p n >>> (nI k &&& 31)) &&& 1 = if (decide (k < n) && p k) = true then 1 else 0 := by
  rw [bits_bv h, bv_bit _ _ _ _ _ _ k hk]
  rcases six_lt hk with rfl | rfl | rfl | rfl | rfl | rfl <;> rfl
theorem bits_in {p : Nat → Bool} {n k : Nat} (h : n ≤ 6) (hk : k < n) : (bits p n >>> (nI k &&& 31)) &&& 1 = if p k = true then 1 else 0 := by
  rw [bits_bit h (by omega)]
  simp [hk]
theorem cnt_cg {p q : Nat → Bool} {n : Nat} (h : ∀ k, k < n → p k = q k) : cnt p n = cnt q n := by
  induction n with
  | zero => rfl
  | succ n ih =>
    simp only [cnt]
    rw [ih (fun k hk => h k (by omega)), h n (by omega)]
theorem cnt_le (p : Nat → Bool) : ∀ n, cnt p n ≤ n
  | 0 => Nat.le_refl _
  | n + 1 => by
    have := cnt_le p n
    simp only [cnt]
    split <;> omega
/-- a set beyond its end -/
theorem bits_ext {p : Nat → Bool} {n m : Nat} (h : n ≤ m) (hp : ∀ k, n ≤ k → k < m → p k = false) : bits p m = bits p n := by
  induction m with
  | zero => rw [show n = 0 by omega]
  | succ m ih =>
    by_cases e : n = m + 1
    · rw [e]
    · simp only [bits]
      rw [if_neg (by rw [hp m (by omega) (by omega)]; decide), ih (by omega) (fun k h1 h2 => hp k h1 (by omega))]
theorem cnt_ext {p : Nat → Bool} {n m : Nat} (h : n ≤ m) (hp : ∀ k, n ≤ k → k < m → p k = false) : cnt p m = cnt p n := by
  induction m with
  | zero => rw [show n = 0 by omega]
  | succ m ih =>
    by_cases e : n = m + 1
    · rw [e]
    · simp only [cnt]
      rw [if_neg (by rw [hp m (by omega) (by omega)]; decide), ih (by omega) (fun k h1 h2 => hp k h1 (by omega)), Nat.add_zero]
def pc5 (x : Int32) : Int32 :=
  let y1 := x - ((ushr x 1) &&& (1431655765))
  let y2 := (y1 &&& (858993459)) + ((ushr y1 2) &&& (858993459))
  let y3 := (y2 + (ushr y2 4)) &&& (252645135)
  let y4 := y3 + (ushr y3 8)
  let y5 := y4 + (ushr y4 16)
  y5 &&& 63
theorem bv_pc : ∀ b0 b1 b2 b3 b4 b5 : Bool, pc5 (bv b0 b1 b2 b3 b4 b5) = nI (bn b0 b1 b2 b3 b4 b5) := by decide +kernel
theorem s_bitCount {N : Nat} {ρ : Nat → Nat → Nat} {σ : St} {p : Nat → Bool} {n : Nat} (h : n ≤ 6) : f_J6_bitCount_0f7a4 N ρ (bits p n) σ = some (nI (cnt p n), σ) := by
  show some (pc5 (bits p n), σ) = _
  rw [bits_bv h, bv_pc, cnt_bn h]
def sh1 (x k : Int32) : Int32 := (x >>> (k &&& 31)) &&& 1
def mb6 (x : Int32) : Int32 := 0 + sh1 x 0 + sh1 x (0 + 1) + sh1 x (0 + 1 + 1) + sh1 x (0 + 1 + 1 + 1) + sh1 x (0 + 1 + 1 + 1 + 1) + sh1 x (0 + 1 + 1 + 1 + 1 + 1)
theorem bv_mb : ∀ b0 b1 b2 b3 b4 b5 : Bool, mb6 (bv b0 b1 b2 b3 b4 b5) = nI (bn b0 b1 b2 b3 b4 b5) := by decide +kernel
theorem s_members {N : Nat} {ρ : Nat → Nat → Nat} {σ : St} {p : Nat → Bool} {n : Nat} (hN : 20000 ≤ N) (h : n ≤ 6) : f_X12_members N ρ (bits p n) σ = some (nI (cnt p n), σ) := by
  obtain ⟨m, rfl⟩ : ∃ m, N = m + 7 := ⟨N - 7, by omega⟩
  rw [cnt_bn h, ← bv_mb, ← bits_bv h]
  rfl
