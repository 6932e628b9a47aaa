/-! THE MODEL's SMALL ONES about tokens -/
theorem tk_word {τ : Tape} {p : Nat} (hb : ∀ j, j < τ.1 → τ.2 j < 256) (h : tk τ p ≤ 19 ∨ tk τ p = 101) : tl τ p ≤ 8 ∧ tk τ p = kw (tw τ p) := by
  unfold tk at h ⊢
  by_cases c1 : tq τ p < τ.1
  · rw [if_pos c1] at h ⊢
    by_cases c2 : isL (τ.2 (tq τ p)) = true
    · rw [if_pos c2] at h ⊢
      by_cases c3 : tl τ p ≤ 8
      · rw [if_pos c3]; exact ⟨c3, rfl⟩
      · rw [if_neg c3] at h; omega
    · rw [if_neg c2] at h
      by_cases c3 : isD (τ.2 (tq τ p)) = true
      · rw [if_pos c3] at h; split at h <;> omega
      · rw [if_neg c3] at h
        by_cases c4 : isSg (τ.2 (tq τ p)) = true
        · rw [if_pos c4] at h
          have := sg_lb _ (hb _ c1) c4
          omega
        · rw [if_neg c4] at h; omega
  · rw [if_neg c1] at h; omega
theorem tk_pos {τ : Tape} {p : Nat} (hb : ∀ j, j < τ.1 → τ.2 j < 256) : 1 ≤ tk τ p := by
  by_cases h : tk τ p ≤ 19 ∨ tk τ p = 101
  · obtain ⟨_, e⟩ := tk_word hb h
    have := kw_r (tw τ p)
    omega
  · omega
theorem kw_eq {w : List Nat} {k : Nat} (h1 : 1 ≤ k) (h2 : k ≤ 19) : kw w = k ↔ w = WL k := by
  constructor
  · intro e
    apply Classical.byContradiction
    intro hn
    have : ∀ n, n ≤ 19 → kwn w n ≠ k := by
      intro n
      induction n with
      | zero => intro _ z; have : 101 = k := z; omega
      | succ n ih =>
        intro hn'
        rw [kwn]
        split
        · rename_i hh
          intro z
          rw [z] at hh
          exact hn hh
        · exact ih (by omega)
    exact this 19 (by decide) e
  · intro e
    exact kwn_y e h1 19 (by decide) h2
theorem srt_1 {k : Nat} (hk : k < 104) (h1 : 1 ≤ k) : nI (srt k) = 1 ↔ (k ≤ 19 ∨ k = 101) := by
  have key : ∀ k, k < 104 → (decide (nI (srt k) = 1)) = (decide (k ≤ 19) || decide (k = 101)) := by decide +kernel
  have := key k hk
  rw [Bool.eq_iff_iff] at this
  simpa using this
theorem s_isWord {N p k : Nat} {ρ : Nat → Nat → Nat} {τ : Tape} {x : Int64} {σ : St} (hb : ∀ j, j < τ.1 → τ.2 j < 256) (lm : LexM τ p σ) (h1 : 1 ≤ k) (h2 : k ≤ 19) (hx : x = lO (vM (WL k))) : f_X12_isWord N ρ 90 x σ = some (fl (decide (tk τ p = k)), σ) := by
  have hk := tk_lt (p := p) hb
  have hp := tk_pos (p := p) hb
  unfold f_X12_isWord f_X12_isWord_21 f_X12_isWord_22
  rw [lm.2.1]
  by_cases hw : tk τ p ≤ 19 ∨ tk τ p = 101
  · obtain ⟨h8, e⟩ := tk_word hb hw
    have hok := tw_ok h8
    rw [if_pos ((srt_1 hk hp).mpr hw), lm.2.2.2.1 hw, hx]
    by_cases ek : tk τ p = k
    · have : tw τ p = WL k := (kw_eq h1 h2).mp (e.symm.trans ek)
      rw [if_pos (lg_0.mpr (by rw [this])), decide_eq_true ek]
      rfl
    · rw [if_neg (fun z => ek ?_), decide_eq_false ek]
      · rfl
      · rw [e]
        exact (kw_eq h1 h2).mpr (vM_inj hok.2 (WL_ok k (by omega)).2 (lO_inj (vM_b hok) (vM_b (WL_ok k (by omega))) (lg_0.mp z)))
  · rw [if_neg (fun z => hw ((srt_1 hk hp).mp z)), decide_eq_false (by omega)]
    rfl
theorem w_not : (7237492 : Int64) = lO (vM (WL 9)) := by decide +kernel
theorem w_and : (6385252 : Int64) = lO (vM (WL 8)) := by decide +kernel
theorem w_or : (28530 : Int64) = lO (vM (WL 7)) := by decide +kernel
theorem w_ask : (448377484921 : Int64) = lO (vM (WL 1)) ∧ (1835101817 : Int64) = lO (vM (WL 2)) ∧ (2002874989 : Int64) = lO (vM (WL 3)) ∧ (1684369012 : Int64) = lO (vM (WL 4)) ∧ (126943973305959 : Int64) = lO (vM (WL 5)) ∧ (6578553 : Int64) = lO (vM (WL 6)) := by decide +kernel
theorem wd_is {τ : Tape} {p k : Nat} {x : Int64} {σ : St} (hb : ∀ j, j < τ.1 → τ.2 j < 256) (lm : LexM τ p σ) (hw : tk τ p ≤ 19 ∨ tk τ p = 101) (h1 : 1 ≤ k) (h2 : k ≤ 19) (hx : x = lO (vM (WL k))) : lg_cmp (σ.2 90 9) x = 0 ↔ tk τ p = k := by
  obtain ⟨h8, e⟩ := tk_word hb hw
  have hok := tw_ok h8
  rw [lm.2.2.2.1 hw, hx, lg_0, e, kw_eq h1 h2]
  exact ⟨fun z => vM_inj hok.2 (WL_ok k (by omega)).2 (lO_inj (vM_b hok) (vM_b (WL_ok k (by omega))) z), fun z => by rw [z]⟩
def askv (k : Nat) : Int32 := if 1 ≤ k ∧ k ≤ 6 then nI (k - 1) else -1
theorem s_asked {N p : Nat} {ρ : Nat → Nat → Nat} {τ : Tape} {σ : St} (hb : ∀ j, j < τ.1 → τ.2 j < 256) (lm : LexM τ p σ) : f_X12_asked N ρ 90 σ = some (askv (tk τ p), σ) := by
  have hk := tk_lt (p := p) hb
  have hp := tk_pos (p := p) hb
  unfold f_X12_asked f_X12_asked_91
  rw [lm.2.1]
  by_cases hw : tk τ p ≤ 19 ∨ tk τ p = 101
  · rw [if_pos ((srt_1 hk hp).mpr hw)]
    have q1 := wd_is (k := 1) hb lm hw (by decide) (by decide) w_ask.1
    have q2 := wd_is (k := 2) hb lm hw (by decide) (by decide) w_ask.2.1
    have q3 := wd_is (k := 3) hb lm hw (by decide) (by decide) w_ask.2.2.1
    have q4 := wd_is (k := 4) hb lm hw (by decide) (by decide) w_ask.2.2.2.1
    have q5 := wd_is (k := 5) hb lm hw (by decide) (by decide) w_ask.2.2.2.2.1
    have q6 := wd_is (k := 6) hb lm hw (by decide) (by decide) w_ask.2.2.2.2.2
    by_cases c1 : tk τ p = 1
    · rw [if_pos (q1.mpr c1), c1]; rfl
    · rw [if_neg (fun z => c1 (q1.mp z))]
      by_cases c2 : tk τ p = 2
      · rw [if_pos (q2.mpr c2), c2]; rfl
      · rw [if_neg (fun z => c2 (q2.mp z))]
        by_cases c3 : tk τ p = 3
        · rw [if_pos (q3.mpr c3), c3]; rfl
        · rw [if_neg (fun z => c3 (q3.mp z))]
          by_cases c4 : tk τ p = 4
          · rw [if_pos (q4.mpr c4), c4]; rfl
          · rw [if_neg (fun z => c4 (q4.mp z))]
            by_cases c5 : tk τ p = 5
            · rw [if_pos (q5.mpr c5), c5]; rfl
            · rw [if_neg (fun z => c5 (q5.mp z))]
              by_cases c6 : tk τ p = 6
              · rw [if_pos (q6.mpr c6), c6]; rfl
              · rw [if_neg (fun z => c6 (q6.mp z))]
                unfold askv
                rw [if_neg (by omega)]
  · rw [if_neg (fun z => hw ((srt_1 hk hp).mp z))]
    unfold askv
    rw [if_neg (by omega)]
def sgn (k : Nat) : Int32 := match opk k with
  | none => 0
  | some s => opM s
theorem srt_s : ∀ k, k < 104 → ∀ a, 37 ≤ a → a ≤ 62 → (decide (nI (srt k) = nI a)) = decide (k = a) := by
  intro k hk a h1 h2
  have key : ∀ k, k < 104 → ∀ a, a < 63 → 37 ≤ a → (decide (nI (srt k) = nI a)) = decide (k = a) := by decide +kernel
  exact key k hk a (by omega) h1
theorem s_sign {N p : Nat} {ρ : Nat → Nat → Nat} {τ : Tape} {σ : St} (hb : ∀ j, j < τ.1 → τ.2 j < 256) (lm : LexM τ p σ) : f_X12_sign N ρ 90 σ = some (sgn (tk τ p), σ) := by
  have hk := tk_lt (p := p) hb
  unfold f_X12_sign f_X12_sign_98 f_X12_sign_106
  rw [bnd_e (s_isWord hb lm (by decide) (by decide) w_and)]
  have sg : ∀ a, 37 ≤ a → a ≤ 62 → (nI (srt (tk τ p)) = nI a ↔ tk τ p = a) := fun a h1 h2 => by
    have := srt_s _ hk a h1 h2
    rw [Bool.eq_iff_iff] at this
    simpa using this
  by_cases c8 : tk τ p = 8
  · rw [decide_eq_true c8, if_neg (by decide), c8]; rfl
  · rw [decide_eq_false c8, if_pos (show fl false = 0 from rfl), bnd_e (s_isWord hb lm (by decide) (by decide) w_or)]
    by_cases c7 : tk τ p = 7
    · rw [decide_eq_true c7, if_neg (by decide), c7]; rfl
    · rw [decide_eq_false c7, if_pos (show fl false = 0 from rfl), lm.2.1]
      by_cases d1 : tk τ p = 60
      · rw [if_pos (show nI (srt (tk τ p)) = (60 : Int32) from (sg 60 (by decide) (by decide)).mpr d1), d1]; rfl
      · rw [if_neg (show ¬ nI (srt (tk τ p)) = (60 : Int32) from fun z => d1 ((sg 60 (by decide) (by decide)).mp z))]
        by_cases d2 : tk τ p = 62
        · rw [if_pos (show nI (srt (tk τ p)) = (62 : Int32) from (sg 62 (by decide) (by decide)).mpr d2), d2]; rfl
        · rw [if_neg (show ¬ nI (srt (tk τ p)) = (62 : Int32) from fun z => d2 ((sg 62 (by decide) (by decide)).mp z))]
          by_cases d3 : tk τ p = 61
          · rw [if_pos (show nI (srt (tk τ p)) = (61 : Int32) from (sg 61 (by decide) (by decide)).mpr d3), d3]; rfl
          · rw [if_neg (show ¬ nI (srt (tk τ p)) = (61 : Int32) from fun z => d3 ((sg 61 (by decide) (by decide)).mp z))]
            by_cases d4 : tk τ p = 43
            · rw [if_pos (show nI (srt (tk τ p)) = (43 : Int32) from (sg 43 (by decide) (by decide)).mpr d4), d4]; rfl
            · rw [if_neg (show ¬ nI (srt (tk τ p)) = (43 : Int32) from fun z => d4 ((sg 43 (by decide) (by decide)).mp z))]
              by_cases d5 : tk τ p = 45
              · rw [if_pos (show nI (srt (tk τ p)) = (45 : Int32) from (sg 45 (by decide) (by decide)).mpr d5), d5]; rfl
              · rw [if_neg (show ¬ nI (srt (tk τ p)) = (45 : Int32) from fun z => d5 ((sg 45 (by decide) (by decide)).mp z))]
                by_cases d6 : tk τ p = 42
                · rw [if_pos (show nI (srt (tk τ p)) = (42 : Int32) from (sg 42 (by decide) (by decide)).mpr d6), d6]; rfl
                · rw [if_neg (show ¬ nI (srt (tk τ p)) = (42 : Int32) from fun z => d6 ((sg 42 (by decide) (by decide)).mp z))]
                  by_cases d7 : tk τ p = 47
                  · rw [if_pos (show nI (srt (tk τ p)) = (47 : Int32) from (sg 47 (by decide) (by decide)).mpr d7), d7]; rfl
                  · rw [if_neg (show ¬ nI (srt (tk τ p)) = (47 : Int32) from fun z => d7 ((sg 47 (by decide) (by decide)).mp z))]
                    by_cases d8 : tk τ p = 37
                    · rw [if_pos (show nI (srt (tk τ p)) = (37 : Int32) from (sg 37 (by decide) (by decide)).mpr d8), d8]; rfl
                    · rw [if_neg (show ¬ nI (srt (tk τ p)) = (37 : Int32) from fun z => d8 ((sg 37 (by decide) (by decide)).mp z))]
                      unfold sgn opk
                      rw [if_neg d4, if_neg d5, if_neg d6, if_neg d7, if_neg d8, if_neg d1, if_neg d2, if_neg d3, if_neg c8, if_neg c7]
