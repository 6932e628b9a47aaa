/-! FORMULAS: the model's evaluation -/
def wth (v most : Int32) : Int32 := if 0 ≤ v then (if v ≤ most then v else most) else 0
theorem s_within {N : Nat} {ρ : Nat → Nat → Nat} {v m : Int32} {σ : St} : f_X12_within N ρ v m σ = some (wth v m, σ) := by
  unfold f_X12_within f_X12_within_18 wth
  split <;> (try split) <;> rfl
theorem mm_wth {v m : Int32} (hm : 0 ≤ m) : mmax 0 (mmin m v) = wth v m := by
  unfold wth mmax mmin
  rw [Int32.le_iff_toInt_le] at hm
  have e2 : (0 : Int32).toInt = 0 := rfl
  by_cases h1 : v < m
  · rw [if_pos h1]
    rw [Int32.lt_iff_toInt_lt] at h1
    by_cases h2 : 0 < v
    · rw [if_pos h2]
      rw [Int32.lt_iff_toInt_lt] at h2
      rw [if_pos (by rw [Int32.le_iff_toInt_le]; omega), if_pos (by rw [Int32.le_iff_toInt_le]; omega)]
    · rw [if_neg h2]
      rw [Int32.lt_iff_toInt_lt] at h2
      by_cases h3 : 0 ≤ v
      · rw [if_pos h3, if_pos (by rw [Int32.le_iff_toInt_le]; omega)]
        rw [Int32.le_iff_toInt_le] at h3
        exact Int32.toInt_inj.mp (by omega)
      · rw [if_neg h3]
  · rw [if_neg h1]
    rw [Int32.lt_iff_toInt_lt] at h1
    by_cases h2 : 0 < m
    · rw [if_pos h2]
      rw [Int32.lt_iff_toInt_lt] at h2
      rw [if_pos (by rw [Int32.le_iff_toInt_le]; omega)]
      by_cases h3 : v ≤ m
      · rw [if_pos h3]
        rw [Int32.le_iff_toInt_le] at h3
        exact Int32.toInt_inj.mp (by omega)
      · rw [if_neg h3]
    · rw [if_neg h2]
      rw [Int32.lt_iff_toInt_lt] at h2
      have em : m = 0 := Int32.toInt_inj.mp (by omega)
      subst em
      rw [if_pos (by rw [Int32.le_iff_toInt_le]; omega)]
      by_cases h3 : v ≤ 0
      · rw [if_pos h3]
        rw [Int32.le_iff_toInt_le] at h3
        exact Int32.toInt_inj.mp (by omega)
      · rw [if_neg h3]
theorem wth_nI {v : Int32} {m : Nat} (hm : m < 2 ^ 31) : ∃ n, n ≤ m ∧ wth v (nI m) = nI n := by
  unfold wth
  by_cases h1 : 0 ≤ v
  · rw [if_pos h1]
    by_cases h2 : v ≤ nI m
    · rw [if_pos h2]
      exact nI_of2 (nI_toInt hm) (by rw [Int32.lt_iff_toInt_lt]; rw [Int32.le_iff_toInt_le] at h1; omega) h2
    · rw [if_neg h2]
      exact ⟨m, Nat.le_refl _, rfl⟩
  · rw [if_neg h1]
    exact ⟨0, Nat.zero_le _, rfl⟩
theorem enc_Sn (c : Cd) : (encS c = 0 ∨ encS c = 1 ∨ encS c = 2 ∨ encS c = 3) := by
  rcases c with v | k | u | o <;> simp [encS]
theorem ix_f {f i : Nat} : (320 : Int32) * nI f + nI i = nI (320 * f + i) := by
  rw [show (320 : Int32) = nI 320 from rfl, pk_mul, nI_add]
set_option maxHeartbeats 1000000 in
theorem wk_loop {N t f : Nat} {ρ : Nat → Nat → Nat} (hρ : ρ = RR t) (hf : f < 2) {a2 a3 a4 a5 a6 : Int32} {E : List Cd} (hL : E.length ≤ 270) {T : Nat → Int32} : ∀ (n i : Nat) (st : List Int32) (σ : St), i ≤ E.length → E.length - i < n → σ.1 98 f = nI E.length → (∀ j, j < E.length → σ.1 96 (320 * f + j) = encS (E.getD j (.inl 0)) ∧ σ.1 97 (320 * f + j) = encA (E.getD j (.inl 0))) → (∀ k, k < 6 → σ.1 102 k = T k) → mem (σ.1 100) st → st.length ≤ 30 → wfE st.length (E.drop i) →
    Ok (f_X12_worked_88 N ρ 90 (nI f) a2 a3 a4 a5 a6 n (nI st.length) (nI (320 * f + i)) σ) (fun r _ => r = wth ((evE T st (E.drop i)).headD 0) a6) := by
  intro n
  induction n with
  | zero => intro i st σ _ h; omega
  | succ n ih =>
    intro i st σ hi hn hsz hco hT hm hlen hw
    show Ok (b_X12_worked_88 N ρ 90 (nI f) a2 a3 a4 a5 a6 (f_X12_worked_88 N ρ 90 (nI f) a2 a3 a4 a5 a6 n) (nI st.length) (nI (320 * f + i)) σ) _
    unfold b_X12_worked_88
    rw [r_90_14 hρ, r_90_15 hρ, r_90_16 hρ, r_90_18 hρ]
    refine ok_gd (ib_nI hf (by decide)) ?_
    rw [nI_clamp (show f < 2 ^ 31 by omega), hsz, ix_f]
    by_cases hlt : i < E.length
    · refine ok_neg (nI_ge (by omega) (by omega)) ?_
      have hib : ib (nI (320 * f + i)) 640 = true := ib_nI (by omega) (by decide)
      refine ok_gd hib ?_
      rw [nI_clamp (by omega), (hco i hlt).1, (hco i hlt).2]
      rw [drop_c hlt] at hw ⊢
      have go : ∀ (st' : List Int32) (k : Nat) (x : Int32), mem ((sI σ 100 k x).1 100) st' → st'.length ≤ 30 → wfE st'.length (E.drop (i + 1)) → Ok (f_X12_worked_88 N ρ 90 (nI f) a2 a3 a4 a5 a6 n (nI st'.length) (nI (320 * f + i) + 1) (sI σ 100 k x)) (fun r _ => r = wth ((evE T st' (E.drop (i + 1))).headD 0) a6) := by
        intro st' k x hm' hl' hw'
        rw [nI_1]
        refine ih (i + 1) st' (sI σ 100 k x) hlt (by omega) ?_ ?_ ?_ hm' hl' hw'
        · rw [sI_ne (by decide)]; exact hsz
        · intro j hj; rw [sI_ne (by decide), sI_ne (by decide)]; exact hco j hj
        · intro k hk; rw [sI_ne (by decide)]; exact hT k hk
      obtain ⟨hok, h', hh, hw'⟩ := hw
      have hco1 := (hco i hlt).1
      have hco2 := (hco i hlt).2
      generalize E.getD i (.inl 0) = c at hok hh hco1 hco2 ⊢
      rcases c with v | k | u | o
      · have hh : (if st.length < 30 then some (st.length + 1) else none) = some h' := hh
        by_cases h30 : st.length < 30
        · rw [if_pos h30] at hh
          cases hh
          refine ok_pos (show (0 : Int32) = 0 from rfl) ?_
          unfold f_X12_worked_126 f_X12_worked_164 f_X12_worked_252
          refine ok_gd hib ?_
          rw [r_90_14 hρ, r_90_15 hρ, nI_clamp (show 320 * f + i < 2 ^ 31 by omega), hco1, hco2]
          refine ok_pos (show (0 : Int32) = 0 from rfl) ?_
          refine ok_gd hib (ok_gd (ib_nI (show st.length < 64 by omega) (by decide)) (ok_nmd ?_))
          rw [nI_clamp (by omega), r_90_18 hρ, nI_1]
          exact go (v :: st) st.length v ⟨by rw [sI_up]; exact pk_us, by rw [sI_up]; exact mem_upd (Nat.le_refl _) hm⟩ h30 hw'
        · rw [if_neg h30] at hh; cases hh
      · have hok : k < 6 := hok
        have hh : (if st.length < 30 then some (st.length + 1) else none) = some h' := hh
        by_cases h30 : st.length < 30
        · rw [if_pos h30] at hh
          cases hh
          refine ok_neg (show ¬ (1 : Int32) = 0 by decide) ?_
          refine ok_gd hib ?_
          refine ok_pos (show (1 : Int32) = 1 from rfl) ?_
          unfold f_X12_worked_126 f_X12_worked_164 f_X12_worked_252
          refine ok_gd hib ?_
          rw [r_90_14 hρ, r_90_15 hρ, r_90_26 hρ, nI_clamp (show 320 * f + i < 2 ^ 31 by omega), hco1, hco2]
          refine ok_neg (show ¬ (1 : Int32) = 0 by decide) ?_
          refine ok_gd hib ?_
          refine ok_gd (ib_nI hok (by decide)) ?_
          show Ok (gd (ib (nI st.length) 64) (nmd (sI σ (ρ 90 18) (nI st.length).toNatClampNeg (σ.1 102 (nI k).toNatClampNeg)) _)) _
          refine ok_gd (ib_nI (show st.length < 64 by omega) (by decide)) (ok_nmd ?_)
          rw [nI_clamp (show st.length < 2 ^ 31 by omega), nI_clamp (show k < 2 ^ 31 by omega), r_90_18 hρ, nI_1, hT k hok]
          exact go (T k :: st) st.length (T k) ⟨by rw [sI_up]; exact pk_us, by rw [sI_up]; exact mem_upd (Nat.le_refl _) hm⟩ h30 hw'
        · rw [if_neg h30] at hh; cases hh
      · have hh : (if 0 < st.length then some st.length else none) = some h' := hh
        cases st with
        | nil => cases hh
        | cons a r =>
          have hh : some (r.length + 1) = some h' := hh
          cases hh
          have hl1 : r.length < 64 := by simp at hlen; omega
          refine ok_neg (show ¬ (2 : Int32) = 0 by decide) (ok_gd hib ?_)
          refine ok_neg (show ¬ (2 : Int32) = 1 by decide) (ok_gd hib ?_)
          refine ok_pos (show (2 : Int32) = 2 from rfl) ?_
          rw [show nI (a :: r).length - 1 = nI r.length from nI_pred r.length]
          refine ok_gd (ib_nI hl1 (by decide)) ?_
          rw [nI_clamp (by omega), hm.1]
          unfold f_X12_worked_207 f_X12_worked_252
          refine ok_ite (fun ha => ?_) (fun ha => ?_)
          · refine ok_bnd s_truth ?_
            refine ok_gd (ib_nI hl1 (by decide)) (ok_nmd ?_)
            rw [nI_clamp (by omega), r_90_18 hρ]
            have := go (1 :: r) r.length 1 ⟨by rw [sI_up]; exact pk_us, by rw [sI_up]; exact mem_upd (Nat.le_refl _) hm.2⟩ hlen hw'
            refine ok_mono this (fun q _ e => ?_)
            rw [e]
            simp [evE, st1, ha]
          · refine ok_bnd s_truth ?_
            refine ok_gd (ib_nI hl1 (by decide)) (ok_nmd ?_)
            rw [nI_clamp (by omega), r_90_18 hρ]
            have := go (0 :: r) r.length 0 ⟨by rw [sI_up]; exact pk_us, by rw [sI_up]; exact mem_upd (Nat.le_refl _) hm.2⟩ hlen hw'
            refine ok_mono this (fun q _ e => ?_)
            rw [e]
            simp [evE, st1, ha]
      · have hok : o < 10 := hok
        have hh : (if 1 < st.length then some (st.length - 1) else none) = some h' := hh
        match st, hlen, hm, hh with
        | [], _, _, hh => cases hh
        | [x], _, _, hh => cases hh
        | b :: a :: r, hlen, hm, hh =>
          have hh : some (r.length + 1) = some h' := by
            rw [← hh, if_pos (by simp)]
            rfl
          cases hh
          have hl1 : r.length + 1 < 64 := by simp at hlen; omega
          refine ok_neg (show ¬ (3 : Int32) = 0 by decide) (ok_gd hib ?_)
          refine ok_neg (show ¬ (3 : Int32) = 1 by decide) (ok_gd hib ?_)
          refine ok_neg (show ¬ (3 : Int32) = 2 by decide) (ok_gd hib ?_)
          rw [show nI (b :: a :: r).length + (-1) = nI (r.length + 1) from pk_m1 (r.length + 1), nI_pred]
          refine ok_gd (ib_nI (by omega) (by decide)) ?_
          refine ok_gd (ib_nI hl1 (by decide)) ?_
          have ma : σ.1 100 r.length = a := hm.2.1
          have mb : σ.1 100 (r.length + 1) = b := hm.1
          rw [nI_clamp (show r.length < 2 ^ 31 by omega), nI_clamp (show r.length + 1 < 2 ^ 31 by omega), ma, mb]
          refine ok_bnd (s_done hok) ?_
          refine ok_gd (ib_nI (by omega) (by decide)) (ok_nmd ?_)
          unfold f_X12_worked_252
          exact go (jn o a b :: r) r.length (jn o a b) ⟨by rw [sI_up]; exact pk_us, by rw [sI_up]; exact mem_upd (Nat.le_refl _) hm.2.2⟩ (by simp; simp at hlen; omega) hw'
    · have hi' : i = E.length := by omega
      subst hi'
      rw [List.drop_length] at hw ⊢
      have hw : st.length = 1 := hw
      refine ok_pos (nI_le (Nat.le_refl _) (by omega)) ?_
      refine ok_gd (by decide) ?_
      refine ok_bnd s_within (ok_ret ?_)
      match st, hw, hm with
      | [x], _, hm =>
        show wth (σ.1 100 0) a6 = wth x a6
        rw [show σ.1 100 0 = x from hm.1]
