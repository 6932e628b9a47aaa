/-! FORMULAS: the stack -/
def mem (M : Nat → Int32) : List Int32 → Prop
  | [] => True
  | a :: r => M r.length = a ∧ mem M r
theorem mem_upd {M : Nat → Int32} {k : Nat} {x : Int32} : ∀ {st : List Int32}, st.length ≤ k → mem M st → mem (upd M k x) st
  | [], _, _ => trivial
  | a :: r, hk, h => ⟨by rw [pk_un (by simp at hk; omega)]; exact h.1, mem_upd (by simp at hk; omega) h.2⟩
def st1 (T : Nat → Int32) (st : List Int32) (c : Cd) : List Int32 := match c, st with
  | .inl v, st => v :: st
  | .inr (.inl k), st => T k :: st
  | .inr (.inr (.inl _)), a :: r => (if a = 0 then 1 else 0) :: r
  | .inr (.inr (.inr o)), b :: a :: r => jn o a b :: r
  | _, st => st
def evE (T : Nat → Int32) (st : List Int32) (E : List Cd) : List Int32 := E.foldl (st1 T) st
def htc (h : Nat) (c : Cd) : Option Nat := match c with
  | .inl _ => if h < 30 then some (h + 1) else none
  | .inr (.inl _) => if h < 30 then some (h + 1) else none
  | .inr (.inr (.inl _)) => if 0 < h then some h else none
  | .inr (.inr (.inr _)) => if 1 < h then some (h - 1) else none
def wfE : Nat → List Cd → Prop
  | h, [] => h = 1
  | h, c :: E => okCd c ∧ ∃ h', htc h c = some h' ∧ wfE h' E
theorem nI_neg1 {n : Nat} : nI (n + 1) + (-1) = nI n := pk_m1 n
theorem enc_ask : ∀ k, k < 6 → ¬ -(nI (k + 1)) < (-6 : Int32) ∧ ¬ 0 ≤ -(nI (k + 1)) ∧ - -(nI (k + 1)) = nI (k + 1) := by decide +kernel
theorem enc_op : ∀ o, o < 10 → -(opC o) < (-6 : Int32) ∧ ¬ -(opC o) = (-9 : Int32) ∧ - -(opC o) = opC o := by decide +kernel
theorem nn_nlt {v : Int32} (h : 0 ≤ v) : ¬ v < (-6 : Int32) := by
  rw [Int32.lt_iff_toInt_lt]
  rw [Int32.le_iff_toInt_le] at h
  have e1 : (-6 : Int32).toInt = -6 := rfl
  have e2 : (0 : Int32).toInt = 0 := rfl
  omega
theorem drop_c {E : List Cd} {i : Nat} (h : i < E.length) : E.drop i = E.getD i (.inl 0) :: E.drop (i + 1) := by
  rw [List.drop_eq_getElem_cons h, List.getD_eq_getElem?_getD, List.getElem?_eq_getElem h]
  rfl
set_option maxHeartbeats 1000000 in
theorem vb_loop {N : Nat} {ρ : Nat → Nat → Nat} {this a1 s cp : Nat} (hs : ρ this 1 = s) (hcp : ρ this 0 = cp) (h1 : this ≠ s) (h2 : cp ≠ s) (h3 : a1 ≠ s) {E : List Cd} (hL : E.length ≤ 270) {T : Nat → Int32} : ∀ (n i : Nat) (st : List Int32) (σ : St), i ≤ E.length → E.length - i < n → σ.1 this 2 = nI E.length → (∀ j, j < E.length → σ.1 cp j = encC (E.getD j (.inl 0))) → (∀ k, k < 6 → σ.1 a1 (k + 1) = T k) → mem (σ.1 s) st → st.length ≤ 30 → wfE st.length (E.drop i) →
    Ok (f_X1_valueBy_4 N ρ this a1 7 n (nI st.length) (nI i) σ) (fun r _ => r = (evE T st (E.drop i)).headD 0) := by
  intro n
  induction n with
  | zero => intro i st σ _ h; omega
  | succ n ih =>
    intro i st σ hi hn hsz hco hT hm hlen hw
    show Ok (b_X1_valueBy_4 N ρ this a1 7 (f_X1_valueBy_4 N ρ this a1 7 n) (nI st.length) (nI i) σ) _
    unfold b_X1_valueBy_4
    rw [hsz, hs, hcp]
    by_cases hlt : i < E.length
    · refine ok_neg (nI_ge hlt (by omega)) ?_
      refine ok_neg (nI_ge (show i < 270 by omega) (by decide)) ?_
      refine ok_gd (ib_nI (by omega) (by decide)) (ok_nmd ?_)
      rw [nI_clamp (by omega), hco i hlt]
      rw [drop_c hlt] at hw ⊢
      have go : ∀ (st' : List Int32) (k : Nat) (x : Int32), mem ((sI σ s k x).1 s) st' → st'.length ≤ 30 → wfE st'.length (E.drop (i + 1)) → Ok (f_X1_valueBy_4 N ρ this a1 7 n (nI st'.length) (nI i + 1) (sI σ s k x)) (fun r _ => r = (evE T st' (E.drop (i + 1))).headD 0) := by
        intro st' k x hm' hl' hw'
        rw [nI_1]
        refine ih (i + 1) st' (sI σ s k x) hlt (by omega) ?_ ?_ ?_ hm' hl' hw'
        · rw [sI_ne h1]; exact hsz
        · intro j hj; rw [sI_ne h2]; exact hco j hj
        · intro k hk; rw [sI_ne h3]; exact hT k hk
      obtain ⟨hok, h', hh, hw'⟩ := hw
      generalize E.getD i (.inl 0) = c at hok hh ⊢
      rcases c with v | k | u | o
      · have hok : 0 ≤ v := hok
        have hh : (if st.length < 30 then some (st.length + 1) else none) = some h' := hh
        by_cases h30 : st.length < 30
        · rw [if_pos h30] at hh
          cases hh
          refine ok_neg (nn_nlt hok) ?_
          refine ok_neg (nI_ge h30 (by decide)) ?_
          refine ok_pos hok ?_
          unfold f_X1_valueBy_58 f_X1_valueBy_68 f_X1_valueBy_149
          refine ok_gd (ib_nI h30 (by decide)) (ok_nmd ?_)
          rw [nI_clamp (by omega), hs, nI_1]
          exact go (v :: st) st.length v ⟨by rw [sI_up]; exact pk_us, by rw [sI_up]; exact mem_upd (Nat.le_refl _) hm⟩ h30 hw'
        · rw [if_neg h30] at hh; cases hh
      · have hok : k < 6 := hok
        have hh : (if st.length < 30 then some (st.length + 1) else none) = some h' := hh
        obtain ⟨e1, e2, e3⟩ := enc_ask k hok
        by_cases h30 : st.length < 30
        · rw [if_pos h30] at hh
          cases hh
          refine ok_neg e1 ?_
          refine ok_neg (nI_ge h30 (by decide)) ?_
          refine ok_neg e2 ?_
          show Ok (if - -(nI (k + 1)) < nI 7 then gd (ib (- -(nI (k + 1))) 7) (f_X1_valueBy_68 N ρ this a1 7 (f_X1_valueBy_4 N ρ this a1 7 n) (nI st.length) (nI i) (σ.1 a1 (- -(nI (k + 1))).toNatClampNeg) (nI st.length) σ) else _) _
          rw [e3]
          refine ok_pos (nI_lt (by omega) (by decide)) ?_
          refine ok_gd (ib_nI (by omega) (by decide)) ?_
          unfold f_X1_valueBy_68 f_X1_valueBy_149
          refine ok_gd (ib_nI h30 (by decide)) (ok_nmd ?_)
          rw [nI_clamp (by omega), nI_clamp (by omega), hs, nI_1, hT k hok]
          exact go (T k :: st) st.length (T k) ⟨by rw [sI_up]; exact pk_us, by rw [sI_up]; exact mem_upd (Nat.le_refl _) hm⟩ h30 hw'
        · rw [if_neg h30] at hh; cases hh
      · have hh : (if 0 < st.length then some st.length else none) = some h' := hh
        cases st with
        | nil => cases hh
        | cons a r =>
          have hh : some (r.length + 1) = some h' := hh
          cases hh
          refine ok_pos (show (-9 : Int32) < -6 by decide) ?_
          refine ok_pos (show (-9 : Int32) = -9 from rfl) ?_
          have hl1 : r.length < 30 := by simp at hlen; omega
          refine ok_neg (show ¬ nI (r.length + 1) ≤ 0 from nI_nle (by omega) (by omega)) ?_
          rw [show nI (a :: r).length - 1 = nI r.length from nI_pred r.length]
          refine ok_gd (ib_nI hl1 (by decide)) ?_
          rw [nI_clamp (by omega), hm.1]
          unfold f_X1_valueBy_109 f_X1_valueBy_149
          refine ok_ite (fun ha => ?_) (fun ha => ?_)
          · refine ok_gd (ib_nI hl1 (by decide)) (ok_nmd ?_)
            rw [nI_clamp (by omega), hs]
            have := go (1 :: r) r.length 1 ⟨by rw [sI_up]; exact pk_us, by rw [sI_up]; exact mem_upd (Nat.le_refl _) hm.2⟩ hlen hw'
            refine ok_mono this (fun q _ e => ?_)
            rw [e]
            simp [evE, st1, ha]
          · refine ok_gd (ib_nI hl1 (by decide)) (ok_nmd ?_)
            rw [nI_clamp (by omega), hs]
            have := go (0 :: r) r.length 0 ⟨by rw [sI_up]; exact pk_us, by rw [sI_up]; exact mem_upd (Nat.le_refl _) hm.2⟩ hlen hw'
            refine ok_mono this (fun q _ e => ?_)
            rw [e]
            simp [evE, st1, ha]
      · have hok : o < 10 := hok
        have hh : (if 1 < st.length then some (st.length - 1) else none) = some h' := hh
        obtain ⟨e1, e2, e3⟩ := enc_op o hok
        match st, hlen, hm, hh with
        | [], _, _, hh => cases hh
        | [x], _, _, hh => cases hh
        | b :: a :: r, hlen, hm, hh =>
          have hh : some (r.length + 1) = some h' := by
            rw [← hh, if_pos (by simp)]
            rfl
          cases hh
          have hl1 : r.length + 1 < 30 := by simp at hlen; omega
          refine ok_pos e1 ?_
          refine ok_neg e2 ?_
          refine ok_neg (show ¬ nI (r.length + 1 + 1) ≤ nI 1 from nI_ge (by omega) (by omega)) ?_
          rw [show nI (b :: a :: r).length + (-1) = nI (r.length + 1) from pk_m1 (r.length + 1), nI_pred]
          refine ok_gd (ib_nI (by omega) (by decide)) ?_
          refine ok_gd (ib_nI hl1 (by decide)) ?_
          have ma : σ.1 s r.length = a := hm.2.1
          have mb : σ.1 s (r.length + 1) = b := hm.1
          rw [nI_clamp (by omega), nI_clamp (by omega), ma, mb]
          show Ok (bnd (f_X1_joined N ρ (- -(opC o)) a b σ) _) _
          rw [e3]
          refine ok_bnd (s_joined hok) ?_
          refine ok_gd (ib_nI (by omega) (by decide)) (ok_nmd ?_)
          unfold f_X1_valueBy_149
          exact go (jn o a b :: r) r.length (jn o a b) ⟨by rw [sI_up]; exact pk_us, by rw [sI_up]; exact mem_upd (Nat.le_refl _) hm.2.2⟩ (by simp; omega) hw'
    · have hi' : i = E.length := by omega
      subst hi'
      rw [List.drop_length] at hw ⊢
      have hw : st.length = 1 := hw
      refine ok_pos (nI_le (Nat.le_refl _) (by omega)) ?_
      unfold f_X1_valueBy_155 f_X1_valueBy_169
      rw [hw]
      refine ok_neg (show ¬ nI 1 ≤ 0 by decide) ?_
      refine ok_gd (by decide) (ok_ret ?_)
      match st, hw, hm with
      | [x], _, hm =>
        show σ.1 (ρ this 1) 0 = x
        rw [hs]
        exact hm.1
