/-! NAMES in the model -/
def NmM (τ : Tape) (p x : Nat) (o : Nat ⊕ Flt) (σ σ' : St) : Prop := match o with
  | .inl p' => LMd τ p' σ' ∧ okW (tw τ p) ∧ ∀ i, σ'.2 92 i = if i = x then lO (vM (tw τ p)) else σ.2 92 i
  | .inr e => FMd τ e σ'
def A92 (q : Nat) : Prop := q = 90 ∨ q = 92
def NnM (τ : Tape) (p x : Nat) (o : Nat ⊕ Flt) (σ : St) (_ : Int32) (σ' : St) : Prop := NmM τ p x o σ σ' ∧ (∀ k, ¬ nT k → σ'.1 90 k = σ.1 90 k) ∧ Ag A92 σ σ'
theorem nn_f {N m : Nat} {ρ : Nat → Nat → Nat} {a b x : Int32} {σ : St} (h : ¬ σ.1 90 2 = 0 ∧ ¬ σ.1 90 2 ≤ 0) : f_X12_newName_18 N ρ 90 a b (m + 1) x σ = some (0, σ) := by
  show b_X12_newName_18 N ρ 90 a b (f_X12_newName_18 N ρ 90 a b m) x σ = _
  have e : f_X12_newName_57 N ρ 90 a b σ = some (0, σ) := by
    unfold f_X12_newName_57
    rw [if_neg h.2]
  unfold b_X12_newName_18
  rw [e, if_neg h.1]
  split <;> rfl
theorem s_newNameM {N t p b n : Nat} {τ : Tape} {nm : Nat → List Nat} {x y : Int32} {σ : St} (hN : 20000 ≤ N) (hb : ∀ j, j < τ.1 → τ.2 j < 256) (h3 : tk τ p ≠ 103) (hx : x = nI b) (hy : y = nI n) (hn : b + n < 11) (hnm : ∀ i, i < n → okW (nm i) ∧ σ.2 92 (b + i) = lO (vM (nm i))) (h : LMd τ p σ) :
    Ok (f_X12_newName N (RR t) 90 x y σ) (NnM τ (tn τ p) (b + n) (nmP τ (tn τ p) n nm) σ) := by
  subst hx hy
  unfold f_X12_newName f_X12_newName_16
  refine ok_call (lm_tok hN h3 h) (fun _ σ1 z1 => ?_)
  obtain ⟨h1, k1⟩ := z1
  have e92 : σ1.2 92 = σ.2 92 := (k1.2 92 (by unfold A90; decide)).2
  have kk : ∀ σ2, KT σ1 σ2 → (∀ k, ¬ nT k → σ2.1 90 k = σ.1 90 k) ∧ Ag A92 σ σ2 := fun σ2 k2 => ⟨(kt_trans k1 k2).1, ag_mono (kt_trans k1 k2).2 (fun q hq => Or.inl hq)⟩
  rw [bnd_e (s_isName hb h1.2.1)]
  unfold nmP
  by_cases c1 : tk τ (tn τ p) = 101
  · rw [fl_y c1, if_neg (by decide), if_pos c1]
    have hw := tw_ok (tk_word hb (Or.inr c1)).1
    have ew : σ1.2 90 9 = lO (vM (tw τ (tn τ p))) := h1.2.1.2.2.2.1 (Or.inr c1)
    have loop : ∀ m i, n - i < m → i ≤ n → (∀ j, j < i → nm j ≠ tw τ (tn τ p)) → Ok (f_X12_newName_18 N (RR t) 90 (nI b) (nI n) m (nI i) σ1) (NnM τ (tn τ p) (b + n) (if hasN nm (tw τ (tn τ p)) n = true then .inr (3, tn τ p) else .inl (tn τ (tn τ p))) σ) := by
      intro m
      induction m with
      | zero => intro i hi; exact absurd hi (Nat.not_lt_zero _)
      | succ m ih =>
        intro i hi hin hne
        show Ok (b_X12_newName_18 N (RR t) 90 (nI b) (nI n) (f_X12_newName_18 N (RR t) 90 (nI b) (nI n) m) (nI i) σ1) _
        unfold b_X12_newName_18 f_X12_newName_51 f_X12_newName_57
        rw [h1.2.2.2.1, r_90_10 rfl, nI_add, nI_add, nI_clamp (show b + i < 2 ^ 31 by omega), nI_clamp (show b + n < 2 ^ 31 by omega), nI_1 i]
        by_cases hi2 : i = n
        · subst hi2
          rw [hasN_n i hne, if_neg (show ¬ false = true by decide)]
          refine ok_pos (Int32.le_refl _) (ok_pos (by decide) (ok_gd (ib_nI hn (by omega)) (ok_sJ fun σ2 e2 u2 n2 => ?_)))
          have h2 : LMd τ (tn τ p) σ2 := LMd_cg h1 (fun k _ => by rw [e2]) (by rw [e2]) (n2 90 (by decide))
          refine ok_call (lm_tok hN (by omega) h2) (fun _ σ3 z3 => ?_)
          obtain ⟨h3, k3⟩ := z3
          refine ok_ret ⟨⟨h3, hw, fun j => ?_⟩, fun k hk => ?_, fun q hq => ⟨?_, ?_⟩⟩
          · rw [(k3.2 92 (by unfold A90; decide)).2, u2, ew, e92]
          · rw [k3.1 k hk, e2, k1.1 k hk]
          · rw [(k3.2 q (fun z => hq (Or.inl z))).1, e2, (k1.2 q (fun z => hq (Or.inl z))).1]
          · rw [(k3.2 q (fun z => hq (Or.inl z))).2, n2 q (fun z => hq (Or.inr z)), (k1.2 q (fun z => hq (Or.inl z))).2]
        · have hil : i < n := by omega
          refine ok_neg (nI_ge hil (by omega)) (ok_pos rfl (ok_gd (ib_nI (by omega) (by omega)) ?_))
          have hc := nm_cmpM (hnm i hil).1 hw (x := σ1.2 92 (b + i)) (by rw [e92]; exact (hnm i hil).2) ew
          by_cases c2 : nm i = tw τ (tn τ p)
          · rw [hasN_y c2 n hil, if_pos (show true = true from rfl)]
            refine ok_pos (hc.mpr c2) (ok_call (lm_wrong rfl (by decide) hb h1) (fun _ σ2 z2 => ?_))
            obtain ⟨f2, k2⟩ := z2
            obtain ⟨m', rfl⟩ : ∃ m', m = m' + 1 := ⟨m - 1, by omega⟩
            rw [nn_f (fm_nz f2)]
            exact ok_ret ⟨f2, kk σ2 k2⟩
          · refine ok_neg (fun z => c2 (hc.mp z)) (ih (i + 1) (by omega) (by omega) (fun j hj => ?_))
            by_cases e : j = i
            · subst e; exact c2
            · exact hne j (by omega)
    exact loop N 0 (by omega) (Nat.zero_le _) (fun j hj => absurd hj (Nat.not_lt_zero _))
  · rw [fl_n c1, if_pos rfl, if_neg c1]
    refine ok_call (lm_wrong rfl (by decide) hb h1) (fun _ σ2 z2 => ?_)
    obtain ⟨f2, k2⟩ := z2
    obtain ⟨m', hm⟩ : ∃ m', N = m' + 1 := ⟨N - 1, by omega⟩
    have e := nn_f (N := N) (m := m') (ρ := RR t) (a := nI b) (b := nI n) (x := 0) (fm_nz f2)
    rw [← hm] at e
    rw [e]
    exact ok_ret ⟨f2, kk σ2 k2⟩
