/-! WHO COUNTS, by the model -/
theorem ok_is {o : Option (Int32 × St)} {r : Int32} {σ : St} (h : Ok o (fun r' σ' => r' = r ∧ σ' = σ)) : o = some (r, σ) := by
  obtain ⟨r', σ', e, rfl, rfl⟩ := h
  exact e
theorem n15 {i : Nat} : (15 : Int32) + nI i = nI (15 + i) := nI_add 15 i
theorem n10 {i : Nat} : (10 : Int32) + nI i = nI (10 + i) := nI_add 10 i
theorem n5 {i : Nat} : (5 : Int32) + nI i = nI (5 + i) := nI_add 5 i
set_option maxHeartbeats 400000 in
theorem s_quarrels {N t h : Nat} {ρ : Nat → Nat → Nat} {c : CDat} {S : SDat} {σ : St} (hN : 20000 ≤ N) (hρ : ρ = RR t) (wf : WfC c) (ws : WfS c S) (rm : RepM c σ) (ra : RepA 120 c S σ) (hh : h < 6) : f_X12_quarrels N ρ 90 (nI h) σ = some (if qrl c S h = true then 1 else 0, σ) := by
  have hns := wf.2.1
  refine ok_is ?_
  refine lp_ok (F := fun n (a : Int32 × Int32) => f_X12_quarrels_4 N ρ 90 (nI h) n a.1 a.2 σ) (ns c) (fun i a => a.1 = (if qn (dt c 6) (atH S h) i = true then 1 else 0) ∧ a.2 = nI i) ?_ ?_ N 0 (0, 0) (Nat.zero_le _) (by omega) ⟨rfl, rfl⟩
  · rintro n i ⟨b, j⟩ hi ⟨e1, e2⟩ kk
    have e1 : b = _ := e1
    have e2 : j = _ := e2
    subst e1 e2
    show Ok (b_X12_quarrels_4 N ρ 90 (nI h) (f_X12_quarrels_4 N ρ 90 (nI h) n) _ (nI i) σ) _
    unfold b_X12_quarrels_4
    rw [rm.2.1]
    refine ok_neg (nI_ge hi (by omega)) ?_
    refine lp_ok (F := fun n' (a : Int32 × Int32) => f_X12_quarrels_15 N ρ 90 (nI h) (f_X12_quarrels_4 N ρ 90 (nI h) n) n' a.1 (nI i) a.2 σ) i (fun j a => a.1 = (if (qn (dt c 6) (atH S h) i || exq (dt c 6) (atH S h) i j) = true then 1 else 0) ∧ a.2 = nI j) ?_ ?_ N 0 (_, 0) (Nat.zero_le _) (by omega) ⟨by simp [exq], rfl⟩
    · rintro n' j ⟨b, j'⟩ hj ⟨e1, e2⟩ k2
      have e1 : b = _ := e1
      have e2 : j' = _ := e2
      subst e1 e2
      show Ok (b_X12_quarrels_15 N ρ 90 (nI h) (f_X12_quarrels_4 N ρ 90 (nI h) n) (f_X12_quarrels_15 N ρ 90 (nI h) (f_X12_quarrels_4 N ρ 90 (nI h) n) n') _ (nI i) (nI j) σ) _
      unfold b_X12_quarrels_15 f_X12_quarrels_72 f_X12_quarrels_68 f_X12_quarrels_73
      rw [nI_1 j, n15, n15, r_90_57 hρ, r_90_42 hρ]
      refine ok_neg (nI_ge hj (by omega)) ?_
      by_cases hA : (qn (dt c 6) (atH S h) i || exq (dt c 6) (atH S h) i j) = true
      · rw [if_pos hA]
        refine ok_neg (show ¬ (1 : Int32) = 0 by decide) (k2 (_, _) ⟨?_, rfl⟩)
        show (1 : Int32) = _
        rw [if_pos]
        simp only [exq, ← Bool.or_assoc, hA, Bool.true_or]
      · rw [if_neg hA]
        have hA' : (qn (dt c 6) (atH S h) i || exq (dt c 6) (atH S h) i j) = false := by simpa using hA
        have fin : ∀ v : Bool, (atH S h i && atH S h j && decide (dt c 6 i ≠ dt c 6 j)) = v → (if v = true then (1 : Int32) else 0) = (if (qn (dt c 6) (atH S h) i || exq (dt c 6) (atH S h) i (j + 1)) = true then 1 else 0) := by
          intro v hv
          simp only [exq, ← Bool.or_assoc, hA', Bool.false_or, hv]
        have hjn : j < ns c := by omega
        refine ok_pos rfl (ok_gd (ib_nI (by omega) (by decide)) ?_)
        rw [nI_clamp (show 15 + i < 2 ^ 31 by omega), nI_clamp (show 15 + j < 2 ^ 31 by omega), nI_clamp (show i < 2 ^ 31 by omega), nI_clamp (show j < 2 ^ 31 by omega), (ra.1 i hi).2.2.2, (ra.1 j hjn).2.2.2]
        have ei := sv_eq (WfS_lt wf ws hi).2.1 (show h < 2 ^ 31 by omega)
        have ej := sv_eq (WfS_lt wf ws hjn).2.1 (show h < 2 ^ 31 by omega)
        by_cases hp : S 3 i = h + 1
        · refine ok_pos (ei.mpr hp) (ok_gd (ib_nI (by omega) (by decide)) ?_)
          by_cases hp2 : S 3 j = h + 1
          · refine ok_pos (ej.mpr hp2) (ok_gd (ib_nI (by omega) (by decide)) (ok_gd (ib_nI (by omega) (by decide)) ?_))
            rw [show σ.1 117 i = nI (dt c 6 i) from rm.2.2.2.2.2.2.1 6 i (by decide) (by decide) hi, show σ.1 117 j = nI (dt c 6 j) from rm.2.2.2.2.2.2.1 6 j (by decide) (by decide) hjn]
            have c1 := (wf.2.2.2.1 i hi).2.2.1
            have c2 := (wf.2.2.2.1 j hjn).2.2.1
            by_cases ec : dt c 6 i = dt c 6 j
            · refine ok_pos (by rw [ec]) (k2 (_, _) ⟨fin false ?_, rfl⟩)
              simp [ec]
            · refine ok_neg (fun z => ec ((nI_eq (by omega) (by omega)).mp z)) (k2 (_, _) ⟨fin true ?_, rfl⟩)
              simp [ec, atH, hp, hp2]
          · refine ok_neg (fun z => hp2 (ej.mp z)) (k2 (_, _) ⟨fin false ?_, rfl⟩)
            simp [atH, hp2]
        · refine ok_neg (fun z => hp (ei.mp z)) (k2 (_, _) ⟨fin false ?_, rfl⟩)
          simp [atH, hp]
    · rintro n' ⟨b, j'⟩ ⟨e1, e2⟩
      have e1 : b = _ := e1
      have e2 : j' = _ := e2
      subst e1 e2
      show Ok (b_X12_quarrels_15 N ρ 90 (nI h) (f_X12_quarrels_4 N ρ 90 (nI h) n) (f_X12_quarrels_15 N ρ 90 (nI h) (f_X12_quarrels_4 N ρ 90 (nI h) n) n') _ (nI i) (nI i) σ) _
      unfold b_X12_quarrels_15
      refine ok_pos (Int32.le_refl _) ?_
      rw [nI_1]
      exact kk (_, _) ⟨rfl, rfl⟩
  · rintro n ⟨b, j⟩ ⟨e1, e2⟩
    have e1 : b = _ := e1
    have e2 : j = _ := e2
    subst e1 e2
    show Ok (b_X12_quarrels_4 N ρ 90 (nI h) (f_X12_quarrels_4 N ρ 90 (nI h) n) _ (nI (ns c)) σ) _
    unfold b_X12_quarrels_4
    rw [rm.2.1]
    refine ok_pos (Int32.le_refl _) (ok_gd (by split <;> rfl) (ok_ret ⟨rfl, rfl⟩))
theorem sv_nz {v : Nat} (h : v ≠ 0) : sv v = nI (v - 1) := by unfold sv; rw [if_neg h]
theorem sm_90 {σ σ' : St} (a : Ag Sm σ σ') : σ'.1 90 = σ.1 90 := (a 90 (by unfold Sm; omega)).1
theorem s_loadOf {N t s : Nat} {ρ : Nat → Nat → Nat} {c : CDat} {S : SDat} {x : Int32} {σ : St} (hN : 20000 ≤ N) (hρ : ρ = RR t) (wf : WfC c) (ws : WfS c S) (rm : RepM c σ) (ra : RepA 120 c S σ) (hx : σ.1 90 27 = x) (hs : s < ns c) (h3 : S 3 s ≠ 0) :
    Ok (f_X12_loadOf N ρ 90 (nI s) σ) (fun r σ' => r = lod c S x s ∧ Ag Sm σ σ') := by
  have hns := wf.2.1
  have hnh := wf.1
  have h3b := (ws.1 s hs).2.2.2
  unfold f_X12_loadOf
  rw [n15, r_90_57 hρ, nI_clamp (show 15 + s < 2 ^ 31 by omega), (ra.1 s hs).2.2.2, sv_nz h3]
  refine ok_gd (ib_nI (by omega) (by decide)) (ok_gd (ib_nI (by omega) (by decide)) ?_)
  refine ok_bnd (s_sentTo hN hρ wf ws rm ra (by omega)) ?_
  refine ok_bnd (s_members hN (by omega)) ?_
  exact ok_call (s_loadAt hN hρ wf rm ra hx hs (by omega) (mny_pos hs h3) (mny_le wf)) (fun r σ' hr => ok_ret hr)
theorem s_fareOf {N t s : Nat} {ρ : Nat → Nat → Nat} {c : CDat} {S : SDat} {x : Int32} {σ : St} (hN : 20000 ≤ N) (hρ : ρ = RR t) (wf : WfC c) (ws : WfS c S) (rm : RepM c σ) (ra : RepA 120 c S σ) (hx : σ.1 90 27 = x) (hs : s < ns c) :
    Ok (f_X12_fareOf N ρ 90 (nI s) σ) (fun r σ' => r = nI (fare c S x s) ∧ Ag Sm σ σ') := by
  have hns := wf.2.1
  have hnh := wf.1
  have h3b := (ws.1 s hs).2.2.2
  unfold f_X12_fareOf
  rw [n15, r_90_57 hρ, nI_clamp (show 15 + s < 2 ^ 31 by omega), (ra.1 s hs).2.2.2]
  refine ok_gd (ib_nI (by omega) (by decide)) (ok_nmd ?_)
  by_cases h3 : S 3 s = 0
  · refine ok_neg (sv_neg h3) (ok_ret ⟨?_, ag_refl⟩)
    rw [fare_0.mpr h3]
    rfl
  · refine ok_pos (sv_pos h3 (by omega)) ?_
    rw [sv_nz h3]
    refine ok_bnd (s_quarrels hN hρ wf ws rm ra (by omega)) ?_
    unfold fare
    rw [if_neg h3]
    by_cases hq : qrl c S (S 3 s - 1) = true
    · rw [if_pos hq, if_pos hq]
      exact ok_neg (by decide) (ok_ret ⟨rfl, ag_refl⟩)
    · rw [if_neg hq, if_neg hq]
      refine ok_pos rfl ?_
      refine ok_call (s_loadOf hN hρ wf ws rm ra hx hs h3) (fun r σ' hr => ok_gd (ib_nI (by omega) (by decide)) ?_)
      rw [nI_clamp (by omega), ((RepA_sm (Or.inr rfl) ra hr.2).1 s hs).1, hr.1]
      unfold f_X12_fareOf_45
      by_cases hl : lod c S x s ≤ nI (S 0 s)
      · rw [if_pos hl]
        exact ok_neg (i_nlt.mpr hl) (ok_ret ⟨rfl, hr.2⟩)
      · rw [if_neg hl]
        exact ok_pos (i_nle.mp hl) (ok_ret ⟨rfl, hr.2⟩)
set_option maxHeartbeats 400000 in
theorem s_whoFares {N t w : Nat} {ρ : Nat → Nat → Nat} {c : CDat} {S : SDat} {x : Int32} {σ : St} (hN : 20000 ≤ N) (hρ : ρ = RR t) (wf : WfC c) (ws : WfS c S) (rm : RepM c σ) (ra : RepA 120 c S σ) (hx : σ.1 90 27 = x) (hw : w ≤ 3) :
    Ok (f_X12_whoFares N ρ 90 (nI w) σ) (fun r σ' => r = bits (fun s => decide (fare c S x s = w)) (ns c) ∧ Ag Sm σ σ') := by
  have hns := wf.2.1
  refine lp_ok (F := fun n (a : Int32 × Int32 × St) => f_X12_whoFares_4 N ρ 90 (nI w) n a.1 a.2.1 a.2.2) (ns c) (fun i a => a.1 = bits (fun s => decide (fare c S x s = w)) i ∧ a.2.1 = nI i ∧ Ag Sm σ a.2.2) ?_ ?_ N 0 (0, 0, σ) (Nat.zero_le _) (by omega) ⟨rfl, rfl, ag_refl⟩
  · rintro n i ⟨b, j, σ1⟩ hi ⟨e1, e2, ha⟩ kk
    have e1 : b = _ := e1
    have e2 : j = _ := e2
    have ha : Ag Sm σ σ1 := ha
    subst e1 e2
    have rm1 := RepM_sm rm ha
    show Ok (b_X12_whoFares_4 N ρ 90 (nI w) (f_X12_whoFares_4 N ρ 90 (nI w) n) _ (nI i) σ1) _
    unfold b_X12_whoFares_4 f_X12_whoFares_27
    rw [rm1.2.1, nI_1]
    refine ok_neg (nI_ge hi (by omega)) ?_
    refine ok_call (s_fareOf (x := x) hN hρ wf ws rm1 (RepA_sm (Or.inr rfl) ra ha) (by rw [sm_90 ha]; exact hx) hi) (fun r σ2 hr => ?_)
    rw [hr.1]
    have hb := bits_t (p := fun s => decide (fare c S x s = w)) (show i < 6 by omega)
    have hf := fare_le (c := c) (S := S) (x := x) (s := i)
    by_cases e : fare c S x i = w
    · refine ok_pos (by rw [e]) (ok_bnd s_truth (ok_nmd ?_))
      refine kk (_, _, σ2) ⟨?_, rfl, ag_trans ha hr.2⟩
      rw [← hb]
      simp [e]
    · refine ok_neg (fun z => e ((nI_eq (by omega) (by omega)).mp z)) (ok_bnd s_truth (ok_nmd ?_))
      refine kk (_, _, σ2) ⟨?_, rfl, ag_trans ha hr.2⟩
      rw [← hb]
      simp [e]
  · rintro n ⟨b, j, σ1⟩ ⟨e1, e2, ha⟩
    have e1 : b = _ := e1
    have e2 : j = _ := e2
    have ha : Ag Sm σ σ1 := ha
    subst e1 e2
    show Ok (b_X12_whoFares_4 N ρ 90 (nI w) (f_X12_whoFares_4 N ρ 90 (nI w) n) _ (nI (ns c)) σ1) _
    unfold b_X12_whoFares_4
    rw [(RepM_sm rm ha).2.1]
    exact ok_pos (Int32.le_refl _) (ok_ret ⟨rfl, ha⟩)
