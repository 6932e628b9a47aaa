/-! LINES: the model's small ones -/
def LMd (τ : Tape) (p : Nat) (σ : St) : Prop := TapM τ σ ∧ LexM τ p σ ∧ p ≤ τ.1 ∧ σ.1 90 2 = 0 ∧ σ.1 90 3 = -1
def FMd (τ : Tape) (e : Flt) (σ : St) : Prop := (1 ≤ e.1 ∧ e.1 ≤ 4) ∧ σ.1 90 2 = nI (if tk τ e.2 = 103 then 1 else e.1) ∧ σ.1 90 3 = nI (tq τ e.2)
theorem fm_nz {τ : Tape} {e : Flt} {σ : St} (h : FMd τ e σ) : ¬ σ.1 90 2 = 0 ∧ ¬ σ.1 90 2 ≤ 0 := by
  obtain ⟨⟨h1, h2⟩, h3, _⟩ := h
  rw [h3]
  split
  · exact ⟨by decide, by decide⟩
  · exact ⟨nI_ne0 (by omega) (by omega), nI_nle (by omega) (by omega)⟩
theorem FMd_cg {τ : Tape} {e : Flt} {σ σ' : St} (h : FMd τ e σ) (e2 : σ'.1 90 2 = σ.1 90 2) (e3 : σ'.1 90 3 = σ.1 90 3) : FMd τ e σ' := ⟨h.1, by rw [e2]; exact h.2.1, by rw [e3]; exact h.2.2⟩
def nT (k : Nat) : Prop := k = 2 ∨ k = 3 ∨ k = 4 ∨ k = 6 ∨ k = 7 ∨ k = 8
def A90 (q : Nat) : Prop := q = 90
def KT (σ σ' : St) : Prop := (∀ k, ¬ nT k → σ'.1 90 k = σ.1 90 k) ∧ Ag A90 σ σ'
theorem kt_refl {σ : St} : KT σ σ := ⟨fun _ _ => rfl, ag_refl⟩
theorem kt_trans {a b c : St} (h : KT a b) (g : KT b c) : KT a c := ⟨fun k hk => (g.1 k hk).trans (h.1 k hk), ag_trans h.2 g.2⟩
theorem LMd_cg {τ : Tape} {p : Nat} {σ σ' : St} (h : LMd τ p σ) (e : ∀ k, k ≤ 8 → σ'.1 90 k = σ.1 90 k) (e1 : σ'.1 91 = σ.1 91) (e2 : σ'.2 90 = σ.2 90) : LMd τ p σ' := by
  obtain ⟨tm, lm, hp, h2, h3⟩ := h
  refine ⟨TapM_cg tm (e 5 (by decide)) e1, ?_, hp, by rw [e 2 (by decide)]; exact h2, by rw [e 3 (by decide)]; exact h3⟩
  obtain ⟨l1, l2, l3, l4, l5⟩ := lm
  exact ⟨by rw [e 7 (by decide)]; exact l1, by rw [e 6 (by decide)]; exact l2, fun z => by rw [e 8 (by decide)]; exact l3 z, fun z => by rw [e2]; exact l4 z, fun z => by rw [e 4 (by decide)]; exact l5 z⟩
theorem lm_tok {N t p : Nat} {τ : Tape} {σ : St} (hN : 20000 ≤ N) (h3 : tk τ p ≠ 103) (h : LMd τ p σ) : Ok (f_X12_token N (RR t) 90 σ) (fun _ σ' => LMd τ (tn τ p) σ' ∧ KT σ σ') := by
  obtain ⟨tm, lm, hp, h2, h3'⟩ := h
  refine ok_mono (s_token hN tm (tn_le hp) (lm.2.2.2.2 h3)) (fun r σ' z => ?_)
  obtain ⟨⟨l, k⟩, a⟩ := z
  refine ⟨⟨TapM_cg tm (k 5 (by decide) (by decide) (by decide) (by decide)) (a 91 (by decide)).1, l, tn_le hp, ?_, ?_⟩, fun j hj => k j (fun z => hj (by unfold nT; omega)) (fun z => hj (by unfold nT; omega)) (fun z => hj (by unfold nT; omega)) (fun z => hj (by unfold nT; omega)), a⟩
  · rw [k 2 (by decide) (by decide) (by decide) (by decide)]; exact h2
  · rw [k 3 (by decide) (by decide) (by decide) (by decide)]; exact h3'
theorem lm_wrong {N t p c : Nat} {τ : Tape} {x : Int32} {σ : St} (hx : x = nI c) (hc : 1 ≤ c ∧ c ≤ 4) (hb : ∀ j, j < τ.1 → τ.2 j < 256) (h : LMd τ p σ) : Ok (f_X12_wrong N (RR t) 90 x σ) (fun _ σ' => FMd τ (c, p) σ' ∧ KT σ σ') := by
  subst hx
  obtain ⟨tm, lm, hp, h2, h3'⟩ := h
  have hk := tk_lt (p := p) hb
  unfold f_X12_wrong f_X12_wrong_22
  rw [h2, lm.2.1]
  refine ok_pos (by decide) ?_
  by_cases h : tk τ p = 103
  · refine ok_pos ((srt_3 hk).mpr h) (ok_sI2 fun σ1 n1 u1 f1 => ok_sI2 fun σ2 n2 u2 f2 => ok_ret ⟨⟨hc, ?_, ?_⟩, fun k hk' => ?_, fun q hq => ⟨by rw [n2 q hq, n1 q hq], by rw [f2, f1]⟩⟩)
    · rw [u2, pk_un (by decide), u1, pk_us, if_pos h]; rfl
    · rw [u2, pk_us, u1, pk_un (by decide)]; exact lm.1
    · rw [u2, pk_un (fun z => hk' (by unfold nT; omega)), u1, pk_un (fun z => hk' (by unfold nT; omega))]
  · refine ok_neg (fun z => h ((srt_3 hk).mp z)) (ok_sI2 fun σ1 n1 u1 f1 => ok_sI2 fun σ2 n2 u2 f2 => ok_ret ⟨⟨hc, ?_, ?_⟩, fun k hk' => ?_, fun q hq => ⟨by rw [n2 q hq, n1 q hq], by rw [f2, f1]⟩⟩)
    · rw [u2, pk_un (by decide), u1, pk_us, if_neg h]
    · rw [u2, pk_us, u1, pk_un (by decide)]; exact lm.1
    · rw [u2, pk_un (fun z => hk' (by unfold nT; omega)), u1, pk_un (fun z => hk' (by unfold nT; omega))]
def TdM (τ : Tape) (o : (Nat × Nat) ⊕ Flt) (r : Int32) (σ' : St) : Prop := match o with
  | .inl (p', v) => LMd τ p' σ' ∧ r = nI v
  | .inr e => FMd τ e σ'
/-- behind a fault nothing is read -/
theorem want_f {N : Nat} {ρ : Nat → Nat → Nat} {x : Int64} {σ : St} (h : ¬ σ.1 90 2 ≤ 0) : f_X12_want N ρ 90 x σ = some (0, σ) := by
  unfold f_X12_want
  rw [if_neg h]
theorem tnum_f {N : Nat} {ρ : Nat → Nat → Nat} {a b : Int32} {σ : St} (h : ¬ σ.1 90 2 ≤ 0) : f_X12_toldNumber N ρ 90 a b σ = some (0, σ) := by
  unfold f_X12_toldNumber
  rw [if_neg h]
theorem told_f {N : Nat} {ρ : Nat → Nat → Nat} {x : Int64} {a b : Int32} {σ : St} (h : ¬ σ.1 90 2 ≤ 0) : f_X12_told N ρ 90 x a b σ = some (0, σ) := by
  unfold f_X12_told
  rw [bnd_e (want_f h), bnd_e (tnum_f h)]
theorem opt_f {N : Nat} {ρ : Nat → Nat → Nat} {x : Int64} {a b : Int32} {σ : St} (h : ¬ σ.1 90 2 = 0) : f_X12_option N ρ 90 x a b σ = some (a, σ) := by
  unfold f_X12_option f_X12_option_26 f_X12_option_27
  rw [if_neg h]
theorem fl_n {b : Prop} [Decidable b] (h : ¬ b) : fl (decide b) = 0 := by rw [decide_eq_false h]; rfl
theorem fl_y {b : Prop} [Decidable b] (h : b) : fl (decide b) = 1 := by rw [decide_eq_true h]; rfl
theorem s_tnum {N t p lo hi : Nat} {τ : Tape} {a b : Int32} {σ : St} (hN : 20000 ≤ N) (hb : ∀ j, j < τ.1 → τ.2 j < 256) (hlo : lo < 10000) (hhi : hi < 10000) (ea : a = nI lo) (eb : b = nI hi) (h : LMd τ p σ) :
    Ok (f_X12_toldNumber N (RR t) 90 a b σ) (fun r σ' => TdM τ (if tk τ p = 100 then (if lo ≤ tv τ p ∧ tv τ p ≤ hi then .inl (tn τ p, tv τ p) else .inr (4, p)) else .inr (2, p)) r σ' ∧ KT σ σ') := by
  subst ea eb
  have hk := tk_lt (p := p) hb
  have h' := h
  obtain ⟨tm, lm, hp, h2, h3'⟩ := h'
  have no : ∀ c x, x = nI c → 1 ≤ c ∧ c ≤ 4 → Ok (bnd (f_X12_wrong N (RR t) 90 x σ) fun _ σ7 => f_X12_toldNumber_46 N (RR t) 90 (nI lo) (nI hi) σ7) (fun r σ' => TdM τ (.inr (c, p)) r σ' ∧ KT σ σ') := fun c x hx hc => ok_call (lm_wrong hx hc hb h) (fun _ σ1 z => by
    obtain ⟨fm, k1⟩ := z
    unfold f_X12_toldNumber_46 f_X12_toldNumber_62
    exact ok_nmd (ok_neg (fm_nz fm).1 (ok_ret ⟨fm, k1⟩)))
  unfold f_X12_toldNumber f_X12_toldNumber_41
  rw [h2]
  refine ok_pos (by decide) ?_
  rw [lm.2.1]
  by_cases c1 : tk τ p = 100
  · have hv := tv_lt c1
    rw [if_pos c1]
    refine ok_pos ((srt_2 hk).mpr c1) ?_
    rw [lm.2.2.1 c1]
    by_cases c3 : lo ≤ tv τ p
    · refine ok_neg (nI_nlt c3 (by omega)) ?_
      by_cases c4 : tv τ p ≤ hi
      · rw [if_pos (show lo ≤ tv τ p ∧ tv τ p ≤ hi from ⟨c3, c4⟩)]
        refine ok_pos (nI_le c4 (by omega)) ?_
        unfold f_X12_toldNumber_46 f_X12_toldNumber_62
        rw [h2, lm.2.2.1 c1]
        refine ok_nmd (ok_pos rfl (ok_call (lm_tok hN (by omega) h) (fun _ σ1 z => ok_ret ⟨⟨z.1, rfl⟩, z.2⟩)))
      · rw [if_neg (show ¬ (lo ≤ tv τ p ∧ tv τ p ≤ hi) from fun z => c4 z.2)]
        exact ok_neg (nI_ge (show hi < tv τ p by omega) (by omega)) (no 4 4 rfl (by decide))
    · rw [if_neg (show ¬ (lo ≤ tv τ p ∧ tv τ p ≤ hi) from fun z => c3 z.1)]
      exact ok_pos (nI_lt (by omega) (by omega)) (no 4 4 rfl (by decide))
  · rw [if_neg c1]
    exact ok_neg (fun z => c1 ((srt_2 hk).mp z)) (no 2 2 rfl (by decide))
theorem s_toldM {N t p k lo hi : Nat} {τ : Tape} {x : Int64} {a b : Int32} {σ : St} (hN : 20000 ≤ N) (hb : ∀ j, j < τ.1 → τ.2 j < 256) (hk1 : 1 ≤ k) (hk2 : k ≤ 19) (hx : x = lO (vM (WL k))) (hlo : lo < 10000) (hhi : hi < 10000) (ea : a = nI lo) (eb : b = nI hi) (h : LMd τ p σ) :
    Ok (f_X12_told N (RR t) 90 x a b σ) (fun r σ' => TdM τ (tdP τ p k lo hi) r σ' ∧ KT σ σ') := by
  unfold f_X12_told f_X12_want f_X12_want_28
  rw [h.2.2.2.1, if_pos (show (0 : Int32) ≤ 0 by decide), bnd_e (s_isWord hb h.2.1 hk1 hk2 hx)]
  unfold tdP
  by_cases c1 : tk τ p = k
  · rw [fl_y c1, if_neg (by decide), if_pos c1]
    rw [bnd_as]
    refine ok_call (lm_tok hN (by omega) h) (fun _ σ1 z1 => ?_)
    obtain ⟨h1, k1⟩ := z1
    show Ok (bnd (f_X12_toldNumber N (RR t) 90 a b σ1) fun r4 σ5 => some (r4, σ5)) _
    refine ok_call (s_tnum hN hb hlo hhi ea eb h1) (fun r σ2 z2 => ok_ret ⟨?_, kt_trans k1 z2.2⟩)
    exact z2.1
  · rw [fl_n c1, if_pos rfl, if_neg c1]
    rw [bnd_as]
    refine ok_call (lm_wrong rfl (by decide) hb h) (fun _ σ1 z1 => ?_)
    obtain ⟨f1, k1⟩ := z1
    show Ok (bnd (f_X12_toldNumber N (RR t) 90 a b σ1) fun r4 σ5 => some (r4, σ5)) _
    rw [bnd_e (tnum_f (fm_nz f1).2)]
    exact ok_ret ⟨f1, k1⟩
theorem s_optM {N t p k lo hi : Nat} {τ : Tape} {x : Int64} {a b : Int32} {σ : St} (hN : 20000 ≤ N) (hb : ∀ j, j < τ.1 → τ.2 j < 256) (hk1 : 1 ≤ k) (hk2 : k ≤ 19) (hx : x = lO (vM (WL k))) (hlo : lo < 10000) (hhi : hi < 10000) (ea : a = nI lo) (eb : b = nI hi) (h : LMd τ p σ) :
    Ok (f_X12_option N (RR t) 90 x a b σ) (fun r σ' => TdM τ (opP τ p k lo hi) r σ' ∧ KT σ σ') := by
  unfold f_X12_option f_X12_option_26 f_X12_option_27
  rw [h.2.2.2.1, if_pos rfl, bnd_e (s_isWord hb h.2.1 hk1 hk2 hx)]
  unfold opP
  by_cases c1 : tk τ p = k
  · rw [fl_y c1, if_neg (by decide), if_pos c1]
    exact ok_call (s_toldM hN hb hk1 hk2 hx hlo hhi ea eb h) (fun r σ1 z => ok_ret z)
  · rw [fl_n c1, if_pos rfl, if_neg c1]
    exact ok_ret ⟨⟨h, ea⟩, kt_refl⟩
/-- names -/
theorem s_isName {N p : Nat} {ρ : Nat → Nat → Nat} {τ : Tape} {σ : St} (hb : ∀ j, j < τ.1 → τ.2 j < 256) (lm : LexM τ p σ) : f_X12_isName N ρ 90 σ = some (fl (decide (tk τ p = 101)), σ) := by
  have hk := tk_lt (p := p) hb
  have hp := tk_pos (p := p) hb
  unfold f_X12_isName f_X12_isName_19 f_X12_isName_20
  rw [lm.2.1]
  by_cases hw : tk τ p ≤ 19 ∨ tk τ p = 101
  · rw [if_pos ((srt_1 hk hp).mpr hw)]
    have own : f_X12_isOwn N ρ 90 σ = some (fl (decide (tk τ p ≤ 19)), σ) := by
      have d : ∀ (k : Nat) (x : Int64), 1 ≤ k → k ≤ 19 → x = lO (vM (WL k)) → (lg_cmp (σ.2 90 9) x = 0 ↔ tk τ p = k) := fun k x h1 h2 hx => wd_is hb lm hw h1 h2 hx
      have step : ∀ (k : Nat) (x : Int64) (A B : Option (Int32 × St)) (v : Option (Int32 × St)), 1 ≤ k → k ≤ 19 → x = lO (vM (WL k)) → (tk τ p = k → A = v) → (tk τ p ≠ k → B = v) → (if lg_cmp (σ.2 90 9) x = 0 then A else B) = v := fun k x A B v h1 h2 hx ha hB => by
        by_cases e : tk τ p = k
        · rw [if_pos ((d k x h1 h2 hx).mpr e)]; exact ha e
        · rw [if_neg (fun z => e ((d k x h1 h2 hx).mp z))]; exact hB e
      have yes : ∀ k, k ≤ 19 → tk τ p = k → f_X12_isOwn_209 N ρ 90 σ = some (fl (decide (tk τ p ≤ 19)), σ) := fun k h1 h2 => by
        rw [fl_y (show tk τ p ≤ 19 by omega)]; rfl
      unfold f_X12_isOwn
      refine step 10 _ _ _ _ (by decide) (by decide) (by decide +kernel) (yes 10 (by decide)) (fun n1 => ?_)
      refine step 11 _ _ _ _ (by decide) (by decide) (by decide +kernel) (yes 11 (by decide)) (fun n2 => ?_)
      refine step 1 _ _ _ _ (by decide) (by decide) (by decide +kernel) (yes 1 (by decide)) (fun n3 => ?_)
      refine step 12 _ _ _ _ (by decide) (by decide) (by decide +kernel) (yes 12 (by decide)) (fun n4 => ?_)
      refine step 3 _ _ _ _ (by decide) (by decide) (by decide +kernel) (yes 3 (by decide)) (fun n5 => ?_)
      refine step 13 _ _ _ _ (by decide) (by decide) (by decide +kernel) (yes 13 (by decide)) (fun n6 => ?_)
      refine step 5 _ _ _ _ (by decide) (by decide) (by decide +kernel) (yes 5 (by decide)) (fun n7 => ?_)
      refine step 14 _ _ _ _ (by decide) (by decide) (by decide +kernel) (yes 14 (by decide)) (fun n8 => ?_)
      refine step 4 _ _ _ _ (by decide) (by decide) (by decide +kernel) (yes 4 (by decide)) (fun n9 => ?_)
      refine step 15 _ _ _ _ (by decide) (by decide) (by decide +kernel) (yes 15 (by decide)) (fun n10 => ?_)
      refine step 16 _ _ _ _ (by decide) (by decide) (by decide +kernel) (yes 16 (by decide)) (fun n11 => ?_)
      refine step 17 _ _ _ _ (by decide) (by decide) (by decide +kernel) (yes 17 (by decide)) (fun n12 => ?_)
      refine step 18 _ _ _ _ (by decide) (by decide) (by decide +kernel) (yes 18 (by decide)) (fun n13 => ?_)
      refine step 19 _ _ _ _ (by decide) (by decide) (by decide +kernel) (yes 19 (by decide)) (fun n14 => ?_)
      refine step 2 _ _ _ _ (by decide) (by decide) (by decide +kernel) (yes 2 (by decide)) (fun n15 => ?_)
      refine step 6 _ _ _ _ (by decide) (by decide) (by decide +kernel) (yes 6 (by decide)) (fun n16 => ?_)
      refine step 8 _ _ _ _ (by decide) (by decide) (by decide +kernel) (yes 8 (by decide)) (fun n17 => ?_)
      refine step 7 _ _ _ _ (by decide) (by decide) (by decide +kernel) (yes 7 (by decide)) (fun n18 => ?_)
      refine step 9 _ _ _ _ (by decide) (by decide) (by decide +kernel) (yes 9 (by decide)) (fun n19 => ?_)
      rw [fl_n (show ¬ tk τ p ≤ 19 by omega)]
      rfl
    rw [bnd_e own]
    by_cases c : tk τ p ≤ 19
    · rw [fl_y c, if_neg (by decide), fl_n (show ¬ tk τ p = 101 by omega)]; rfl
    · rw [fl_n c, if_pos rfl, fl_y (show tk τ p = 101 by omega)]; rfl
  · rw [if_neg (fun z => hw ((srt_1 hk hp).mp z)), fl_n (fun z => hw (Or.inr z))]
    rfl
theorem nm_cmpM {w w' : List Nat} {x y : Int64} (hw : okW w) (hw' : okW w') (ex : x = lO (vM w)) (ey : y = lO (vM w')) : lg_cmp x y = 0 ↔ w = w' := by
  rw [lg_0, ex, ey]
  constructor
  · intro e
    exact vM_inj hw.2 hw'.2 (lO_inj (vM_b hw) (vM_b hw') e)
  · intro e
    rw [e]
