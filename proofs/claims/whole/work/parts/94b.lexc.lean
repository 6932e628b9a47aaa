/-! THE CLASS's LEXER -/
theorem ok_sI2 {σ : St} {b k : Nat} {x : Int32} {kk : St → Option (Int32 × St)} {Q : Int32 → St → Prop} (h : ∀ σ' : St, (∀ p, p ≠ b → σ'.1 p = σ.1 p) → σ'.1 b = upd (σ.1 b) k x → σ'.2 = σ.2 → Ok (kk σ') Q) : Ok (nmd (sI σ b k x) kk) Q := h _ (fun p hp => sI_ne hp) sI_up rfl
theorem ok_sJ {σ : St} {b k : Nat} {x : Int64} {kk : St → Option (Int32 × St)} {Q : Int32 → St → Prop} (h : ∀ σ' : St, σ'.1 = σ.1 → (∀ j, σ'.2 b j = if j = k then x else σ.2 b j) → (∀ p, p ≠ b → σ'.2 p = σ.2 p) → Ok (kk σ') Q) : Ok (nmd (sJ σ b k x) kk) Q := h _ rfl (fun j => by simp [sJ]) (fun p hp => sJ_ne hp)
def TapX (τ : Tape) (σ : St) : Prop := τ.1 ≤ 1600 ∧ σ.1 4 1 = nI τ.1 ∧ ∀ j, j < τ.1 → τ.2 j < 256 ∧ σ.1 5 j = sb (τ.2 j)
theorem TapX_cg {τ : Tape} {σ σ' : St} (h : TapX τ σ) (e4 : σ'.1 4 = σ.1 4) (e5 : σ'.1 5 = σ.1 5) : TapX τ σ' := ⟨h.1, by rw [e4]; exact h.2.1, fun j hj => by rw [e5]; exact h.2.2 j hj⟩
theorem sb_l : ∀ b, b < 256 → (sb b < 97 ↔ (b < 97 ∨ 128 ≤ b)) ∧ (122 < sb b ↔ (122 < b ∧ b < 128)) ∧ (sb b < 48 ↔ (b < 48 ∨ 128 ≤ b)) ∧ (57 < sb b ↔ (57 < b ∧ b < 128)) ∧ (sb b = 32 ↔ b = 32) ∧ (sb b = 10 ↔ b = 10) ∧ (sb b ≤ 0 ↔ (b = 0 ∨ 128 ≤ b)) := by decide +kernel
theorem ok_let {b : Nat} {A B : Option (Int32 × St)} {g : Bool} {Q : Int32 → St → Prop} (hb : b < 256) (hg : g = true) (h1 : isL b = true → Ok B Q) (h2 : ¬ isL b = true → Ok A Q) : Ok (if sb b < 97 then A else gd g (if 122 < sb b then A else B)) Q := by
  have h := sb_l b hb
  unfold isL at h1 h2
  rw [decide_eq_true_eq] at h1 h2
  by_cases c1 : sb b < 97
  · exact ok_pos c1 (h2 (by have := h.1.mp c1; omega))
  · refine ok_neg c1 (ok_gd hg ?_)
    by_cases c2 : 122 < sb b
    · exact ok_pos c2 (h2 (by have := h.2.1.mp c2; omega))
    · refine ok_neg c2 (h1 ?_)
      have x1 : ¬ (b < 97 ∨ 128 ≤ b) := fun z => c1 (h.1.mpr z)
      have x2 : ¬ (122 < b ∧ b < 128) := fun z => c2 (h.2.1.mpr z)
      omega
theorem ok_dig {b : Nat} {A B : Option (Int32 × St)} {g : Bool} {Q : Int32 → St → Prop} (hb : b < 256) (hg : g = true) (h1 : isD b = true → Ok B Q) (h2 : ¬ isD b = true → Ok A Q) : Ok (if sb b < 48 then A else gd g (if 57 < sb b then A else B)) Q := by
  have h := sb_l b hb
  unfold isD at h1 h2
  rw [decide_eq_true_eq] at h1 h2
  by_cases c1 : sb b < 48
  · exact ok_pos c1 (h2 (by have := h.2.2.1.mp c1; omega))
  · refine ok_neg c1 (ok_gd hg ?_)
    by_cases c2 : 57 < sb b
    · exact ok_pos c2 (h2 (by have := h.2.2.2.1.mp c2; omega))
    · refine ok_neg c2 (h1 ?_)
      have x1 : ¬ (b < 48 ∨ 128 ≤ b) := fun z => c1 (h.2.2.1.mpr z)
      have x2 : ¬ (57 < b ∧ b < 128) := fun z => c2 (h.2.2.2.1.mpr z)
      omega
theorem let_v : ∀ b, b < 128 → 97 ≤ b → ((sb b) - 96).toInt64 = lO (b - 96) := by decide +kernel
theorem dig_v : ∀ b, b < 128 → 48 ≤ b → sb b - 48 = nI (b - 48) := by decide +kernel
theorem lO_st (a b : Nat) : lO a * 32 + lO b = lO (a * 32 + b) := by
  show Int64.ofNat a * Int64.ofNat 32 + Int64.ofNat b = Int64.ofNat (a * 32 + b)
  rw [Int64.ofNat_add, Int64.ofNat_mul]
theorem lg_0 {x y : Int64} : lg_cmp x y = 0 ↔ x = y := by
  unfold lg_cmp
  constructor
  · intro h
    by_cases c : x > y
    · rw [if_pos c] at h; exact absurd h (by decide)
    · rw [if_neg c] at h
      by_cases e : x = y
      · exact e
      · rw [if_neg e] at h; exact absurd h (by decide)
  · intro h
    subst h
    rw [if_neg (fun z => Int64.lt_irrefl z), if_pos rfl]
theorem tl_le {τ : Tape} {p : Nat} (h : tq τ p ≤ τ.1) : tq τ p + tl τ p ≤ τ.1 := by
  have a := rnP_le (P := isL) (τ := τ) h
  have b := rnP_ge (P := isL) (τ := τ) (p := tq τ p)
  unfold tl
  omega
theorem td_le {τ : Tape} {p : Nat} (h : tq τ p ≤ τ.1) : tq τ p + td τ p ≤ τ.1 := by
  have a := rnP_le (P := isD) (τ := τ) h
  have b := rnP_ge (P := isD) (τ := τ) (p := tq τ p)
  unfold td
  omega
def WdQ (τ : Tape) (p : Nat) (σ σ' : St) : Prop := σ'.1 3 2 = nI (tq τ p + tl τ p) ∧ σ'.1 3 4 = nI (if tl τ p ≤ 8 then kw (tw τ p) else 103) ∧ σ'.2 3 6 = lO (vX (tw τ p)) ∧ ∀ k, k ≠ 2 → k ≠ 4 → σ'.1 3 k = σ.1 3 k
set_option maxHeartbeats 800000 in
theorem s_takeWord {N t p : Nat} {τ : Tape} {σ : St} (hN : 20000 ≤ N) (tx : TapX τ σ) (wd : WrdI σ) (hq : tq τ p ≤ τ.1) (h3 : σ.1 3 3 = nI (tq τ p)) :
    Ok (f_X5_takeWord N (RR t) 3 σ) (fun _ σ' => WdQ τ p σ σ') := by
  have hl := tl_le hq
  have hL := tx.1
  unfold f_X5_takeWord
  refine ok_nmd (ok_sJ fun σ1 e1 u1 n1 => ?_)
  rw [h3]
  refine lp (F := fun n i σ' => f_X5_takeWord_18 N (RR t) 3 n (nI (tq τ p + i)) σ') (tl τ p) (fun i σ' => σ'.1 = σ.1 ∧ σ'.2 3 6 = lO (vX (lw τ.2 (tq τ p) i)) ∧ ∀ p, p ≠ 3 → σ'.2 p = σ.2 p) ?_ ?_ N 0 σ1 (Nat.zero_le _) (by omega) ⟨e1, by rw [u1, if_pos rfl]; rfl, n1⟩
  · rintro n i σ2 hi ⟨e2, v2, n2⟩ kk
    obtain ⟨hi1, hi2⟩ := tl_in hi
    have hj := tx.2.2 _ hi1
    have hib : ib (nI (tq τ p + i)) 1600 = true := ib_nI (by omega) (by decide)
    show Ok (b_X5_takeWord_18 _ _ _ _ _ _) _
    unfold b_X5_takeWord_18
    rw [r_3_0 rfl, r_4_0 rfl, e2, tx.2.1, nI_clamp (show tq τ p + i < 2 ^ 31 by omega), hj.2, nI_1 (tq τ p + i)]
    refine ok_neg (nI_ge hi1 (by omega)) (ok_gd hib (ok_let hj.1 hib (fun hlet => ok_gd hib (ok_sJ fun σ3 e3 u3 n3 => ?_)) (fun hn => absurd hi2 hn)))
    have hr := of_decide_eq_true hi2
    refine kk σ3 ⟨e3.trans e2, ?_, fun p hp => (n3 p hp).trans (n2 p hp)⟩
    rw [u3, if_pos rfl, v2, let_v _ (by omega) (by omega), lO_st]
    rfl
  · rintro n σ2 ⟨e2, v2, n2⟩
    have hib : ¬ τ.1 ≤ tq τ p + tl τ p → ib (nI (tq τ p + tl τ p)) 1600 = true := fun z => ib_nI (by omega) (by decide)
    have go : Ok (f_X5_takeWord_71 N (RR t) 3 (nI (tq τ p + tl τ p)) σ2) (fun _ σ' => WdQ τ p σ σ') := by
      unfold f_X5_takeWord_71
      refine ok_sI2 fun σ3 n3 u3 f3 => ?_
      have e33 : σ3.1 3 3 = nI (tq τ p) := by rw [u3, pk_un (by decide), e2]; exact h3
      rw [e33, pk_sub (show tq τ p ≤ tq τ p + tl τ p by omega), show tq τ p + tl τ p - tq τ p = tl τ p by omega]
      have find : ∀ x, ∀ σ4 : St, σ4.2 = σ2.2 → (∀ k, k ≠ 4 → σ4.1 3 k = σ3.1 3 k) → σ4.1 3 4 = nI x → (tl τ p ≤ 8 ∧ x = 101 ∨ ¬ tl τ p ≤ 8 ∧ x = 103) → Ok (f_X5_takeWord_100 N (RR t) 3 N 1 σ4) (fun _ σ' => WdQ τ p σ σ') := by
        intro x σ4 f4 k4 x4 hx
        have fin : ∀ σ5 : St, σ5.2 = σ2.2 → (∀ k, k ≠ 4 → σ5.1 3 k = σ3.1 3 k) → σ5.1 3 4 = nI (if tl τ p ≤ 8 then kw (tw τ p) else 103) → WdQ τ p σ σ5 := by
          intro σ5 f5 k5 x5
          refine ⟨?_, x5, by rw [f5]; exact v2, fun k h1 h2 => ?_⟩
          · rw [k5 2 (by decide), u3, pk_us]
          · rw [k5 k h2, u3, pk_un h1, e2]
        have w6 : ∀ k, k < 20 → σ2.2 6 k = WT k := fun k hk => by rw [n2 6 (by decide)]; exact wd k hk
        refine lp (F := fun n i σ' => f_X5_takeWord_100 N (RR t) 3 n (nI i) σ') 20 (fun i σ' => 1 ≤ i ∧ σ'.2 = σ2.2 ∧ (∀ k, k ≠ 4 → σ'.1 3 k = σ3.1 3 k) ∧ ((σ'.1 3 4 = nI x ∧ (x = 101 → ∀ k, 1 ≤ k → k < i → tw τ p ≠ WL k)) ∨ (x = 101 ∧ ∃ k, 1 ≤ k ∧ k < 20 ∧ tw τ p = WL k ∧ σ'.1 3 4 = nI k))) ?_ ?_ N 1 σ4 (by decide) (by omega) ⟨by decide, f4, k4, Or.inl ⟨x4, fun _ k h1 h2 => by omega⟩⟩
        · rintro n i σ5 hi ⟨i1, f5, k5, h5⟩ kk
          show Ok (b_X5_takeWord_100 _ _ _ _ _ _) _
          unfold b_X5_takeWord_100 f_X5_takeWord_137 f_X5_takeWord_143
          rcases h5 with ⟨x5, hno⟩ | ⟨h101, k, hk1, hk2, hk3, x5⟩
          · rw [x5]
            rcases hx with ⟨h8, rfl⟩ | ⟨h8, rfl⟩
            · have hw := tw_ok h8
              refine ok_pos rfl (ok_neg (nI_ge hi (by decide)) (ok_gd (ib_nI (by omega) (by decide)) ?_))
              rw [r_3_1 rfl, nI_clamp (show i < 2 ^ 31 by omega), f5, w6 i hi, v2, WL_WT i hi, nI_1 i]
              by_cases e : tw τ p = WL i
              · refine ok_pos (lg_0.mpr (by rw [← e]; rfl)) (ok_sI2 fun σ6 n6 u6 f6 => kk σ6 ⟨by omega, f6.trans f5, fun k hk => by rw [u6, pk_un hk]; exact k5 k hk, ?_⟩)
                exact Or.inr ⟨rfl, i, by omega, hi, e, by rw [u6, pk_us]⟩
              · refine ok_neg (fun z => e ?_) (kk σ5 ⟨by omega, f5, k5, Or.inl ⟨x5, fun _ k h1 h2 => ?_⟩⟩)
                · exact (vX_inj (WL_ok i hi).2 hw.2 (lO_inj (by have := vX_b (WL_ok i hi); omega) (by have := vX_b hw; omega) (lg_0.mp z))).symm
                · by_cases ek : k = i
                  · subst ek; exact e
                  · exact hno rfl k h1 (by omega)
            · refine ok_neg (by decide) (ok_ret (fin σ5 f5 k5 ?_))
              rw [x5, if_neg h8]
          · rw [x5]
            rcases hx with ⟨h8, rfl⟩ | ⟨h8, rfl⟩
            · refine ok_neg (fun z => absurd ((nI_eq (b := 101) (by omega) (by decide)).mp z) (by omega)) (ok_ret (fin σ5 f5 k5 ?_))
              rw [x5, if_pos h8]
              exact congrArg nI (kwn_y hk3 hk1 19 (by decide) (by omega)).symm
            · cases h101
        · rintro n σ5 ⟨_, f5, k5, h5⟩
          show Ok (b_X5_takeWord_100 _ _ _ _ _ _) _
          unfold b_X5_takeWord_100 f_X5_takeWord_143
          rcases h5 with ⟨x5, hno⟩ | ⟨h101, k, hk1, hk2, hk3, x5⟩
          · rw [x5]
            rcases hx with ⟨h8, rfl⟩ | ⟨h8, rfl⟩
            · refine ok_pos rfl (ok_pos (by decide) (ok_ret (fin σ5 f5 k5 ?_)))
              rw [x5, if_pos h8]
              exact congrArg nI (kwn_n 19 (fun k h1 h2 => hno rfl k h1 (by omega))).symm
            · refine ok_neg (by decide) (ok_ret (fin σ5 f5 k5 ?_))
              rw [x5, if_neg h8]
          · rw [x5]
            rcases hx with ⟨h8, rfl⟩ | ⟨h8, rfl⟩
            · refine ok_neg (fun z => absurd ((nI_eq (b := 101) (by omega) (by decide)).mp z) (by omega)) (ok_ret (fin σ5 f5 k5 ?_))
              rw [x5, if_pos h8]
              exact congrArg nI (kwn_y hk3 hk1 19 (by decide) (by omega)).symm
            · cases h101
      unfold f_X5_takeWord_95
      by_cases h8 : tl τ p ≤ 8
      · exact ok_pos (show nI (tl τ p) ≤ nI 8 from nI_le h8 (by decide)) (ok_sI2 fun σ4 n4 u4 f4 => find 101 σ4 (f4.trans f3) (fun k hk => by rw [u4, pk_un hk]) (by rw [u4, pk_us]; rfl) (Or.inl ⟨h8, rfl⟩))
      · exact ok_neg (show ¬ nI (tl τ p) ≤ nI 8 from nI_ge (by omega) (by omega)) (ok_sI2 fun σ4 n4 u4 f4 => find 103 σ4 (f4.trans f3) (fun k hk => by rw [u4, pk_un hk]) (by rw [u4, pk_us]; rfl) (Or.inr ⟨h8, rfl⟩))
    show Ok (b_X5_takeWord_18 _ _ _ _ _ _) _
    unfold b_X5_takeWord_18
    rw [r_3_0 rfl, r_4_0 rfl, e2, tx.2.1, nI_clamp (show tq τ p + tl τ p < 2 ^ 31 by omega)]
    by_cases hz : τ.1 ≤ tq τ p + tl τ p
    · exact ok_pos (nI_le hz (by omega)) go
    · have hj := tx.2.2 (tq τ p + tl τ p) (by omega)
      rw [hj.2]
      exact ok_neg (nI_ge (by omega) (by omega)) (ok_gd (hib hz) (ok_let hj.1 (hib hz) (fun hlet => absurd ⟨by omega, hlet⟩ tl_out) (fun _ => go)))
def NbQ (τ : Tape) (p : Nat) (σ σ' : St) : Prop := σ'.1 3 2 = nI (tq τ p + td τ p) ∧ σ'.1 3 4 = nI (if td τ p ≤ 4 ∧ ¬ (tq τ p + td τ p < τ.1 ∧ isL (τ.2 (tq τ p + td τ p)) = true) then 100 else 103) ∧ σ'.1 3 5 = nI (tv τ p) ∧ ∀ k, k ≠ 2 → k ≠ 4 → k ≠ 5 → σ'.1 3 k = σ.1 3 k
set_option maxHeartbeats 800000 in
theorem s_takeNumber {N t p : Nat} {τ : Tape} {σ : St} (hN : 20000 ≤ N) (tx : TapX τ σ) (hq : tq τ p ≤ τ.1) (h3 : σ.1 3 3 = nI (tq τ p)) :
    Ok (f_X5_takeNumber N (RR t) 3 σ) (fun _ σ' => NbQ τ p σ σ') := by
  have hl := td_le hq
  have hL := tx.1
  unfold f_X5_takeNumber
  refine ok_nmd (ok_sI fun σ1 n1 u1 => ?_)
  rw [h3]
  refine lp (F := fun n i σ' => f_X5_takeNumber_18 N (RR t) 3 n (nI (tq τ p + i)) σ') (td τ p) (fun i σ' => (∀ p, p ≠ 3 → σ'.1 p = σ.1 p) ∧ σ'.1 3 5 = nI (nvl τ.2 (tq τ p) i) ∧ ∀ k, k ≠ 5 → σ'.1 3 k = σ.1 3 k) ?_ ?_ N 0 σ1 (Nat.zero_le _) (by omega) ⟨n1, by rw [u1, pk_us]; rfl, fun k hk => by rw [u1, pk_un hk]⟩
  · rintro n i σ2 hi ⟨n2, v2, k2⟩ kk
    obtain ⟨hi1, hi2⟩ := td_in hi
    have hj := tx.2.2 _ hi1
    have hib : ib (nI (tq τ p + i)) 1600 = true := ib_nI (by omega) (by decide)
    show Ok (b_X5_takeNumber_18 _ _ _ _ _ _) _
    unfold b_X5_takeNumber_18
    rw [r_3_0 rfl, r_4_0 rfl, n2 4 (by decide), n2 5 (by decide), tx.2.1, nI_clamp (show tq τ p + i < 2 ^ 31 by omega), hj.2, nI_1 (tq τ p + i)]
    refine ok_neg (nI_ge hi1 (by omega)) (ok_gd hib (ok_dig hj.1 hib (fun hd => ok_gd hib (ok_sI fun σ3 n3 u3 => ?_)) (fun hn => absurd hi2 hn)))
    have hr := of_decide_eq_true hi2
    refine kk σ3 ⟨fun p hp => (n3 p hp).trans (n2 p hp), ?_, fun k hk => by rw [u3, pk_un hk]; exact k2 k hk⟩
    rw [u3, pk_us, v2, dig_v _ (by omega) (by omega), show (10 : Int32) = nI 10 from rfl, pk_mul, nI_add]
    rfl
  · rintro n σ2 ⟨n2, v2, k2⟩
    have hib : ¬ τ.1 ≤ tq τ p + td τ p → ib (nI (tq τ p + td τ p)) 1600 = true := fun z => ib_nI (by omega) (by decide)
    have go : Ok (f_X5_takeNumber_69 N (RR t) 3 (nI (tq τ p + td τ p)) σ2) (fun _ σ' => NbQ τ p σ σ') := by
      unfold f_X5_takeNumber_69
      refine ok_sI fun σ3 n3 u3 => ?_
      have e33 : σ3.1 3 3 = nI (tq τ p) := by rw [u3, pk_un (by decide), k2 3 (by decide)]; exact h3
      have fin : ∀ x, x = (if td τ p ≤ 4 ∧ ¬ (tq τ p + td τ p < τ.1 ∧ isL (τ.2 (tq τ p + td τ p)) = true) then 100 else 103) → Ok (f_X5_takeNumber_129 N (RR t) 3 (nI x) σ3) (fun _ σ' => NbQ τ p σ σ') := by
        intro x hx
        unfold f_X5_takeNumber_129
        refine ok_sI fun σ4 n4 u4 => ok_ret ⟨?_, by rw [u4, pk_us, hx], ?_, fun k h1 h2 h5 => ?_⟩
        · rw [u4, pk_un (by decide), u3, pk_us]
        · rw [u4, pk_un (by decide), u3, pk_un (by decide)]; exact v2
        · rw [u4, pk_un h2, u3, pk_un h1]; exact k2 k h5
      have no : ¬ (tq τ p + td τ p < τ.1 ∧ isL (τ.2 (tq τ p + td τ p)) = true) → Ok (f_X5_takeNumber_105 N (RR t) 3 (nI (tq τ p + td τ p)) σ3) (fun _ σ' => NbQ τ p σ σ') := by
        intro hn
        unfold f_X5_takeNumber_105 f_X5_takeNumber_106 f_X5_takeNumber_122
        rw [e33, pk_sub (show tq τ p ≤ tq τ p + td τ p by omega), show tq τ p + td τ p - tq τ p = td τ p by omega]
        refine ok_pos rfl ?_
        by_cases h4 : td τ p ≤ 4
        · exact ok_pos (show nI (td τ p) ≤ nI 4 from nI_le h4 (by decide)) (fin 100 (by rw [if_pos ⟨h4, hn⟩]))
        · exact ok_neg (show ¬ nI (td τ p) ≤ nI 4 from nI_ge (by omega) (by omega)) (fin 103 (by rw [if_neg (fun z => h4 z.1)]))
      rw [r_3_0 rfl, r_4_0 rfl, n3 4 (by decide), n3 5 (by decide), n2 4 (by decide), n2 5 (by decide), tx.2.1, nI_clamp (show tq τ p + td τ p < 2 ^ 31 by omega)]
      by_cases hz : τ.1 ≤ tq τ p + td τ p
      · exact ok_pos (nI_le hz (by omega)) (no (fun z => by omega))
      · have hj := tx.2.2 (tq τ p + td τ p) (by omega)
        rw [hj.2]
        refine ok_neg (nI_ge (by omega) (by omega)) (ok_gd (hib hz) (ok_let hj.1 (hib hz) (fun hlet => ?_) (fun hn => no (fun z => hn z.2))))
        unfold f_X5_takeNumber_106 f_X5_takeNumber_122
        exact ok_neg (by decide) (fin 103 (by rw [if_neg (fun z => z.2 ⟨by omega, hlet⟩)]))
    show Ok (b_X5_takeNumber_18 _ _ _ _ _ _) _
    unfold b_X5_takeNumber_18
    rw [r_3_0 rfl, r_4_0 rfl, n2 4 (by decide), n2 5 (by decide), tx.2.1, nI_clamp (show tq τ p + td τ p < 2 ^ 31 by omega)]
    by_cases hz : τ.1 ≤ tq τ p + td τ p
    · exact ok_pos (nI_le hz (by omega)) go
    · have hj := tx.2.2 (tq τ p + td τ p) (by omega)
      rw [hj.2]
      exact ok_neg (nI_ge (by omega) (by omega)) (ok_gd (hib hz) (ok_dig hj.1 (hib hz) (fun hd => absurd ⟨by omega, hd⟩ td_out) (fun _ => go)))
