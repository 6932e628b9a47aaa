/-! SENDINGS, by the class -/
theorem rom_W : ∀ k, k < 5 → romW k = nI (Wt k) := by decide +kernel
theorem s_orderOf {N n d : Nat} {ρ : Nat → Nat → Nat} {M : Int32} {p : Nat → Bool} {σ : St} (hN : 20000 ≤ N) (hn : n ≤ 5) (hM : ∀ k, k < n → (M >>> (nI k &&& 31)) &&& 1 = if p k = true then 1 else 0) : f_X8_orderOf N ρ (nI n) M (nI d) σ = some (nI (sumN (fun s => if p s = true then d * Wt s else 0) n), σ) := by
  refine ok_is ?_
  refine lp (β := Unit) (F := fun m k _ => f_X8_orderOf_5 N ρ (nI n) M (nI d) m (nI (sumN (fun s => if p s = true then d * Wt s else 0) k)) (nI k) σ) n (fun _ _ => True) ?_ ?_ N 0 () (Nat.zero_le _) (by omega) trivial
  · intro m k _ hk _ kk
    have k3 := kk () trivial
    show Ok (b_X8_orderOf_5 _ _ _ _ _ _ _ _ _) _
    unfold b_X8_orderOf_5 f_X8_orderOf_40
    rw [hM k hk, nI_clamp (show k < 2 ^ 31 by omega), rom_W k (by omega), pk_mul, nI_1 k, nI_add]
    refine ok_neg (nI_ge hk (by omega)) (ok_neg (show ¬ nI 5 ≤ nI k from nI_ge (by omega) (by decide)) ?_)
    rw [sumN] at k3
    by_cases hp : p k = true
    · rw [if_pos hp] at k3 ⊢
      exact ok_neg (by decide) (ok_gd (ib_nI (by omega) (by decide)) (ok_nmd k3))
    · rw [if_neg hp] at k3 ⊢
      exact ok_pos rfl k3
  · intro m _ _
    show Ok (b_X8_orderOf_5 _ _ _ _ _ _ _ _ _) _
    unfold b_X8_orderOf_5 f_X8_orderOf_46
    exact ok_pos (Int32.le_refl _) (ok_ret ⟨rfl, rfl⟩)
def gOf (sv : Bool) : Int := if sv = true then 0 else 8403500
theorem gOf_ok {sv : Bool} : okG (gOf sv) := by
  cases sv
  · exact Or.inr rfl
  · exact Or.inl rfl
def prI (c : CDat) (S : SDat) (sv : Bool) (h Y : Nat) : Int32 := if okP c S sv h (fun s => Y.testBit s) = true then iI (prz c S (gOf sv) h (fun s => Y.testBit s)) else 1000000000
def Bear (c : CDat) (S : SDat) (h : Nat) (σ : St) : Prop := ∀ m, 1 ≤ m → m ≤ dt c 2 h → σ.1 59 m = bits (fun s => true && decide (ld c S s h m 0 ≤ nI (S 0 s))) (ns c)
set_option maxHeartbeats 1600000 in
theorem s_priceOf {N t h Y : Nat} {c : CDat} {S : SDat} {sv : Bool} {σ : St} (hN : 20000 ≤ N) (ht : isT t) (wf : WfC c) (rc : RepC t c σ) (hb : Bear c S h σ) (hh : h < nh c) (h1 : 1 ≤ Y) (hY : Y < 2 ^ ns c) : f_X8_priceOf N (RR t) 55 t (nI h) (nI Y) (fl sv) σ = some (prI c S sv h Y, σ) := by
  have hns := wf.2.1
  have hnh := wf.1
  have pm := pow_mono hns
  have Y64 : Y < 64 := by omega
  have d2 := (wf.2.2.1 h hh).2.2.2.1
  have hcn : cnt (fun s => Y.testBit s) (ns c) = pcn Y := pcn_tb (by omega) hY
  have hp0 := pcn_pos Y Y64 h1
  have hp5 : pcn Y ≤ 5 := by rw [← hcn]; exact Nat.le_trans (cnt_le _ _) hns
  refine ok_is ?_
  unfold f_X8_priceOf f_X8_priceOf_27
  rw [rt2 rfl ht, r_55_3 rfl, nI_clamp (show h < 2 ^ 31 by omega)]
  refine ok_bnd (s_bcN Y64) (ok_gd (ib_nI (by omega) (by decide)) ?_)
  rw [show σ.1 (t + 3) h = nI (dt c 2 h) from rc.2.2.2.2.2.1 2 h (by decide) hh]
  unfold prI okP
  rw [hcn]
  by_cases hr : pcn Y ≤ dt c 2 h
  · refine ok_neg (nI_nlt hr (by omega)) (ok_pos (nI_lt (by omega) (by decide)) (ok_bnd (by rw [nI_tb Y64]; exact s_quarrelIn hN rfl ht wf rc (show ns c ≤ 6 by omega) (by decide)) ?_))
    have go71 : ∀ ctv : Nat, ctv = ct c S h (fun s => Y.testBit s) → Ok (f_X8_priceOf_71 N (RR t) 55 t (nI h) (nI Y) (fl sv) (nI ctv) σ) (fun r σ' => r = iI (prz c S (gOf sv) h (fun s => Y.testBit s)) ∧ σ' = σ) := by
      intro ctv hc
      refine lp (β := Unit) (F := fun n k _ => f_X8_priceOf_77 N (RR t) 55 t (nI h) (nI Y) (fl sv) n (nI ctv) (nI (sumN (fun s => if Y.testBit s = true then wy c s h else 0) k)) (nI k) σ) (ns c) (fun _ _ => True) ?_ ?_ N 0 () (Nat.zero_le _) (by omega) trivial
      · intro n k _ hk _ kk
        have k3 := kk () trivial
        show Ok (b_X8_priceOf_77 _ _ _ _ _ _ _ _ _ _ _ _) _
        unfold b_X8_priceOf_77 f_X8_priceOf_107
        have hbit : (nI Y >>> (nI k &&& 31)) &&& 1 = if Y.testBit k = true then 1 else 0 := by rw [nI_tb Y64]; exact bits_in (by decide) (by omega)
        rw [rc.2.1, hbit, nI_1 k]
        refine ok_neg (nI_ge hk (by omega)) ?_
        rw [sumN] at k3
        by_cases hy : Y.testBit k = true
        · rw [if_pos hy] at k3 ⊢
          refine ok_neg (by decide) (ok_bnd (s_wayC rfl ht wf rc hk hh) (ok_nmd ?_))
          rw [nI_add]
          exact k3
        · rw [if_neg hy] at k3 ⊢
          exact ok_pos rfl k3
      · intro n _ _
        show Ok (b_X8_priceOf_77 _ _ _ _ _ _ _ _ _ _ _ _) _
        unfold b_X8_priceOf_77 f_X8_priceOf_127
        rw [rc.2.1]
        have hbit : ∀ k, k < ns c → (nI Y >>> (nI k &&& 31)) &&& 1 = if Y.testBit k = true then 1 else 0 := fun k hk => by rw [nI_tb Y64]; exact bits_in (by decide) (by omega)
        have ord := s_orderOf (N := N) (ρ := RR t) (d := h) (p := fun s => Y.testBit s) (σ := σ) hN hns hbit
        refine ok_pos (Int32.le_refl _) ?_
        have ew : nI (sumN (fun s => if Y.testBit s = true then wy c s h else 0) (ns c)) = iI (wk c h (fun s => Y.testBit s) : Int) := (iI_n _).symm
        have eo : nI (sumN (fun s => if Y.testBit s = true then h * Wt s else 0) (ns c)) = iI (od c h (fun s => Y.testBit s) : Int) := (iI_n _).symm
        have e1 : (16807 : Int32) = iI 16807 := by decide
        have e2 : (8403500 : Int32) = iI 8403500 := by decide
        have e3 : (0 : Int32) = iI 0 := by decide
        unfold prz
        cases sv with
        | false =>
          refine ok_pos rfl (ok_bnd ord (ok_ret ⟨?_, rfl⟩))
          rw [ew, eo, e1, e2, show nI ctv = iI (ctv : Int) from (iI_n _).symm, iI_mul, iI_mul, iI_sub, iI_add, hc, show gOf false = 8403500 from rfl, Int.mul_comm (ct c S h (fun s => Y.testBit s) : Int) 8403500]
        | true =>
          refine ok_neg (by decide) (ok_bnd ord (ok_ret ⟨?_, rfl⟩))
          rw [ew, eo, e1, e3, iI_mul, iI_sub, iI_add, show gOf true = 0 from rfl, Int.zero_mul]
    have go54 : ∀ ctv : Nat, ctv = ct c S h (fun s => Y.testBit s) → Ok (f_X8_priceOf_54 N (RR t) 55 t (nI h) (nI Y) (fl sv) (nI (pcn Y)) (nI ctv) σ) (fun r σ' => r = (if (decide (pcn Y ≤ dt c 2 h) && (!sv || (decide (1 ≤ pcn Y) && decide (ct c S h (fun s => Y.testBit s) = pcn Y)))) = true then iI (prz c S (gOf sv) h (fun s => Y.testBit s)) else 1000000000) ∧ σ' = σ) := by
      intro ctv hc
      have cl := ct_le (S := S) (h := h) (p := fun s => Y.testBit s) wf
      unfold f_X8_priceOf_54
      cases sv with
      | false =>
        refine ok_pos rfl (ok_mono (go71 ctv hc) (fun r σ' hp => ⟨?_, hp.2⟩))
        rw [hp.1]
        simp [hr]
      | true =>
        refine ok_neg (by decide) ?_
        by_cases he : ctv = pcn Y
        · refine ok_pos (by rw [he]) (ok_mono (go71 ctv hc) (fun r σ' hp => ⟨?_, hp.2⟩))
          rw [hp.1]
          have : 1 ≤ pcn Y := hp0
          simp [hr, ← hc, he, this]
        · refine ok_neg (fun z => he ((nI_eq (by omega) (by omega)).mp z)) (ok_ret ⟨?_, rfl⟩)
          simp [← hc, he]
    by_cases hq : qn (dt c 6) (tb1 Y) (ns c) = true
    · rw [if_pos hq]
      exact ok_neg (by decide) (go54 0 (by unfold ct; rw [if_pos (show qn (dt c 6) (fun s => Y.testBit s) (ns c) = true from hq)]))
    · rw [if_neg hq]
      refine ok_pos rfl (ok_gd (ib_nI (by omega) (by decide)) ?_)
      rw [nI_clamp (show pcn Y < 2 ^ 31 by omega), hb (pcn Y) hp0 hr]
      have hbc : f_J6_bitCount_0f7a4 N (RR t) (bits (fun s => true && decide (ld c S s h (pcn Y) 0 ≤ nI (S 0 s))) (ns c) &&& nI Y) σ = some (nI (cnt (fun s => (true && decide (ld c S s h (pcn Y) 0 ≤ nI (S 0 s))) && (decide (s < 6) && tb1 Y s)) (ns c)), σ) := by
        rw [nI_tb Y64, bits_and (by omega) (by decide)]
        exact s_bitCount (by omega)
      refine ok_bnd hbc (go54 _ ?_)
      unfold ct
      rw [if_neg (show ¬ qn (dt c 6) (fun s => Y.testBit s) (ns c) = true from hq), hcn]
      refine cnt_cg (fun s hs => ?_)
      have : s < 6 := by omega
      simp only [this, decide_true, Bool.true_and]
      exact Bool.and_comm _ _
  · refine ok_pos (nI_lt (by omega) (by omega)) (ok_ret ⟨?_, rfl⟩)
    rw [if_neg (by simp [hr])]
theorem allbits {n : Nat} (h : n ≤ 6) : nI (2 ^ n) - 1 = bits (fun _ => true) n := by rw [← pow_bits n h, bits_all n h]
def SX (p : Nat) : Prop := 55 ≤ p ∧ p ≤ 60
set_option maxHeartbeats 1600000 in
theorem s_priceSets {N t h : Nat} {c : CDat} {S : SDat} {sv : Bool} {σ : St} (hN : 20000 ≤ N) (ht : isT t) (wf : WfC c) (rc : RepC t c σ) (rs : RepS 41 c S σ) (hh : h < nh c) :
    Ok (f_X8_priceSets N (RR t) 55 t 41 (nI h) (nI (2 ^ ns c)) (fl sv) σ) (fun _ σ' => RepC t c σ' ∧ RepS 41 c S σ' ∧ (∀ Y, Y < 2 ^ ns c → σ'.1 58 Y = prI c S sv h Y) ∧ σ'.1 56 = σ.1 56) := by
  have hns := wf.2.1
  have hnh := wf.1
  have tl := isT_le ht
  have pm := pow_mono hns
  have d2 := (wf.2.2.1 h hh).2.2.2.1
  have d2' := (wf.2.2.1 h hh).2.2.1
  unfold f_X8_priceSets
  refine ok_cast (b := f_X8_priceSets_3 N (RR t) 55 t 41 (nI h) (nI (2 ^ ns c)) (fl sv) N (nI 1) σ) rfl ?_
  refine lp (F := fun n m σ' => f_X8_priceSets_3 N (RR t) 55 t 41 (nI h) (nI (2 ^ ns c)) (fl sv) n (nI m) σ') (dt c 2 h + 1) (fun m σ' => 1 ≤ m ∧ RepC t c σ' ∧ RepS 41 c S σ' ∧ (∀ m', 1 ≤ m' → m' < m → σ'.1 59 m' = bits (fun s => true && decide (ld c S s h m' 0 ≤ nI (S 0 s))) (ns c)) ∧ σ'.1 56 = σ.1 56) ?_ ?_ N 1 σ (by omega) (by omega) ⟨Nat.le_refl _, rc, rs, fun m' h1 h2 => absurd h2 (by omega), rfl⟩
  · rintro n m σ1 hm ⟨m1, rc1, rs1, b1, e1⟩ kk
    show Ok (b_X8_priceSets_3 _ _ _ _ _ _ _ _ _ _ _) _
    unfold b_X8_priceSets_3
    rw [rt2 rfl ht, r_55_3 rfl, nI_clamp (show h < 2 ^ 31 by omega), nI_clamp (show m < 2 ^ 31 by omega), show σ1.1 (t + 3) h = nI (dt c 2 h) from rc1.2.2.2.2.2.1 2 h (by decide) hh, allbits (by omega), nI_1 m]
    refine ok_gd (ib_nI (by omega) (by decide)) (ok_neg (nI_nlt (by omega) (by omega)) (ok_neg (nI_ge (by omega) (by decide)) (ok_call (s_bearing (m := m) hN rfl ht q41 wf rc1 rs1 hh (Nat.le_refl _) (by omega) (by omega) (Or.inl (by omega))) (fun r σ2 h2 => ok_gd (ib_nI (by omega) (by decide)) (ok_sI fun σ3 n3 u3 => ?_)))))
    refine kk σ3 ⟨by omega, RepC_cg (RepC_sc rc1 h2.2) (fun p _ _ _ => n3 p (by omega)), RepS_cg (RepS_sc ht q41 rs1 h2.2) (fun p _ _ => n3 p (by omega)), fun m' h3 h4 => ?_, by rw [n3 56 (by decide), (h2.2 56 (by unfold Sc; omega)).1]; exact e1⟩
    rw [u3]
    by_cases em : m' = m
    · subst em; rw [pk_us, h2.1]
    · rw [pk_un em, (h2.2 59 (by unfold Sc; omega)).1]; exact b1 m' h3 (by omega)
  · rintro n σ1 ⟨m1, rc1, rs1, b1, e1⟩
    have hB : Bear c S h σ1 := fun m h1 h2 => b1 m h1 (by omega)
    show Ok (b_X8_priceSets_3 _ _ _ _ _ _ _ _ _ _ _) _
    unfold b_X8_priceSets_3
    rw [rt2 rfl ht, nI_clamp (show h < 2 ^ 31 by omega), show σ1.1 (t + 3) h = nI (dt c 2 h) from rc1.2.2.2.2.2.1 2 h (by decide) hh]
    refine ok_gd (ib_nI (by omega) (by decide)) (ok_pos (nI_lt (by omega) (by omega)) ?_)
    have c0 : cnt (fun s => (0 : Nat).testBit s) (ns c) = 0 := cnt_ext (n := 0) (Nat.zero_le _) (fun k _ _ => Nat.zero_testBit k)
    have fin : ∀ x : Int32, x = prI c S sv h 0 → Ok (f_X8_priceSets_66 N (RR t) 55 t 41 (nI h) (nI (2 ^ ns c)) (fl sv) x 0 σ1) (fun _ σ' => RepC t c σ' ∧ RepS 41 c S σ' ∧ (∀ Y, Y < 2 ^ ns c → σ'.1 58 Y = prI c S sv h Y) ∧ σ'.1 56 = σ.1 56) := by
      intro x hx
      unfold f_X8_priceSets_66
      rw [r_55_2 rfl]
      refine ok_gd rfl (ok_sI fun σ2 n2 u2 => ?_)
      refine ok_cast (b := f_X8_priceSets_70 N (RR t) 55 t 41 (nI h) (nI (2 ^ ns c)) (fl sv) N (nI 1) σ2) rfl ?_
      refine lp (F := fun n Y σ' => f_X8_priceSets_70 N (RR t) 55 t 41 (nI h) (nI (2 ^ ns c)) (fl sv) n (nI Y) σ') (2 ^ ns c) (fun Y σ' => 1 ≤ Y ∧ RepC t c σ' ∧ RepS 41 c S σ' ∧ Bear c S h σ' ∧ (∀ Z, Z < Y → σ'.1 58 Z = prI c S sv h Z) ∧ σ'.1 56 = σ.1 56) ?_ ?_ N 1 σ2 (by omega) (by omega) ⟨Nat.le_refl _, RepC_cg rc1 (fun p _ _ _ => n2 p (by omega)), RepS_cg rs1 (fun p _ _ => n2 p (by omega)), fun m h1 h2 => by rw [n2 59 (by decide)]; exact hB m h1 h2, fun Z hZ => ?_, by rw [n2 56 (by decide)]; exact e1⟩
      · rintro n2' Y σ3 hY ⟨y1, rc3, rs3, b3, p3, e3⟩ kk
        show Ok (b_X8_priceSets_70 _ _ _ _ _ _ _ _ _ _ _) _
        unfold b_X8_priceSets_70
        rw [r_55_2 rfl, nI_clamp (show Y < 2 ^ 31 by omega), nI_1 Y]
        refine ok_neg (nI_ge hY (by omega)) (ok_bnd (s_priceOf hN ht wf rc3 b3 hh y1 hY) (ok_gd (ib_nI (by omega) (by decide)) (ok_sI fun σ4 n4 u4 => ?_)))
        refine kk σ4 ⟨by omega, RepC_cg rc3 (fun p _ _ _ => n4 p (by omega)), RepS_cg rs3 (fun p _ _ => n4 p (by omega)), fun m h1 h2 => by rw [n4 59 (by decide)]; exact b3 m h1 h2, fun Z hZ => ?_, by rw [n4 56 (by decide)]; exact e3⟩
        rw [u4]
        by_cases eZ : Z = Y
        · subst eZ; rw [pk_us]
        · rw [pk_un eZ]; exact p3 Z (by omega)
      · rintro n2' σ3 ⟨y1, rc3, rs3, b3, p3, e3⟩
        show Ok (b_X8_priceSets_70 _ _ _ _ _ _ _ _ _ _ _) _
        unfold b_X8_priceSets_70
        exact ok_pos (Int32.le_refl _) (ok_ret ⟨rc3, rs3, p3, e3⟩)
      · have : Z = 0 := by omega
        subst this
        rw [u2, hx]
        exact pk_us
    unfold f_X8_priceSets_50
    cases sv with
    | false =>
      refine ok_pos rfl (fin 0 ?_)
      unfold prI okP prz wk ct od
      rw [c0]
      have w0 : sumN (fun s => if (0 : Nat).testBit s = true then wy c s h else 0) (ns c) = 0 := sumN_0 (fun s _ => by rw [Nat.zero_testBit]; rfl)
      have o0 : sumN (fun s => if (0 : Nat).testBit s = true then h * Wt s else 0) (ns c) = 0 := sumN_0 (fun s _ => by rw [Nat.zero_testBit]; rfl)
      have k0 : cnt (fun s => (0 : Nat).testBit s && decide (ld c S s h 0 0 ≤ nI (S 0 s))) (ns c) = 0 := cnt_ext (n := 0) (Nat.zero_le _) (fun k _ _ => by rw [Nat.zero_testBit]; rfl)
      rw [w0, o0, k0, ite_self]
      simp [gOf]
      rfl
    | true =>
      refine ok_neg (by decide) (fin _ ?_)
      unfold prI okP
      rw [c0]
      simp
def Dvs (c : CDat) (S : SDat) (sv : Bool) (h : Nat) (w : Nat → Int32) : Prop := ∀ X, X < 2 ^ ns c → MinOf (CV c S sv (gOf sv) h X) (w X)
theorem Dvs_ex {c : CDat} {S : SDat} {sv : Bool} {h : Nat} {w : Nat → Int32} (wf : WfC c) (hh : h ≤ nh c) (d : Dvs c S sv h w) : ∀ Z, Z < 2 ^ ns c → (∃ z, CV c S sv (gOf sv) h Z z) → ∃ z, CV c S sv (gOf sv) h Z z ∧ ∀ z', CV c S sv (gOf sv) h Z z' → z ≤ z' := by
  rintro Z hZ ⟨z, hz⟩
  rcases d Z hZ with ⟨_, h2⟩ | ⟨z0, _, h2, h3⟩
  · exact absurd hz (h2 z)
  · exact ⟨z0, h2, h3⟩
set_option maxHeartbeats 1600000 in
theorem s_goOn {N t h : Nat} {c : CDat} {S : SDat} {sv : Bool} {σ : St} (hN : 20000 ≤ N) (ht : isT t) (wf : WfC c) (rc : RepC t c σ) (rs : RepS 41 c S σ) (hh : h < nh c) (hp : ∀ Y, Y < 2 ^ ns c → σ.1 58 Y = prI c S sv h Y) (hd : Dvs c S sv h (σ.1 56)) :
    Ok (f_X8_goOnWithHearth N (RR t) 55 (nI (2 ^ ns c)) σ) (fun _ σ' => RepC t c σ' ∧ RepS 41 c S σ' ∧ Dvs c S sv (h + 1) (σ'.1 56)) := by
  have hns := wf.2.1
  have hnh := wf.1
  have tl := isT_le ht
  have pm := pow_mono hns
  unfold f_X8_goOnWithHearth
  rw [r_55_0 rfl, r_55_1 rfl]
  refine ok_gd rfl (ok_cpy fun σ1 n1 w1 => ?_)
  have c57 : ∀ j, j < 32 → σ1.1 57 j = σ.1 56 j := fun j hj => by
    rw [w1 j, if_pos ⟨Nat.zero_le _, by show j < 0 + 32; omega⟩]
    show σ.1 56 (0 + (j - 0)) = _
    rw [Nat.zero_add, Nat.sub_zero]
  refine lp (F := fun n X σ' => f_X8_goOnWithHearth_17 N (RR t) 55 (nI (2 ^ ns c)) n (nI X) σ') (2 ^ ns c) (fun X σ' => RepC t c σ' ∧ RepS 41 c S σ' ∧ (∀ j, j < 32 → σ'.1 57 j = σ.1 56 j) ∧ σ'.1 58 = σ.1 58 ∧ ∀ Z, Z < X → MinOf (CV c S sv (gOf sv) (h + 1) Z) (σ'.1 56 Z)) ?_ ?_ N 0 σ1 (Nat.zero_le _) (by omega) ⟨RepC_cg rc (fun p _ _ _ => n1 p (by omega)), RepS_cg rs (fun p _ _ => n1 p (by omega)), c57, n1 58 (by decide), fun Z hZ => absurd hZ (by omega)⟩
  · rintro n X σ2 hX ⟨rc2, rs2, b2, p2, d2⟩ kk
    have X32 : X < 32 := by omega
    show Ok (b_X8_goOnWithHearth_17 _ _ _ _ _ _ _) _
    unfold b_X8_goOnWithHearth_17
    rw [r_55_0 rfl, nI_clamp (show X < 2 ^ 31 by omega)]
    refine ok_neg (nI_ge hX (by omega)) (ok_gd (ib_nI (by omega) (by decide)) (ok_sI fun σ3 n3 u3 => ?_))
    refine lp (F := fun n' Y σ' => f_X8_goOnWithHearth_32 N (RR t) 55 (nI (2 ^ ns c)) (f_X8_goOnWithHearth_17 N (RR t) 55 (nI (2 ^ ns c)) n) n' (nI X) (nI Y) σ') (X + 1) (fun Y σ' => RepC t c σ' ∧ RepS 41 c S σ' ∧ (∀ j, j < 32 → σ'.1 57 j = σ.1 56 j) ∧ σ'.1 58 = σ.1 58 ∧ (∀ Z, Z < X → MinOf (CV c S sv (gOf sv) (h + 1) Z) (σ'.1 56 Z)) ∧ MinOf (Cnd c S sv (gOf sv) h X Y) (σ'.1 56 X)) ?_ ?_ N 0 σ3 (Nat.zero_le _) (by omega) ⟨RepC_cg rc2 (fun p _ _ _ => n3 p (by omega)), RepS_cg rs2 (fun p _ _ => n3 p (by omega)), fun j hj => by rw [n3 57 (by decide)]; exact b2 j hj, by rw [n3 58 (by decide)]; exact p2, fun Z hZ => by rw [u3, pk_un (by omega)]; exact d2 Z hZ, Or.inl ⟨by rw [u3, pk_us], fun z hz => by obtain ⟨Y, hY, _⟩ := hz; omega⟩⟩
    · rintro n' Y σ4 hY ⟨rc4, rs4, b4, p4, d4, m4⟩ k2
      have Y32 : Y < 32 := by omega
      have dle := dfm_2 X X32 Y Y32
      have dX : dfm X Y < 2 ^ ns c := by omega
      show Ok (b_X8_goOnWithHearth_32 _ _ _ _ _ _ _ _ _) _
      unfold b_X8_goOnWithHearth_32 f_X8_goOnWithHearth_50 f_X8_goOnWithHearth_115
      rw [dfm_1 Y Y32 X X32, r_55_0 rfl, r_55_1 rfl, r_55_2 rfl, dfm_1 X X32 Y Y32, nI_clamp (show Y < 2 ^ 31 by omega), nI_clamp (show X < 2 ^ 31 by omega), nI_clamp (show dfm X Y < 2 ^ 31 by omega), nI_1 Y, p4, hp Y (by omega), b4 (dfm X Y) (by omega)]
      refine ok_neg (nI_nlt (by omega) (by omega)) ?_
      have skip : (¬ (dfm Y X = 0 ∧ okP c S sv h (fun s => Y.testBit s) = true ∧ ∃ z0, CV c S sv (gOf sv) h (dfm X Y) z0)) → Ok (f_X8_goOnWithHearth_32 N (RR t) 55 (nI (2 ^ ns c)) (f_X8_goOnWithHearth_17 N (RR t) 55 (nI (2 ^ ns c)) n) n' (nI X) (nI (Y + 1)) σ4) (fun _ σ' => RepC t c σ' ∧ RepS 41 c S σ' ∧ Dvs c S sv (h + 1) (σ'.1 56)) := by
        intro hno
        refine k2 σ4 ⟨rc4, rs4, b4, p4, d4, mn_cg m4 (fun z => ?_)⟩
        constructor
        · rintro ⟨Z, hZ, r⟩
          exact ⟨Z, by omega, r⟩
        · rintro ⟨Z, hZ, q1, q2, z0, q3, q4, q5⟩
          by_cases eZ : Z = Y
          · subst eZ
            exact absurd ⟨q1, q2, z0, q3⟩ hno
          · exact ⟨Z, by omega, q1, q2, z0, q3, q4, q5⟩
      by_cases h0 : dfm Y X = 0
      · refine ok_pos (by rw [h0]; rfl) (ok_neg (by decide) (ok_gd (ib_nI (by omega) (by decide)) ?_))
        by_cases hok : okP c S sv h (fun s => Y.testBit s) = true
        · have epr : prI c S sv h Y = iI (prz c S (gOf sv) h (fun s => Y.testBit s)) := by unfold prI; rw [if_pos hok]
          have pb := prz_bd (S := S) (p := fun s => Y.testBit s) wf (gOf_ok (sv := sv)) hh
          rw [epr]
          refine ok_neg (iI_nv (by omega) (by omega)) (ok_gd (ib_nI (by omega) (by decide)) ?_)
          have dv := hd (dfm X Y) dX
          by_cases hnv : σ.1 56 (dfm X Y) = 1000000000
          · refine ok_pos hnv (skip ?_)
            rintro ⟨_, _, z0, hz0⟩
            exact mn_nv dv (CV_B wf gOf_ok (by omega)) hnv z0 hz0
          · obtain ⟨z0, q1, q2, q3⟩ := mn_some dv hnv
            have cb := CV_bd wf (gOf_ok (sv := sv)) (show h ≤ nh c by omega) z0 q2
            refine ok_neg hnv (ok_gd (ib_nI (by omega) (by decide)) (ok_gd (ib_nI (by omega) (by decide)) (ok_gd (ib_nI (by omega) (by decide)) (ok_gd (ib_nI (by omega) (by decide)) (ok_sI fun σ5 n5 u5 => ?_)))))
            rw [q1, iI_add] at u5
            refine k2 σ5 ⟨RepC_cg rc4 (fun p _ _ _ => n5 p (by omega)), RepS_cg rs4 (fun p _ _ => n5 p (by omega)), fun j hj => by rw [n5 57 (by decide)]; exact b4 j hj, by rw [n5 58 (by decide)]; exact p4, fun Z hZ => by rw [u5, pk_un (by omega)]; exact d4 Z hZ, ?_⟩
            rw [u5, pk_us]
            have bC : BdC (Cnd c S sv (gOf sv) h X Y) := by
              rintro z ⟨Z, hZ, _, _, z1, g1, _, rfl⟩
              have a1 := CV_bd wf (gOf_ok (sv := sv)) (show h ≤ nh c by omega) z1 g1
              have a2 := prz_bd (S := S) (p := fun s => Z.testBit s) wf (gOf_ok (sv := sv)) hh
              omega
            refine mn_cg (mn_add m4 bC (z1 := z0 + prz c S (gOf sv) h (fun s => Y.testBit s)) (by omega) (by omega)) (fun z => ?_)
            constructor
            · rintro (⟨Z, hZ, r⟩ | rfl)
              · exact ⟨Z, by omega, r⟩
              · exact ⟨Y, by omega, h0, hok, z0, q2, q3, rfl⟩
            · rintro ⟨Z, hZ, g1, g2, z1, g3, g4, g5⟩
              by_cases eZ : Z = Y
              · subst eZ
                right
                have : z1 = z0 := by
                  have a := g4 z0 q2
                  have b := q3 z1 g3
                  omega
                rw [g5, this]
              · exact Or.inl ⟨Z, by omega, g1, g2, z1, g3, g4, g5⟩
        · have epr : prI c S sv h Y = 1000000000 := by unfold prI; rw [if_neg hok]
          rw [epr]
          exact ok_pos rfl (skip (fun z => hok z.2.1))
      · exact ok_neg (fun z => h0 ((nI_eq (show dfm Y X < 2 ^ 31 by have := dfm_2 Y Y32 X X32; omega) (show 0 < 2 ^ 31 by decide)).mp z)) (ok_pos rfl (skip (fun z => h0 z.1)))
    · rintro n' σ4 ⟨rc4, rs4, b4, p4, d4, m4⟩
      show Ok (b_X8_goOnWithHearth_32 _ _ _ _ _ _ _ _ _) _
      unfold b_X8_goOnWithHearth_32
      rw [nI_1 X]
      refine ok_pos (nI_lt (by omega) (by omega)) (kk σ4 ⟨rc4, rs4, b4, p4, fun Z hZ => ?_⟩)
      by_cases eZ : Z = X
      · subst eZ
        exact cnd_all wf hX m4 (Dvs_ex wf (by omega) hd)
      · exact d4 Z (by omega)
  · rintro n σ2 ⟨rc2, rs2, b2, p2, d2⟩
    show Ok (b_X8_goOnWithHearth_17 _ _ _ _ _ _ _) _
    unfold b_X8_goOnWithHearth_17
    exact ok_pos (Int32.le_refl _) (ok_ret ⟨rc2, rs2, d2⟩)
