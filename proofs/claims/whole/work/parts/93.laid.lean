/-! SENDINGS LAID by the model -/
def lyS (c : CDat) (S : SDat) (V : Nat → Nat) (i : Nat) : SDat := fun r s => if r = 3 ∧ ns c - i ≤ s then pv c V s else S r s
theorem lyS_s {c : CDat} {S : SDat} {V : Nat → Nat} {i : Nat} (hi : i < ns c) : ∀ r s, s < ns c → lyS c S V (i + 1) r s = pu (lyS c S V i) 3 (ns c - 1 - i) (pv c V (ns c - 1 - i)) r s := by
  intro r s hs
  by_cases h : r = 3 ∧ s = ns c - 1 - i
  · obtain ⟨rfl, rfl⟩ := h
    rw [pu_s]
    unfold lyS
    rw [if_pos ⟨rfl, by omega⟩]
  · rw [pu_n h]
    unfold lyS
    by_cases hr : r = 3
    · have h1 : s ≠ ns c - 1 - i := fun z => h ⟨hr, z⟩
      have h2 : ns c - (i + 1) ≤ s ↔ ns c - i ≤ s := by omega
      simp [h2]
    · simp [hr]
def rmP (c : CDat) (V : Nat → Nat) (h : Nat) : Bool := decide (cnt (fun s => decide (V s = h)) (ns c) ≤ dt c 2 h)
theorem VV_f {c : CDat} {S : SDat} {V : Nat → Nat} : VV c S false (nh c) V ↔ al (rmP c V) (nh c) = true := by
  rw [al_iff]
  unfold VV okP rmP
  simp
theorem nI_sub1 {n : Nat} : nI n - 1 = nI n + (-1) := Int32.sub_eq_add_neg _ _
set_option maxHeartbeats 800000 in
theorem s_laySending {N t code : Nat} {c : CDat} {S : SDat} {σ : St} (hN : 20000 ≤ N) (wf : WfC c) (hc : code < 2 ^ 30) (rm : RepM c σ) (ra : Air c S σ) :
    Ok (f_X12_laySending N (RR t) 90 (nI code) σ) (fun r σ' => (r = fl (al (rmP c (Vc c code)) (nh c)) ∧ ∃ T, WfS c T ∧ (∀ r s, r ≠ 3 → T r s = S r s) ∧ RepA 120 c (USn c T (Vc c code)) σ') ∧ Ag (fun p => p = 120) σ σ') := by
  have hns := wf.2.1
  have hnh := wf.1
  obtain ⟨T, wT, rT, eT⟩ := ra
  have hm0 : 0 < nh c + 1 := by omega
  have nzm : nz (nI (nh c + 1)) = true := nz_t (nI_ne0 hm0 (by omega))
  refine ok_ag ?_ (fun r σ' e => by have := m_X12_laySending e; rw [r_90_57 rfl] at this; exact this)
  unfold f_X12_laySending
  rw [rm.2.1, nI_sub1]
  refine ok_nmd (ok_cast (b := f_X12_laySending_9 N (RR t) 90 (nI code) N (nI (code / (nh c + 1) ^ 0)) (nI (ns c - 0) + (-1)) σ) (by rw [Nat.pow_zero, Nat.div_one]; rfl) ?_)
  refine lp (F := fun n i σ' => f_X12_laySending_9 N (RR t) 90 (nI code) n (nI (code / (nh c + 1) ^ i)) (nI (ns c - i) + (-1)) σ') (ns c) (fun i σ' => RepA 120 c (lyS c T (Vc c code) i) σ' ∧ ∀ p, p ≠ 120 → σ'.1 p = σ.1 p) ?_ ?_ N 0 σ (Nat.zero_le _) (by omega) ⟨RepA_pt rT (fun r s _ hs => by unfold lyS; rw [if_neg (by omega)]) (by unfold lyS; rw [if_neg (by omega)]) (by unfold lyS; rw [if_neg (by omega)]), fun _ _ => rfl⟩
  · rintro n i σ1 hi ⟨ra1, a1⟩ kk
    have e90 : σ1.1 90 = σ.1 90 := a1 90 (by decide)
    have hq : code / (nh c + 1) ^ i % (nh c + 1) < nh c + 1 := Nat.mod_lt _ hm0
    have hrest : code / (nh c + 1) ^ i < 2 ^ 30 := Nat.lt_of_le_of_lt (Nat.div_le_self _ _) hc
    obtain ⟨j, hj⟩ : ∃ j, j = ns c - 1 - i := ⟨_, rfl⟩
    have hVj : Vc c code j = code / (nh c + 1) ^ i % (nh c + 1) := by
      unfold Vc dgt
      rw [show ns c - 1 - j = i by omega]
    have hjn : j < ns c := by omega
    have e3 : nI (ns c - i) + (-1) = nI j := by rw [show ns c - i = j + 1 by omega]; exact pk_m1 j
    show Ok (b_X12_laySending_9 _ _ _ _ _ _ _ _) _
    unfold b_X12_laySending_9
    rw [e3, e90, rm.1, nI_1 (nh c), show irem (nI (code / (nh c + 1) ^ i)) (nI (nh c + 1)) = nI (code / (nh c + 1) ^ i % (nh c + 1)) from pk_rem (by omega) hm0 (by omega), ← hVj, n15]
    refine ok_neg (nI_pos (by omega)) (ok_gd nzm (ok_nmd ?_))
    have cont : ∀ x, x = sv (pv c (Vc c code) j) → Ok (f_X12_laySending_46 N (RR t) 90 (nI code) (f_X12_laySending_9 N (RR t) 90 (nI code) n) (nI (code / (nh c + 1) ^ i)) (nI j) x (nI (15 + j)) σ1) (fun r σ' => r = fl (al (rmP c (Vc c code)) (nh c)) ∧ ∃ T, WfS c T ∧ (∀ r s, r ≠ 3 → T r s = S r s) ∧ RepA 120 c (USn c T (Vc c code)) σ') := by
      intro x hx
      unfold f_X12_laySending_46
      rw [r_90_57 rfl, nI_clamp (show 15 + j < 2 ^ 31 by omega)]
      refine ok_gd (ib_nI (by omega) (by decide)) (ok_sI fun σ2 n2 u2 => ?_)
      rw [n2 90 (by decide), e90, rm.1, nI_1 (nh c), pk_div (by omega) hm0 (by omega), Nat.div_div_eq_div_mul, ← Nat.pow_succ]
      refine ok_gd nzm (ok_nmd ?_)
      have := kk σ2 ⟨RepA_pt (RepA_w3 (v := pv c (Vc c code) j) ra1 hns (by omega) rfl u2 hx) (fun r s _ hs => by rw [hj]; exact lyS_s hi r s hs) ?_ ?_, ?_⟩
      · rw [show ns c - (i + 1) = j by omega] at this
        exact this
      · rw [pu_n (by omega)]; unfold lyS; rw [if_neg (by omega), if_neg (by omega)]
      · rw [pu_n (by omega)]; unfold lyS; rw [if_neg (by omega), if_neg (by omega)]
      · exact fun p hp => by rw [n2 p hp]; exact a1 p hp
    by_cases hd : Vc c code j = nh c
    · refine ok_pos (by rw [hd]) (cont _ ?_)
      unfold pv
      rw [if_neg (by omega)]
      rfl
    · have hv : Vc c code j < nh c := by have := Vc_lt (c := c) (code := code) (s := j); omega
      refine ok_neg (fun z => hd ((nI_eq (by omega) (by omega)).mp z)) (cont _ ?_)
      unfold pv
      rw [if_pos hv]
      rfl
  · rintro n σ1 ⟨ra1, a1⟩
    have e90 : σ1.1 90 = σ.1 90 := a1 90 (by decide)
    have rm1 : RepM c σ1 := RepM_cg rm (fun p hp => a1 p (by omega))
    have rU : RepA 120 c (USn c T (Vc c code)) σ1 := RepA_pt ra1 (fun r s _ hs => by unfold USn lyS; simp [Nat.sub_self]) (by unfold USn lyS; rw [if_neg (by decide), if_neg (by omega)]) (by unfold USn lyS; rw [if_neg (by decide), if_neg (by omega)])
    have wU : WfS c (USn c T (Vc c code)) := USn_wf wT
    show Ok (b_X12_laySending_9 _ _ _ _ _ _ _ _) _
    unfold b_X12_laySending_9
    rw [Nat.sub_self]
    refine ok_pos (by decide) ?_
    refine ok_mono (P := fun r σ' => r = fl (al (rmP c (Vc c code)) (nh c)) ∧ σ' = σ1) ?_ (fun r σ' hp => ⟨hp.1, T, wT, eT, by rw [hp.2]; exact rU⟩)
    refine lp (β := Unit) (F := fun n i _ => f_X12_laySending_67 N (RR t) 90 (nI code) n (fl (al (rmP c (Vc c code)) i)) (nI i) σ1) (nh c) (fun _ _ => True) ?_ ?_ N 0 () (Nat.zero_le _) (by omega) trivial
    · intro n i _ hi _ kk
      have k1 := kk () trivial
      have hdt : σ1.1 113 i = nI (dt c 2 i) := rm1.2.2.2.2.2.1 2 i (by decide) hi
      have d2 := (wf.2.2.1 i hi)
      show Ok (b_X12_laySending_67 _ _ _ _ _ _ _ _) _
      unfold b_X12_laySending_67 f_X12_laySending_103 f_X12_laySending_104
      rw [rm1.1, nI_1 i, r_90_38 rfl, nI_clamp (show i < 2 ^ 31 by omega)]
      refine ok_neg (nI_ge hi (by omega)) ?_
      rw [show al (rmP c (Vc c code)) (i + 1) = (al (rmP c (Vc c code)) i && rmP c (Vc c code) i) from rfl] at k1
      by_cases ha : al (rmP c (Vc c code)) i = true
      · rw [ha] at k1 ⊢
        refine ok_neg (by decide) (ok_bnd (s_sentTo hN rfl wf wU rm1 rU (by omega)) (ok_bnd (s_members hN (by omega)) (ok_gd (ib_nI (by omega) (by decide)) ?_)))
        rw [hdt, USn_at hi]
        have hcl := cnt_le (fun s => decide (Vc c code s = i)) (ns c)
        by_cases hr : rmP c (Vc c code) i = true
        · rw [hr] at k1
          have hr' := of_decide_eq_true hr
          exact ok_neg (nI_nlt hr' (by omega)) k1
        · rw [eq_false_of_ne_true hr] at k1
          have hr' : ¬ cnt (fun s => decide (Vc c code s = i)) (ns c) ≤ dt c 2 i := fun z => hr (decide_eq_true z)
          exact ok_pos (nI_lt (by omega) (by omega)) k1
      · rw [eq_false_of_ne_true ha] at k1 ⊢
        exact ok_pos rfl k1
    · intro n _ _
      show Ok (b_X12_laySending_67 _ _ _ _ _ _ _ _) _
      unfold b_X12_laySending_67
      rw [rm1.1]
      refine ok_pos (Int32.le_refl _) (ok_gd ?_ (ok_ret ⟨rfl, rfl⟩))
      unfold fl
      split <;> rfl
