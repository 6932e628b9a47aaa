/-! ROUND, SERVICE -/
def Lad (c : CDat) (b : Nat) (σ : St) : Prop := σ.1 90 65 = nI (ns c) ∧ ∀ s, s < ns c → σ.1 125 s = sv (pv c (Vc c b) s)
def Bst (c : CDat) (S : SDat) (v : Bool) (z : Int32) (i : Nat) (o : Option Nat) (σ : St) : Prop := match o with
  | none => (∀ a, a < i → ¬ VV c S v (nh c) (Vc c a)) ∧ σ.1 90 65 = z
  | some b => (b < i ∧ VV c S v (nh c) (Vc c b) ∧ ∀ a, a < i → VV c S v (nh c) (Vc c a) → PT c S (gOf v) (Vc c b) ≤ PT c S (gOf v) (Vc c a)) ∧ Lad c b σ
theorem bs_no {c : CDat} {S : SDat} {v : Bool} {z : Int32} {i : Nat} {o : Option Nat} {σ σ' : St} (h : Bst c S v z i o σ) (hn : VV c S v (nh c) (Vc c i) → ∃ b, o = some b ∧ PT c S (gOf v) (Vc c b) ≤ PT c S (gOf v) (Vc c i)) (e1 : σ'.1 90 65 = σ.1 90 65) (e2 : σ'.1 125 = σ.1 125) : Bst c S v z (i + 1) o σ' := by
  cases o with
  | none =>
    refine ⟨fun a ha hv => ?_, e1.trans h.2⟩
    by_cases e : a = i
    · subst e
      obtain ⟨b, hb, _⟩ := hn hv
      cases hb
    · exact h.1 a (by omega) hv
  | some b =>
    obtain ⟨⟨h1, h2, h3⟩, h4, h5⟩ := h
    refine ⟨⟨by omega, h2, fun a ha hv => ?_⟩, e1.trans h4, fun s hs => by rw [e2]; exact h5 s hs⟩
    by_cases e : a = i
    · subst e
      obtain ⟨b', hb, hle⟩ := hn hv
      cases hb
      exact hle
    · exact h3 a (by omega) hv
theorem bs_yes {c : CDat} {S : SDat} {v : Bool} {z : Int32} {i : Nat} {o : Option Nat} {σ σ' : St} (h : Bst c S v z i o σ) (hv : VV c S v (nh c) (Vc c i)) (hn : ∀ b, o = some b → PT c S (gOf v) (Vc c i) ≤ PT c S (gOf v) (Vc c b)) (l : Lad c i σ') : Bst c S v z (i + 1) (some i) σ' := by
  refine ⟨⟨by omega, hv, fun a ha hva => ?_⟩, l⟩
  by_cases e : a = i
  · subst e; exact Int.le_refl _
  · cases o with
    | none => exact absurd hva (h.1 a (by omega))
    | some b =>
      have := hn b rfl
      have := h.1.2.2 a (by omega) hva
      omega
def Mds (c : CDat) (S : SDat) (σ0 σ : St) : Prop := RepM c σ ∧ Air c S σ ∧ σ.1 90 27 = 0 ∧ ∀ k, k ≠ 65 → σ.1 90 k = σ0.1 90 k
theorem pow_bd {c : CDat} (wf : WfC c) : (nh c + 1) ^ ns c ≤ 16807 := by
  have hns := wf.2.1
  have hnh := wf.1
  have a : (nh c + 1) ^ ns c ≤ 7 ^ ns c := Nat.pow_le_pow_left (by omega) _
  have b : 7 ^ ns c ≤ 7 ^ 5 := Nat.pow_le_pow_right (by decide) hns
  have : (7 : Nat) ^ 5 = 16807 := by decide
  omega
theorem lay_st {N t code : Nat} {c : CDat} {S : SDat} {σ0 σ : St} (hN : 20000 ≤ N) (wf : WfC c) (hc : code < 2 ^ 30) (h : Mds c S σ0 σ) :
    Ok (f_X12_laySending N (RR t) 90 (nI code) σ) (fun r σ' => r = fl (al (rmP c (Vc c code)) (nh c)) ∧ RepA 120 c (USn c S (Vc c code)) σ' ∧ WfS c (USn c S (Vc c code)) ∧ Mds c S σ0 σ' ∧ σ'.1 90 = σ.1 90 ∧ σ'.1 125 = σ.1 125) := by
  obtain ⟨rm, ra, hx, e⟩ := h
  refine ok_mono (s_laySending hN wf hc rm ra) (fun r σ' hp => ?_)
  obtain ⟨⟨rfl, T, wT, eT, rT⟩, a⟩ := hp
  have eU := USn_cg (c := c) (V := Vc c code) eT
  have wU : WfS c (USn c S (Vc c code)) := by rw [← eU]; exact USn_wf wT
  rw [eU] at rT
  have e90 : σ'.1 90 = σ.1 90 := (a 90 (by decide)).1
  exact ⟨rfl, rT, wU, ⟨RepM_cg rm (fun p hp => (a p (by omega)).1), ⟨_, wU, rT, fun r s hr => USn_n hr⟩, by rw [e90]; exact hx, fun k hk => by rw [e90]; exact e k hk⟩, e90, (a 125 (by decide)).1⟩
theorem Mds_sm {c : CDat} {S : SDat} {σ0 σ σ' : St} (h : Mds c S σ0 σ) (a : Ag Sm σ σ') : Mds c S σ0 σ' := by
  obtain ⟨rm, ra, hx, e⟩ := h
  have e90 := s1_90 (s1_sm a)
  exact ⟨RepM_s1 rm (s1_sm a), Air_cg ra (a 120 (by unfold Sm; omega)).1, by rw [e90]; exact hx, fun k hk => by rw [e90]; exact e k hk⟩
theorem put_st {N t code : Nat} {c : CDat} {S : SDat} {σ0 σ : St} (hN : 20000 ≤ N) (wf : WfC c) (h : Mds c S σ0 σ) (ra : RepA 120 c (USn c S (Vc c code)) σ) :
    Ok (f_X12_putSending N (RR t) 90 σ) (fun _ σ' => Lad c code σ' ∧ Mds c S σ0 σ') := by
  obtain ⟨rm, rA, hx, e⟩ := h
  refine ok_mono (s_putSending hN wf rm ra) (fun r σ' hp => ?_)
  obtain ⟨p1, p2, p3, p4⟩ := hp
  refine ⟨⟨p1, fun s hs => by rw [p2 s hs, USn_3]⟩, RepM_cg2 rm (fun k hk => p3 k (by omega)) (fun p hp => p4 p (by omega) (by omega)), Air_cg rA (p4 120 (by decide) (by decide)), by rw [p3 27 (by decide)]; exact hx, fun k hk => by rw [p3 k hk]; exact e k hk⟩
def rx2 (c : CDat) (S : SDat) : Option Nat → Int32
  | none => -1
  | some b => nI (Cn c S (Vc c b))
def rx3 (c : CDat) (n : Int32) : Option Nat → Int32
  | none => n
  | some b => nI (Wk c (Vc c b))
theorem ex_f {c : CDat} {S : SDat} : ∃ a, a < (nh c + 1) ^ ns c ∧ VV c S false (nh c) (Vc c a) := by
  obtain ⟨a, ha, e⟩ := code_of (c := c) (fun _ => nh c)
  refine ⟨a, ha, VV_cg e (VV_f.mpr ((al_iff _).mpr (fun k hk => decide_eq_true ?_)))⟩
  rw [cnt_ext (n := 0) (Nat.zero_le _) (fun s _ _ => decide_eq_false (show ¬ nh c = k by omega))]
  exact Nat.zero_le _
def QR (c : CDat) (S : SDat) (a1 : Int32) (σ0 : St) (r : Int32) (σ' : St) : Prop := ∃ b, Found c S false (Vc c b) ∧ r = (if a1 = 0 then nI (Cn c S (Vc c b)) else nI (Wk c (Vc c b))) ∧ Lad c b σ' ∧ ∀ k, k ≠ 65 → σ'.1 90 k = σ0.1 90 k
def QS (c : CDat) (S : SDat) (σ0 : St) (r : Int32) (σ' : St) : Prop := ((∃ b, Found c S true (Vc c b) ∧ r = nI (Wk c (Vc c b)) ∧ Lad c b σ') ∨ ((∀ V, ¬ VV c S true (nh c) V) ∧ r = -1 ∧ σ'.1 90 65 = 0)) ∧ ∀ k, k ≠ 65 → σ'.1 90 k = σ0.1 90 k
theorem nI_m1le {n : Nat} (h : n < 2 ^ 31) : (-1 : Int32) ≤ nI n := Int32.le_trans (show (-1 : Int32) ≤ 0 by decide) (nI_pos' h)
set_option maxHeartbeats 1600000 in
theorem s_roundM {N t : Nat} {c : CDat} {S : SDat} {a1 : Int32} {σ0 : St} (hN : 20000 ≤ N) (wf : WfC c) (h0 : Mds c S σ0 σ0) :
    Ok (f_X12_round_22 N (RR t) 90 a1 N (-1) 0 0 σ0) (QR c S a1 σ0) := by
  have hns := wf.2.1
  have hnh := wf.1
  have pb := pow_bd wf
  refine lp (β := Option Nat × St) (F := fun n i b => f_X12_round_22 N (RR t) 90 a1 n (rx2 c S b.1) (rx3 c 0 b.1) (nI i) b.2) ((nh c + 1) ^ ns c) (fun i b => Mds c S σ0 b.2 ∧ Bst c S false (σ0.1 90 65) i b.1 b.2) ?_ ?_ N 0 (none, σ0) (Nat.zero_le _) (by omega) ⟨h0, fun a ha => absurd ha (by omega), rfl⟩
  · rintro n i ⟨o, σ1⟩ hi ⟨m1, b1⟩ kk
    have m1 : Mds c S σ0 σ1 := m1
    have b1 : Bst c S false (σ0.1 90 65) i o σ1 := b1
    have kk : ∀ o' σ', Mds c S σ0 σ' → Bst c S false (σ0.1 90 65) (i + 1) o' σ' → Ok (f_X12_round_22 N (RR t) 90 a1 n (rx2 c S o') (rx3 c 0 o') (nI (i + 1)) σ') (QR c S a1 σ0) := fun o' σ' h1 h2 => kk (o', σ') ⟨h1, h2⟩
    show Ok (b_X12_round_22 _ _ _ _ _ (rx2 c S o) (rx3 c 0 o) _ σ1) _
    unfold b_X12_round_22
    rw [m1.1.1, m1.1.2.1, nI_1 (nh c)]
    refine ok_bnd (s_power hN hns) (ok_neg (nI_ge hi (by omega)) (ok_call (lay_st hN wf (by omega) m1) (fun r σ2 h2 => ?_)))
    obtain ⟨rfl, rU, wU, m2, e90, e125⟩ := h2
    unfold f_X12_round_85 f_X12_round_97
    rw [nI_1 i]
    by_cases hv : al (rmP c (Vc c i)) (nh c) = true
    · have hV : VV c S false (nh c) (Vc c i) := VV_f.mpr hv
      rw [hv]
      refine ok_neg (by decide) (ok_call (s_whoFares (w := 1) (x := 0) hN rfl wf wU m2.1 rU m2.2.2.1 (by decide)) (fun r σ3 h3 => ?_))
      obtain ⟨rfl, a3⟩ := h3
      have m3 := Mds_sm m2 a3
      have rU3 := RepA_sm (Or.inr rfl) rU a3
      have f90 : σ3.1 90 = σ1.1 90 := (s1_90 (s1_sm a3)).trans e90
      have f125 : σ3.1 125 = σ1.1 125 := ((a3 125 (by unfold Sm; omega)).1).trans e125
      refine ok_bnd (s_members hN (by omega)) ?_
      rw [Cn_fare]
      have cI := Cn_le (S := S) (V := Vc c i) wf
      have wI := Wk_le (V := Vc c i) wf
      have oI' := Ord_le (V := Vc c i) wf
      have pI := PT_q (c := c) (S := S) (sv := false) (V := Vc c i)
      have qI : qOf c S false (Vc c i) = Cn c S (Vc c i) := rfl
      have skip : (∃ b, o = some b ∧ PT c S (gOf false) (Vc c b) ≤ PT c S (gOf false) (Vc c i)) → ∀ σ', σ' = σ3 → Ok (f_X12_round_22 N (RR t) 90 a1 n (rx2 c S o) (rx3 c 0 o) (nI (i + 1)) σ') (QR c S a1 σ0) := by
        rintro hb σ' rfl
        exact kk o _ m3 (bs_no b1 (fun _ => hb) (by rw [f90]) f125)
      have take : (∀ b, o = some b → PT c S (gOf false) (Vc c i) ≤ PT c S (gOf false) (Vc c b)) → Ok (bnd (f_X12_walkOf N (RR t) 90 σ3) fun r1 σ2 => bnd (f_X12_putSending N (RR t) 90 σ2) fun _ σ5 => f_X12_round_22 N (RR t) 90 a1 n (nI (Cn c S (Vc c i))) r1 (nI (i + 1)) σ5) (QR c S a1 σ0) := by
        intro hb
        refine ok_bnd (s_walkOf hN rfl wf wU m3.1 rU3) (ok_call (put_st hN wf m3 rU3) (fun _ σ4 h4 => ?_))
        rw [wlk_Wk]
        exact kk (some i) σ4 h4.2 (bs_yes b1 hV hb h4.1)
      cases o with
      | none =>
        refine ok_neg (i_nlt.mpr ?_) (ok_neg ?_ (take (fun b hb => by cases hb)))
        · show (-1 : Int32) ≤ _
          exact nI_m1le (by omega)
        · exact nI_nm1 (by omega)
      | some b =>
        have hb := b1.1
        have cB := Cn_le (S := S) (V := Vc c b) wf
        have wB := Wk_le (V := Vc c b) wf
        have oB := Ord_le (V := Vc c b) wf
        have pB := PT_q (c := c) (S := S) (sv := false) (V := Vc c b)
        have qB : qOf c S false (Vc c b) = Cn c S (Vc c b) := rfl
        have om := Ord_mono wf hb.1 hi
        rw [qI] at pI
        rw [qB] at pB
        by_cases c1 : Cn c S (Vc c i) < Cn c S (Vc c b)
        · exact ok_pos (nI_lt c1 (by omega)) (skip ⟨b, rfl, by omega⟩ _ rfl)
        · refine ok_neg (nI_nlt (by omega) (by omega)) ?_
          by_cases c2 : Cn c S (Vc c i) = Cn c S (Vc c b)
          · refine ok_pos (by rw [c2]; rfl) (ok_bnd (s_walkOf hN rfl wf wU m3.1 rU3) ?_)
            rw [wlk_Wk]
            by_cases w1 : Wk c (Vc c i) < Wk c (Vc c b)
            · exact ok_pos (nI_lt w1 (by omega)) (take (fun b' hb' => by cases hb'; omega))
            · exact ok_neg (nI_nlt (by omega) (by omega)) (skip ⟨b, rfl, by omega⟩ _ rfl)
          · exact ok_neg (fun z => c2 ((nI_eq (by omega) (by omega)).mp z)) (take (fun b' hb' => by cases hb'; omega))
    · rw [eq_false_of_ne_true hv]
      exact ok_pos rfl (kk o σ2 m2 (bs_no b1 (fun z => absurd (VV_f.mp z) hv) (by rw [e90]) e125))
  · rintro n ⟨o, σ1⟩ ⟨m1, b1⟩
    have m1 : Mds c S σ0 σ1 := m1
    have b1 : Bst c S false (σ0.1 90 65) _ o σ1 := b1
    show Ok (b_X12_round_22 _ _ _ _ _ (rx2 c S o) (rx3 c 0 o) _ σ1) _
    unfold b_X12_round_22
    rw [m1.1.1, m1.1.2.1, nI_1 (nh c)]
    refine ok_bnd (s_power hN hns) (ok_pos (Int32.le_refl _) ?_)
    cases o with
    | none =>
      obtain ⟨a, ha, hv⟩ := ex_f (c := c) (S := S)
      exact absurd hv (b1.1 a ha)
    | some b =>
      have hf := found_code b1.1.2.1 b1.1.2.2
      by_cases e : a1 = 0
      · exact ok_pos e (ok_ret ⟨b, hf, by rw [if_pos e]; rfl, b1.2, m1.2.2.2⟩)
      · exact ok_neg e (ok_ret ⟨b, hf, by rw [if_neg e]; rfl, b1.2, m1.2.2.2⟩)
set_option maxHeartbeats 1600000 in
theorem s_serviceM {N t : Nat} {c : CDat} {S : SDat} {σ0 : St} (hN : 20000 ≤ N) (wf : WfC c) (h0 : Mds c S σ0 σ0) (hz : σ0.1 90 65 = 0) :
    Ok (f_X12_service_15 N (RR t) 90 N 1000000 0 σ0) (QS c S σ0) := by
  have hns := wf.2.1
  have hnh := wf.1
  have pb := pow_bd wf
  refine lp (β := Option Nat × St) (F := fun n i b => f_X12_service_15 N (RR t) 90 n (rx3 c 1000000 b.1) (nI i) b.2) ((nh c + 1) ^ ns c) (fun i b => Mds c S σ0 b.2 ∧ Bst c S true 0 i b.1 b.2) ?_ ?_ N 0 (none, σ0) (Nat.zero_le _) (by omega) ⟨h0, fun a ha => absurd ha (by omega), hz⟩
  · rintro n i ⟨o, σ1⟩ hi ⟨m1, b1⟩ kk
    have m1 : Mds c S σ0 σ1 := m1
    have b1 : Bst c S true 0 i o σ1 := b1
    have kk : ∀ o' σ', Mds c S σ0 σ' → Bst c S true 0 (i + 1) o' σ' → Ok (f_X12_service_15 N (RR t) 90 n (rx3 c 1000000 o') (nI (i + 1)) σ') (QS c S σ0) := fun o' σ' h1 h2 => kk (o', σ') ⟨h1, h2⟩
    show Ok (b_X12_service_15 _ _ _ _ (rx3 c 1000000 o) _ σ1) _
    unfold b_X12_service_15 f_X12_service_67
    rw [m1.1.1, m1.1.2.1, nI_1 (nh c), nI_1 i]
    refine ok_bnd (s_power hN hns) (ok_neg (nI_ge hi (by omega)) (ok_call (lay_st hN wf (by omega) m1) (fun r σ2 h2 => ?_)))
    obtain ⟨rfl, rU, wU, m2, e90, e125⟩ := h2
    have wI := Wk_le (V := Vc c i) wf
    have oI' := Ord_le (V := Vc c i) wf
    have pI := PT_q (c := c) (S := S) (sv := true) (V := Vc c i)
    have qI : qOf c S true (Vc c i) = 0 := rfl
    rw [qI] at pI
    by_cases hv : al (rmP c (Vc c i)) (nh c) = true
    · rw [hv]
      refine ok_neg (by decide) (ok_bnd (s_walkOf hN rfl wf wU m2.1 rU) ?_)
      rw [wlk_Wk]
      have rest : (∀ b, o = some b → PT c S (gOf true) (Vc c i) ≤ PT c S (gOf true) (Vc c b)) → Ok (bnd (f_X12_serves N (RR t) 90 σ2) fun r14 σ15 => if r14 = 0 then f_X12_service_15 N (RR t) 90 n (rx3 c 1000000 o) (nI (i + 1)) σ15 else bnd (f_X12_walkOf N (RR t) 90 σ15) fun r18 σ19 => bnd (f_X12_putSending N (RR t) 90 σ19) fun _ σ22 => f_X12_service_15 N (RR t) 90 n r18 (nI (i + 1)) σ22) (QS c S σ0) := by
        intro hb
        refine ok_call (s_serves hN wf wU m2.1 rU m2.2.2.1) (fun r σ3 h3 => ?_)
        obtain ⟨rfl, a3⟩ := h3
        have m3 := Mds_sm m2 a3
        have rU3 := RepA_sm (Or.inr rfl) rU a3
        have f90 : σ3.1 90 = σ1.1 90 := (s1_90 (s1_sm a3)).trans e90
        have f125 : σ3.1 125 = σ1.1 125 := ((a3 125 (by unfold Sm; omega)).1).trans e125
        by_cases hs : srP c S (Vc c i) = true
        · rw [hs]
          refine ok_neg (by decide) (ok_bnd (s_walkOf hN rfl wf wU m3.1 rU3) (ok_call (put_st hN wf m3 rU3) (fun _ σ4 h4 => ?_)))
          rw [wlk_Wk]
          exact kk (some i) σ4 h4.2 (bs_yes b1 (VV_srv.mpr ⟨hv, hs⟩) hb h4.1)
        · rw [eq_false_of_ne_true hs]
          exact ok_pos rfl (kk o σ3 m3 (bs_no b1 (fun z => absurd (VV_srv.mp z).2 hs) (by rw [f90]) f125))
      cases o with
      | none => exact ok_neg (show ¬ nI 1000000 ≤ _ from nI_ge (by omega) (by decide)) (rest (fun b hb => by cases hb))
      | some b =>
        have hb := b1.1
        have wB := Wk_le (V := Vc c b) wf
        have oB := Ord_le (V := Vc c b) wf
        have pB := PT_q (c := c) (S := S) (sv := true) (V := Vc c b)
        have qB : qOf c S true (Vc c b) = 0 := rfl
        rw [qB] at pB
        have om := Ord_mono wf hb.1 hi
        by_cases w1 : Wk c (Vc c b) ≤ Wk c (Vc c i)
        · exact ok_pos (nI_le w1 (by omega)) (kk (some b) σ2 m2 (bs_no b1 (fun _ => ⟨b, rfl, by omega⟩) (by rw [e90]) e125))
        · exact ok_neg (nI_ge (by omega) (by omega)) (rest (fun b' hb' => by cases hb'; omega))
    · rw [eq_false_of_ne_true hv]
      exact ok_pos rfl (kk o σ2 m2 (bs_no b1 (fun z => absurd (VV_srv.mp z).1 hv) (by rw [e90]) e125))
  · rintro n ⟨o, σ1⟩ ⟨m1, b1⟩
    have m1 : Mds c S σ0 σ1 := m1
    have b1 : Bst c S true 0 _ o σ1 := b1
    show Ok (b_X12_service_15 _ _ _ _ (rx3 c 1000000 o) _ σ1) _
    unfold b_X12_service_15
    rw [m1.1.1, m1.1.2.1, nI_1 (nh c)]
    refine ok_bnd (s_power hN hns) (ok_pos (Int32.le_refl _) ?_)
    cases o with
    | none =>
      refine ok_pos rfl (ok_ret ⟨Or.inr ⟨fun V hV => ?_, rfl, b1.2⟩, m1.2.2.2⟩)
      obtain ⟨a, ha, e⟩ := code_of (c := c) V
      exact b1.1 a ha (VV_cg e hV)
    | some b =>
      have wB := Wk_le (V := Vc c b) wf
      exact ok_neg (fun z => absurd ((nI_eq (b := 1000000) (by omega) (by decide)).mp z) (by omega)) (ok_ret ⟨Or.inl ⟨b, found_code b1.1.2.1 b1.1.2.2, rfl, b1.2⟩, m1.2.2.2⟩)
