/-! CHANGE -/
def exS (S : SDat) (a b : Nat) : SDat := pu (pu S 3 a (S 3 b)) 3 b (S 3 a)
def cnE (c : CDat) (S : SDat) (a b : Nat) : Nat := cnt (fun s => decide (fare c (exS S a b) 0 s = 1)) (ns c)
abbrev ChT : Type := Nat × Option (Nat × Nat)
def chS (c : CDat) (S : SDat) (st : ChT) (a b : Nat) : ChT := if cnE c S a b ≤ st.1 then st else (cnE c S a b, some (a, b))
def chI (c : CDat) (S : SDat) (a : Nat) (st : ChT) : Nat → ChT
  | 0 => st
  | j + 1 => if a < j then chS c S (chI c S a st j) a j else chI c S a st j
def chO (c : CDat) (S : SDat) (m0 : Nat) : Nat → ChT
  | 0 => (m0, none)
  | i + 1 => chI c S i (chO c S m0 i) (ns c)
def chB (st : ChT) : Prop := st.1 ≤ 5 ∧ ∀ q, st.2 = some q → q.1 < 5 ∧ q.2 < 5
def chx (st : ChT) : Int32 := match st.2 with
  | none => -1
  | some q => nI q.1
def chy (st : ChT) : Int32 := match st.2 with
  | none => -1
  | some q => nI q.2
def chz (st : ChT) : Int32 := match st.2 with
  | none => -1
  | some q => nI (5 * q.1 + q.2)
theorem chI_0 {c : CDat} {S : SDat} {a : Nat} {st : ChT} : ∀ j, j ≤ a + 1 → chI c S a st j = st
  | 0, _ => rfl
  | j + 1, h => by
    rw [chI, if_neg (by omega)]
    exact chI_0 j (by omega)
theorem chI_s {c : CDat} {S : SDat} {a j : Nat} {st : ChT} (h : a < j) : chI c S a st (j + 1) = chS c S (chI c S a st j) a j := by rw [chI, if_pos h]
theorem cnE_le {c : CDat} {S : SDat} {a b : Nat} (wf : WfC c) : cnE c S a b ≤ 5 := Nat.le_trans (cnt_le _ _) wf.2.1
theorem chS_B {c : CDat} {S : SDat} {st : ChT} {a b : Nat} (wf : WfC c) (h : chB st) (ha : a < 5) (hb : b < 5) : chB (chS c S st a b) := by
  unfold chS
  by_cases z : cnE c S a b ≤ st.1
  · rw [if_pos z]; exact h
  · rw [if_neg z]
    exact ⟨cnE_le wf, fun q hq => by cases hq; exact ⟨ha, hb⟩⟩
theorem exS_wf {c : CDat} {S : SDat} {a b : Nat} (ws : WfS c S) (ha : a < ns c) (hb : b < ns c) : WfS c (exS S a b) := pu3_wf (pu3_wf ws (ws.1 b hb).2.2.2) (ws.1 a ha).2.2.2
set_option maxHeartbeats 400000 in
theorem s_exch {N t a b : Nat} {c : CDat} {S : SDat} {σ : St} (hN : 20000 ≤ N) (ht : isT t) (wf : WfC c) (ws : WfS c S) (rc : RepC t c σ) (rs : RepS 41 c S σ) (ha : a < ns c) (hb : b < ns c) :
    Ok (f_X11_countingExchanged N (RR t) 0 (nI a) (nI b) σ) (fun r σ' => r = nI (cnE c S a b) ∧ RepC t c σ' ∧ RepS 41 c S σ') := by
  have hns := wf.2.1
  have tl := isT_le ht
  unfold f_X11_countingExchanged
  rw [r_0_2 rfl, r_0_4 rfl, r_0_5 rfl, rq3 rfl q41, rq3 rfl q46, nI_clamp (show a < 2 ^ 31 by omega), nI_clamp (show b < 2 ^ 31 by omega)]
  have i1 : ib (nI a) 5 = true := ib_nI (by omega) (by decide)
  have i2 : ib (nI b) 5 = true := ib_nI (by omega) (by decide)
  refine ok_call (s_copy rfl q41 q46 (Or.inr (by decide)) wf rs) (fun _ σ1 h1 => ok_gd i2 (ok_gd i1 (ok_sI fun σ2 n2 u2 => ok_gd i1 (ok_gd i2 (ok_sI fun σ3 n3 u3 => ?_)))))
  have rs1 : RepS 41 c S σ1 := RepS_cg rs (fun p h2 h3 => (h1.2 p (by omega)).1)
  have rc1 : RepC t c σ1 := RepC_cg rc (fun p h2 h3 _ => (h1.2 p (by omega)).1)
  have q2 := RepS_w3 (v := S 3 b) h1.1 rfl ha n2 u2 (rs1.1 b hb).2.2.2
  have q3 := RepS_w3 (v := S 3 a) q2 rfl hb n3 u3 (by rw [n2 (41 + 4) (by decide)]; exact (rs1.1 a ha).2.2.2)
  have rs3 : RepS 41 c S σ3 := RepS_cg rs1 (fun p h2 h3 => by rw [n3 p (by omega), n2 p (by omega)])
  have rc3 : RepC t c σ3 := RepC_cg rc1 (fun p h2 h3 _ => by rw [n3 p (by omega), n2 p (by omega)])
  refine ok_call (s_counting (x := 0) hN rfl ht q46 wf (exS_wf ws ha hb) rc3 q3) (fun r σ4 h4 => ?_)
  rw [h4.1]
  exact ok_bnd (s_bitCount (by omega)) (ok_ret ⟨rfl, RepC_sc rc3 h4.2, RepS_sc ht q41 rs3 h4.2⟩)
set_option maxHeartbeats 800000 in
theorem api_change {N : Nat} (hN : 20000 ≤ N) (a1 : Int32) : Api Inv (fun ρ σ => f_X11_change N ρ 0 a1 σ) (fun ρ σ => f_X12_change N ρ 90 a1 σ) := by
  refine api_v (fun c S wf ws hd => ?_)
  have hns := wf.2.1
  have hnh := wf.1
  rcases ix_of a1 (show 3 < 2 ^ 31 by decide) with ⟨w, hw, rfl⟩ | hn
  · have m0B : chB (cnt (fun s => decide (fare c S 0 s = 1)) (ns c), none) := ⟨Nat.le_trans (cnt_le _ _) hns, fun q hq => by cases hq⟩
    refine ⟨(if chx (chO c S (cnt (fun s => decide (fare c S 0 s = 1)) (ns c)) (ns c)) = -1 then -1 else if w = 0 then chx (chO c S (cnt (fun s => decide (fare c S 0 s = 1)) (ns c)) (ns c)) else if w = 1 then chy (chO c S (cnt (fun s => decide (fare c S 0 s = 1)) (ns c)) (ns c)) else nI (chO c S (cnt (fun s => decide (fare c S 0 s = 1)) (ns c)) (ns c)).1), fun t σ ht rc rs => ?_, fun t σ rm ra hx => ?_⟩
    · have tl := isT_le ht
      refine ok_fr (fun r σ' e => by have := m_X11_change e; rw [r_0_2 rfl, r_0_5 rfl, rq0 rfl q46, rq1 rfl q46, rq2 rfl q46, rq3 rfl q46, rt8 rfl ht, rt10 rfl ht, rb1 rfl ht] at this; exact ag_mono this (fun p hp => by unfold ScX; omega)) ?_
      show Ok (f_X11_change N (RR t) 0 (nI w) σ) _
      unfold f_X11_change
      rw [r_0_2 rfl, r_0_4 rfl]
      refine ok_neg (nI_pos (by omega)) (ok_pos (show nI w ≤ nI 2 from nI_le (by omega) (by decide)) (ok_call (s_counting (x := 0) hN rfl ht q41 wf ws rc rs) (fun r σ1 h1 => ?_)))
      rw [h1.1]
      refine ok_bnd (s_bitCount (by omega)) ?_
      refine lp (F := fun n i σ' => f_X11_change_35 N (RR t) 0 (nI w) n (nI (chO c S (cnt (fun s => decide (fare c S 0 s = 1)) (ns c)) i).1) (chx (chO c S (cnt (fun s => decide (fare c S 0 s = 1)) (ns c)) i)) (chy (chO c S (cnt (fun s => decide (fare c S 0 s = 1)) (ns c)) i)) (nI i) σ') (ns c) (fun i σ' => chB (chO c S (cnt (fun s => decide (fare c S 0 s = 1)) (ns c)) i) ∧ RepC t c σ' ∧ RepS 41 c S σ') ?_ ?_ N 0 σ1 (Nat.zero_le _) (by omega) ⟨m0B, RepC_sc rc h1.2, RepS_sc ht q41 rs h1.2⟩
      · rintro n i σ2 hi ⟨hB, rc2, rs2⟩ kk
        show Ok (b_X11_change_35 _ _ _ _ _ _ _ _ _ _) _
        unfold b_X11_change_35
        rw [r_0_2 rfl, rc2.2.1, nI_1 i]
        refine ok_neg (nI_ge hi (by omega)) (ok_nmd ?_)
        generalize hst : chO c S (cnt (fun s => decide (fare c S 0 s = 1)) (ns c)) i = st at hB ⊢
        refine ok_cast (b := f_X11_change_53 N (RR t) 0 (nI w) (f_X11_change_35 N (RR t) 0 (nI w) n) N (nI (chI c S i st (i + 1)).1) (chx (chI c S i st (i + 1))) (chy (chI c S i st (i + 1))) (nI i) (nI (i + 1)) σ2) (by rw [chI_0 (i + 1) (Nat.le_refl _)]) ?_
        refine lp (F := fun n' j σ' => f_X11_change_53 N (RR t) 0 (nI w) (f_X11_change_35 N (RR t) 0 (nI w) n) n' (nI (chI c S i st j).1) (chx (chI c S i st j)) (chy (chI c S i st j)) (nI i) (nI j) σ') (ns c) (fun j σ' => i < j ∧ chB (chI c S i st j) ∧ RepC t c σ' ∧ RepS 41 c S σ') ?_ ?_ N (i + 1) σ2 (by omega) (by omega) ⟨by omega, by rw [chI_0 (i + 1) (Nat.le_refl _)]; exact hB, rc2, rs2⟩
        · rintro n' j σ3 hj ⟨hij, hB3, rc3, rs3⟩ k2
          show Ok (b_X11_change_53 _ _ _ _ _ _ _ _ _ _ _ _) _
          unfold b_X11_change_53 f_X11_change_91
          rw [r_0_2 rfl, rc3.2.1, nI_1 j]
          refine ok_neg (nI_ge hj (by omega)) (ok_call (s_exch hN ht wf ws rc3 rs3 hi hj) (fun r σ4 h4 => ?_))
          have k3 := k2 σ4 ⟨by omega, by rw [chI_s hij]; exact chS_B wf hB3 (by omega) (by omega), h4.2.1, h4.2.2⟩
          have c5 := cnE_le (S := S) (a := i) (b := j) wf
          rw [h4.1]
          rw [chI_s hij] at k3
          unfold chS at k3
          by_cases hl : cnE c S i j ≤ (chI c S i st j).1
          · rw [if_pos hl] at k3
            exact ok_pos (nI_le hl (by have := hB3.1; omega)) k3
          · rw [if_neg hl] at k3
            exact ok_neg (nI_ge (by omega) (by omega)) k3
        · rintro n' σ3 ⟨hij, hB3, rc3, rs3⟩
          show Ok (b_X11_change_53 _ _ _ _ _ _ _ _ _ _ _ _) _
          unfold b_X11_change_53
          rw [r_0_2 rfl, rc3.2.1, nI_1 i]
          have ee : chO c S (cnt (fun s => decide (fare c S 0 s = 1)) (ns c)) (i + 1) = chI c S i st (ns c) := by rw [chO, hst]
          have k3 := kk σ3 ⟨by rw [ee]; exact hB3, rc3, rs3⟩
          rw [ee] at k3
          exact ok_pos (Int32.le_refl _) k3
      · rintro n σ2 ⟨hB, rc2, rs2⟩
        show Ok (b_X11_change_35 _ _ _ _ _ _ _ _ _ _) _
        unfold b_X11_change_35 f_X11_change_112 f_X11_change_125
        rw [r_0_2 rfl, rc2.2.1]
        refine ok_pos (Int32.le_refl _) ?_
        generalize chO c S (cnt (fun s => decide (fare c S 0 s = 1)) (ns c)) (ns c) = st
        by_cases h1 : chx st = -1
        · exact ok_pos h1 (ok_ret (by rw [if_pos h1, h1]))
        · refine ok_neg h1 ?_
          rw [if_neg h1]
          by_cases hw0 : w = 0
          · subst hw0
            exact ok_pos rfl (ok_ret rfl)
          · rw [if_neg hw0]
            refine ok_neg (nI_ne0 (by omega) (by omega)) ?_
            by_cases hw1 : w = 1
            · subst hw1
              exact ok_pos rfl (ok_ret rfl)
            · rw [if_neg hw1]
              exact ok_neg (fun z => hw1 ((nI_eq (show w < 2 ^ 31 by omega) (show 1 < 2 ^ 31 by decide)).mp z)) (ok_ret rfl)
    · refine ok_fr (fun r σ' e => by have := m_X12_change e; rw [r_90_57 rfl, r_90_18 rfl, r_90_26 rfl] at this; exact ag_mono this (fun p hp => by unfold ScM; omega)) ?_
      show Ok (f_X12_change N (RR t) 90 (nI w) σ) _
      unfold f_X12_change
      refine ok_bnd (isIn_y (n := 3) (by decide) hw) (ok_neg (by decide) (m_fill hN rfl wf rm ra hx (fun _ σ0 b0 rm0 ra0 raN _ hx0 => ?_)))
      refine ok_call (s_whoFares (w := 1) (x := 0) hN rfl wf ws rm0 ra0 hx0 (by decide)) (fun r σ1 h1 => ?_)
      rw [h1.1]
      refine ok_bnd (s_members hN (by omega)) ?_
      refine lp (F := fun n i σ' => f_X12_change_29 N (RR t) 90 (nI w) n (nI (chO c S (cnt (fun s => decide (fare c S 0 s = 1)) (ns c)) i).1) (chz (chO c S (cnt (fun s => decide (fare c S 0 s = 1)) (ns c)) i)) (nI i) σ') (ns c) (fun i σ' => chB (chO c S (cnt (fun s => decide (fare c S 0 s = 1)) (ns c)) i) ∧ RepM c σ' ∧ RepA 119 c S σ' ∧ σ'.1 90 27 = 0) ?_ ?_ N 0 σ1 (Nat.zero_le _) (by omega) ⟨m0B, RepM_sm rm0 h1.2, RepA_sm (Or.inl rfl) raN h1.2, by rw [sm_90 h1.2]; exact hx0⟩
      · rintro n i σ2 hi ⟨hB, rm2, ra2, hx2⟩ kk
        show Ok (b_X12_change_29 _ _ _ _ _ _ _ _ _) _
        unfold b_X12_change_29
        rw [rm2.2.1, nI_1 i]
        refine ok_neg (nI_ge hi (by omega)) (ok_nmd ?_)
        generalize hst : chO c S (cnt (fun s => decide (fare c S 0 s = 1)) (ns c)) i = st at hB ⊢
        refine ok_cast (b := f_X12_change_44 N (RR t) 90 (nI w) (f_X12_change_29 N (RR t) 90 (nI w) n) N (nI (chI c S i st (i + 1)).1) (chz (chI c S i st (i + 1))) (nI i) (nI (i + 1)) σ2) (by rw [chI_0 (i + 1) (Nat.le_refl _)]) ?_
        refine lp (F := fun n' j σ' => f_X12_change_44 N (RR t) 90 (nI w) (f_X12_change_29 N (RR t) 90 (nI w) n) n' (nI (chI c S i st j).1) (chz (chI c S i st j)) (nI i) (nI j) σ') (ns c) (fun j σ' => i < j ∧ chB (chI c S i st j) ∧ RepM c σ' ∧ RepA 119 c S σ' ∧ σ'.1 90 27 = 0) ?_ ?_ N (i + 1) σ2 (by omega) (by omega) ⟨by omega, by rw [chI_0 (i + 1) (Nat.le_refl _)]; exact hB, rm2, ra2, hx2⟩
        · rintro n' j σ3 hj ⟨hij, hB3, rm3, ra3, hx3⟩ k2
          show Ok (b_X12_change_44 _ _ _ _ _ _ _ _ _ _ _) _
          unfold b_X12_change_44 f_X12_change_127
          rw [rm3.2.1, nI_1 j, n15, n15, nI_clamp (show 15 + i < 2 ^ 31 by omega), nI_clamp (show 15 + j < 2 ^ 31 by omega), r_90_56 rfl, r_90_57 rfl]
          have i1 : ib (nI (15 + i)) 22 = true := ib_nI (by omega) (by decide)
          have i2 : ib (nI (15 + j)) 22 = true := ib_nI (by omega) (by decide)
          refine ok_neg (nI_ge hj (by omega)) (m_fill hN rfl wf rm3 ra3 hx3 (fun _ σ4 b4 rm4 ra4 raN4 _ hx4 => ok_gd i2 (ok_gd i1 (ok_sI fun σ5 n5 u5 => ok_gd i1 (ok_gd i2 (ok_sI fun σ6 n6 u6 => ?_))))))
          have q5 := RepA_w3 (v := S 3 j) ra4 hns (show i < 5 by omega) rfl u5 (raN4.1 j hj).2.2.2
          have q6 := RepA_w3 (v := S 3 i) q5 hns (show j < 5 by omega) rfl u6 (by rw [n5 119 (by decide)]; exact (raN4.1 i hi).2.2.2)
          have rm6 : RepM c σ6 := RepM_cg rm4 (fun p hp => by rw [n6 p (by omega), n5 p (by omega)])
          have raN6 : RepA 119 c S σ6 := RepA_cg raN4 (by rw [n6 119 (by decide), n5 119 (by decide)])
          have hx6 : σ6.1 90 27 = 0 := by rw [n6 90 (by decide), n5 90 (by decide)]; exact hx4
          refine ok_call (s_whoFares (w := 1) (x := 0) hN rfl wf (exS_wf ws hi hj) rm6 q6 hx6 (by decide)) (fun r σ7 h7 => ?_)
          rw [h7.1]
          refine ok_bnd (s_members hN (by omega)) ?_
          have k3 := k2 σ7 ⟨by omega, by rw [chI_s hij]; exact chS_B wf hB3 (by omega) (by omega), RepM_sm rm6 h7.2, RepA_sm (Or.inl rfl) raN6 h7.2, by rw [sm_90 h7.2]; exact hx6⟩
          have c5 := cnE_le (S := S) (a := i) (b := j) wf
          rw [chI_s hij] at k3
          unfold chS at k3
          by_cases hl : cnE c S i j ≤ (chI c S i st j).1
          · rw [if_pos hl] at k3
            exact ok_neg (nI_nlt hl (by have := hB3.1; omega)) k3
          · rw [if_neg hl] at k3
            refine ok_pos (nI_lt (show (chI c S i st j).1 < cnE c S i j by omega) (show cnE c S i j < 2 ^ 31 by omega)) (ok_nmd ?_)
            rw [show (5 : Int32) * nI i = nI (5 * i) from pk_mul 5 i, nI_add]
            exact k3
        · rintro n' σ3 ⟨hij, hB3, rm3, ra3, hx3⟩
          show Ok (b_X12_change_44 _ _ _ _ _ _ _ _ _ _ _) _
          unfold b_X12_change_44
          rw [rm3.2.1, nI_1 i]
          have ee : chO c S (cnt (fun s => decide (fare c S 0 s = 1)) (ns c)) (i + 1) = chI c S i st (ns c) := by rw [chO, hst]
          have k3 := kk σ3 ⟨by rw [ee]; exact hB3, rm3, ra3, hx3⟩
          rw [ee] at k3
          exact ok_pos (Int32.le_refl _) k3
      · rintro n σ2 ⟨hB, rm2, ra2, hx2⟩
        show Ok (b_X12_change_29 _ _ _ _ _ _ _ _ _) _
        unfold b_X12_change_29 f_X12_change_169
        rw [rm2.2.1]
        refine ok_pos (Int32.le_refl _) ?_
        generalize chO c S (cnt (fun s => decide (fare c S 0 s = 1)) (ns c)) (ns c) = st at hB ⊢
        obtain ⟨m, o⟩ := st
        cases o with
        | none => exact ok_neg (show ¬ (0 : Int32) ≤ -1 by decide) (ok_ret (by rw [if_pos (show chx (m, none) = -1 from rfl)]))
        | some q =>
          obtain ⟨a, b⟩ := q
          have hq := hB.2 (a, b) rfl
          have q1 : a < 5 := hq.1
          have q2 : b < 5 := hq.2
          have e1 : ¬ chx (m, some (a, b)) = -1 := nI_nm1 (by omega)
          rw [if_neg e1]
          refine ok_pos (nI_pos' (show 5 * a + b < 2 ^ 31 by omega)) ?_
          by_cases hw0 : w = 0
          · subst hw0
            refine ok_pos rfl (ok_ret ?_)
            show nI (5 * a + b) / nI 5 = nI a
            rw [pk_div (by omega) (by decide) (by decide), show (5 * a + b) / 5 = a by omega]
          · rw [if_neg hw0]
            refine ok_neg (nI_ne0 (by omega) (by omega)) ?_
            by_cases hw1 : w = 1
            · subst hw1
              refine ok_pos rfl (ok_ret ?_)
              show irem (nI (5 * a + b)) (nI 5) = nI b
              rw [show irem (nI (5 * a + b)) (nI 5) = nI ((5 * a + b) % 5) from pk_rem (by omega) (by decide) (by decide), show (5 * a + b) % 5 = b by omega]
            · rw [if_neg hw1]
              exact ok_neg (fun z => hw1 ((nI_eq (show w < 2 ^ 31 by omega) (show 1 < 2 ^ 31 by decide)).mp z)) (ok_ret rfl)
  · refine ⟨-1, fun t σ ht rc rs => ?_, fun t σ rm ra hx => ?_⟩
    · show Ok (f_X11_change N (RR t) 0 a1 σ) _
      unfold f_X11_change f_X11_change_9
      rcases hn with hn | hn
      · exact ok_pos hn (ok_ret ⟨rfl, ag_refl⟩)
      · exact ok_ite (fun _ => ok_ret ⟨rfl, ag_refl⟩) (fun _ => ok_neg (nI_gap (k := 2) (by decide) hn) (ok_ret ⟨rfl, ag_refl⟩))
    · show Ok (f_X12_change N (RR t) 90 a1 σ) _
      unfold f_X12_change
      exact ok_bnd (isIn_n (n := 3) (by decide) hn) (ok_pos rfl (ok_ret ⟨rfl, ag_refl⟩))
