/-! GUESTS, both -/
def gL (st : ChT) : Nat := match st.2 with
  | none => 0
  | some _ => 2
def gls (st : ChT) (i : Nat) : Int32 := match st.2 with
  | none => 0
  | some q => if i = 0 then nI q.1 else nI q.2
def GL (st : ChT) (σ σ' : St) : Prop := (st.2 = none → σ'.1 90 65 = 0) ∧ (∀ q, st.2 = some q → σ'.1 90 65 = 2 ∧ σ'.1 125 0 = nI q.1 ∧ σ'.1 125 1 = nI q.2) ∧ ∀ k, k ≠ 65 → σ'.1 90 k = σ.1 90 k
theorem GL_cg {st : ChT} {σ σ' σ'' : St} (h : GL st σ σ') (e90 : σ''.1 90 = σ'.1 90) (e : σ''.1 125 = σ'.1 125) : GL st σ σ'' := by
  unfold GL
  rw [e90, e]
  exact h
theorem GL_LM {st : ChT} {σ σ' : St} (h : GL st σ σ') : LM (gL st) (gls st) σ σ' := by
  obtain ⟨h1, h2, h3⟩ := h
  obtain ⟨n, o⟩ := st
  cases o with
  | none => exact ⟨h1 rfl, fun i hi => absurd hi (Nat.not_lt_zero _), h3⟩
  | some q =>
    obtain ⟨a, b, d⟩ := h2 q rfl
    refine ⟨a, fun i hi => ?_, h3⟩
    have hi : i < 2 := hi
    rcases (show i = 0 ∨ i = 1 by omega) with rfl | rfl
    · exact b
    · exact d
def AirG (c : CDat) (S : SDat) (a b : Nat) (σ : St) : Prop := ∃ T, WfS c T ∧ RepA 120 c T σ ∧ (∀ r k, r ≠ 3 → T r k = S r k) ∧ ∀ k, k ≠ a → k ≠ b → T 3 k = 0
theorem AirG_cg {c : CDat} {S : SDat} {a b : Nat} {σ σ' : St} (h : AirG c S a b σ) (e : σ'.1 120 = σ.1 120) : AirG c S a b σ' := by
  obtain ⟨T, h1, h2, h3, h4⟩ := h
  exact ⟨T, h1, RepA_cg h2 e, h3, h4⟩
theorem RepM_65 {c : CDat} {σ σ' : St} (h : RepM c σ) (e90 : ∀ k, k ≠ 65 → σ'.1 90 k = σ.1 90 k) (e : ∀ p, p ≠ 90 → p ≠ 100 → p ≠ 102 → p ≠ 120 → p ≠ 125 → p ≠ 126 → σ'.1 p = σ.1 p) : RepM c σ' := RepM_cg2 h (fun k hk => e90 k (by omega)) (fun p hp => e p (by omega) (by omega) (by omega) (by omega) (by omega) (by omega))
set_option maxHeartbeats 1600000 in
theorem s_guestsM {N t a b : Nat} {c : CDat} {S : SDat} {σ0 σ : St} (hN : 20000 ≤ N) (wf : WfC c) (hab : a ≠ b) (ha : a < ns c) (hb : b < ns c) (rm : RepM c σ) (ag : AirG c S a b σ) (hx : σ.1 90 27 = 0) (gl : GL (0, none) σ0 σ) :
    Ok (f_X12_guests_45 N (RR t) 90 (nI a) (nI b) N 0 σ) (fun r σ' => r = nI (grO c S a b (nh c)).1 ∧ LM (gL (grO c S a b (nh c))) (gls (grO c S a b (nh c))) σ0 σ') := by
  have hns := wf.2.1
  have hnh := wf.1
  refine lp (F := fun n i σ' => f_X12_guests_45 N (RR t) 90 (nI a) (nI b) n (nI i) σ') (nh c) (fun i σ' => RepM c σ' ∧ AirG c S a b σ' ∧ GM c S a b i 0 σ' ∧ σ'.1 90 27 = 0 ∧ GL (0, none) σ0 σ') ?_ ?_ N 0 σ (Nat.zero_le _) (by omega) ⟨rm, ag, fun x y hx hy h => absurd h (by omega), hx, gl⟩
  · rintro n i σ1 hi ⟨rm1, ag1, gm1, hx1, gl1⟩ kk
    show Ok (b_X12_guests_45 _ _ _ _ _ _ _ _) _
    unfold b_X12_guests_45
    rw [rm1.1]
    refine ok_neg (nI_ge hi (by omega)) ?_
    refine lp (F := fun n' j σ' => f_X12_guests_56 N (RR t) 90 (nI a) (nI b) (f_X12_guests_45 N (RR t) 90 (nI a) (nI b) n) n' (nI i) (nI j) σ') (nh c) (fun j σ' => RepM c σ' ∧ AirG c S a b σ' ∧ GM c S a b i j σ' ∧ σ'.1 90 27 = 0 ∧ GL (0, none) σ0 σ') ?_ ?_ N 0 σ1 (Nat.zero_le _) (by omega) ⟨rm1, ag1, gm1, hx1, gl1⟩
    · rintro n' j σ2 hj ⟨rm2, ⟨T, wT, rT, eT, zT⟩, gm2, hx2, gl2⟩ k2
      have d2 := (wf.2.2.1 i hi).2.2.2.1
      show Ok (b_X12_guests_56 _ _ _ _ _ _ _ _ _ _) _
      unfold b_X12_guests_56 f_X12_guests_102
      rw [rm2.1, n15, n15, nI_clamp (show 15 + a < 2 ^ 31 by omega), nI_clamp (show 15 + b < 2 ^ 31 by omega), r_90_57 rfl, r_90_38 rfl, nI_clamp (show i < 2 ^ 31 by omega)]
      refine ok_neg (nI_ge hj (by omega)) (ok_gd (ib_nI (by omega) (by decide)) (ok_sI fun σ3 n3 u3 => ok_gd (ib_nI (by omega) (by decide)) (ok_sI fun σ4 n4 u4 => ?_)))
      have q3 := RepA_w3 (v := i + 1) rT hns (show a < 5 by omega) rfl u3 rfl
      have q4 := RepA_w3 (v := j + 1) q3 hns (show b < 5 by omega) rfl u4 rfl
      have wU : WfS c (pu (pu T 3 a (i + 1)) 3 b (j + 1)) := pu3_wf (pu3_wf wT (by omega)) (by omega)
      have eU : ∀ r k, r ≠ 3 → pu (pu T 3 a (i + 1)) 3 b (j + 1) r k = S r k := fun r k hr => by rw [pu_n (fun z => hr z.1), pu_n (fun z => hr z.1)]; exact eT r k hr
      have ua : pu (pu T 3 a (i + 1)) 3 b (j + 1) 3 a = i + 1 := by rw [pu_n (fun z => hab z.2), pu_s]
      have ub : pu (pu T 3 a (i + 1)) 3 b (j + 1) 3 b = j + 1 := pu_s
      have uo : ∀ k, k ≠ a → k ≠ b → pu (pu T 3 a (i + 1)) 3 b (j + 1) 3 k = 0 := fun k k1 k2 => by rw [pu_n (fun z => k2 z.2), pu_n (fun z => k1 z.2)]; exact zT k k1 k2
      generalize pu (pu T 3 a (i + 1)) 3 b (j + 1) = U at q4 wU eU ua ub uo
      have n34 : ∀ p, p ≠ 120 → σ4.1 p = σ2.1 p := fun p hp => by rw [n4 p hp, n3 p hp]
      have rm4 : RepM c σ4 := RepM_cg rm2 (fun p hp => n34 p (by omega))
      have hx4 : σ4.1 90 27 = 0 := by rw [n34 90 (by decide)]; exact hx2
      have fin : ∀ (σ5 : St) (v : Int32), Ag Sm σ4 σ5 → v = gvv (gcn c S a b a i j) (gcn c S a b b j i) → Ok (f_X12_guests_166 N (RR t) 90 (nI a) (nI b) (f_X12_guests_45 N (RR t) 90 (nI a) (nI b) n) (f_X12_guests_56 N (RR t) 90 (nI a) (nI b) (f_X12_guests_45 N (RR t) 90 (nI a) (nI b) n) n') (nI i) (nI j) v (6 * nI i + nI j) σ5) (fun r σ' => r = nI (grO c S a b (nh c)).1 ∧ LM (gL (grO c S a b (nh c))) (gls (grO c S a b (nh c))) σ0 σ') := by
        intro σ5 v a5 hv
        unfold f_X12_guests_166
        rw [m6, nI_clamp (show 6 * i + j < 2 ^ 31 by omega), r_90_66 rfl, nI_1 j]
        refine ok_gd (ib_nI (by omega) (by decide)) (ok_sI fun σ6 n6 u6 => ?_)
        have e126 : σ5.1 126 = σ2.1 126 := by rw [(a5 126 (by unfold Sm; omega)).1, n34 126 (by decide)]
        have e90 : σ6.1 90 = σ2.1 90 := by rw [n6 90 (by decide), sm_90 a5, n34 90 (by decide)]
        refine k2 σ6 ⟨RepM_cg (RepM_sm rm4 a5) (fun p hp => n6 p (by omega)), ⟨U, wU, RepA_cg (RepA_sm (Or.inr rfl) q4 a5) (n6 120 (by decide)), eU, uo⟩, fun x y hx hy h => ?_, by rw [e90]; exact hx2, GL_cg gl2 e90 (by rw [n6 125 (by decide), (a5 125 (by unfold Sm; omega)).1, n34 125 (by decide)])⟩
        rw [u6, e126]
        by_cases exy : x = i ∧ y = j
        · obtain ⟨rfl, rfl⟩ := exy
          rw [pk_us, hv]
        · rw [pk_un (by omega)]
          exact gm2 x y hx hy (by omega)
      have fin2 : (i = j → 2 ≤ dt c 2 i) → Ok (f_X12_guests_107 N (RR t) 90 (nI a) (nI b) (f_X12_guests_45 N (RR t) 90 (nI a) (nI b) n) (f_X12_guests_56 N (RR t) 90 (nI a) (nI b) (f_X12_guests_45 N (RR t) 90 (nI a) (nI b) n) n') (nI i) (nI j) 1 σ4) (fun r σ' => r = nI (grO c S a b (nh c)).1 ∧ LM (gL (grO c S a b (nh c))) (gls (grO c S a b (nh c))) σ0 σ') := by
        intro hm
        unfold f_X12_guests_107
        refine ok_neg (by decide) (ok_call (s_fareOf (x := 0) hN rfl wf wU rm4 q4 hx4 ha) (fun r σ5 h5 => ?_))
        have fa := fareG (S := S) hab ha hb eU ua ub uo hm
        have fb := fareG (S := S) (Ne.symm hab) hb ha eU ub ua (fun k k1 k2 => uo k k2 k1) (fun z => by rw [z]; exact hm z.symm)
        rw [gcn_c] at fb
        have la := fare_le (c := c) (S := U) (x := 0) (s := a)
        have lb := fare_le (c := c) (S := U) (x := 0) (s := b)
        have ia : nI (fare c U 0 a) = 1 ↔ gcn c S a b a i j = true := by rw [← fa]; exact nI_eq (b := 1) (by omega) (by decide)
        have ib' : nI (fare c U 0 b) = 1 ↔ gcn c S a b b j i = true := by rw [← fb]; exact nI_eq (b := 1) (by omega) (by decide)
        have rm5 := RepM_sm rm4 h5.2
        have q5 := RepA_sm (Or.inr rfl) q4 h5.2
        have hx5 : σ5.1 90 27 = 0 := by rw [sm_90 h5.2]; exact hx4
        have go : ∀ v : Bool, v = gcn c S a b a i j → Ok (f_X12_guests_139 N (RR t) 90 (nI a) (nI b) (f_X12_guests_45 N (RR t) 90 (nI a) (nI b) n) (f_X12_guests_56 N (RR t) 90 (nI a) (nI b) (f_X12_guests_45 N (RR t) 90 (nI a) (nI b) n) n') (nI i) (nI j) (fl v) (6 * nI i + nI j) σ5) (fun r σ' => r = nI (grO c S a b (nh c)).1 ∧ LM (gL (grO c S a b (nh c))) (gls (grO c S a b (nh c))) σ0 σ') := by
          intro v hv
          unfold f_X12_guests_139 f_X12_guests_157
          refine ok_bnd s_truth (ok_call (s_fareOf (x := 0) hN rfl wf wU rm5 q5 hx5 hb) (fun r6 σ6 h6 => ?_))
          rw [h6.1]
          by_cases hbb : gcn c S a b b j i = true
          · refine ok_pos (ib'.mpr hbb) (ok_bnd s_truth (fin σ6 _ (ag_trans h5.2 h6.2) ?_))
            rw [hbb, ← hv]
            cases v <;> rfl
          · refine ok_neg (fun z => hbb (ib'.mp z)) (ok_bnd s_truth (fin σ6 _ (ag_trans h5.2 h6.2) ?_))
            rw [show gcn c S a b b j i = false by simpa using hbb, ← hv]
            cases v <;> rfl
        rw [h5.1]
        by_cases haa : gcn c S a b a i j = true
        · exact ok_pos (ia.mpr haa) (go true haa.symm)
        · exact ok_neg (fun z => haa (ia.mp z)) (go false (by simpa using haa))
      by_cases eij : i = j
      · subst eij
        refine ok_pos rfl (ok_gd (ib_nI (by omega) (by decide)) ?_)
        rw [show σ4.1 113 i = nI (dt c 2 i) from rm4.2.2.2.2.2.1 2 i (by decide) hi]
        by_cases hr : dt c 2 i ≤ 1
        · refine ok_pos (show nI (dt c 2 i) ≤ nI 1 from nI_le hr (by decide)) ?_
          unfold f_X12_guests_107
          refine ok_pos rfl (fin σ4 0 ag_refl ?_)
          have : ∀ s, gcn c S a b s i i = false := fun s => by
            unfold gcn tog
            rw [if_pos rfl]
            simp
            omega
          rw [this, this]
          rfl
        · exact ok_neg (show ¬ nI (dt c 2 i) ≤ nI 1 from nI_ge (by omega) (by omega)) (fin2 (fun _ => by omega))
      · exact ok_neg (fun z => eij ((nI_eq (by omega) (by omega)).mp z)) (fin2 (fun z => absurd z eij))
    · rintro n' σ2 ⟨rm2, ag2, gm2, hx2, gl2⟩
      show Ok (b_X12_guests_56 _ _ _ _ _ _ _ _ _ _) _
      unfold b_X12_guests_56
      rw [rm2.1, nI_1 i]
      exact ok_pos (Int32.le_refl _) (kk σ2 ⟨rm2, ag2, fun x y hx hy h => gm2 x y hx hy (by omega), hx2, gl2⟩)
  · rintro n σ1 ⟨rm1, ag1, gm1, hx1, gl1⟩
    show Ok (b_X12_guests_45 _ _ _ _ _ _ _ _) _
    unfold b_X12_guests_45
    rw [rm1.1]
    refine ok_pos (Int32.le_refl _) ?_
    refine lp (F := fun n i σ' => f_X12_guests_184 N (RR t) 90 (nI a) (nI b) n (nI (grO c S a b i).1) (nI i) σ') (nh c) (fun i σ' => RepM c σ' ∧ GM c S a b (nh c) 0 σ' ∧ GL (grO c S a b i) σ0 σ' ∧ grB' (6 * i) (grO c S a b i)) ?_ ?_ N 0 σ1 (Nat.zero_le _) (by omega) ⟨rm1, gm1, gl1, ⟨Nat.le_refl _, ⟨fun _ => rfl, fun _ => rfl⟩, (fun q hq => by cases hq)⟩⟩
    · rintro n i σ2 hi ⟨rm2, gm2, gl2, b2⟩ kk
      show Ok (b_X12_guests_184 _ _ _ _ _ _ _ _ _) _
      unfold b_X12_guests_184
      rw [rm2.1]
      refine ok_neg (nI_ge hi (by omega)) ?_
      generalize hst : grO c S a b i = st at gl2 b2 ⊢
      refine lp (F := fun n' j σ' => f_X12_guests_196 N (RR t) 90 (nI a) (nI b) (f_X12_guests_184 N (RR t) 90 (nI a) (nI b) n) n' (nI (grI c S a b i st j).1) (nI i) (nI j) σ') (nh c) (fun j σ' => RepM c σ' ∧ GM c S a b (nh c) 0 σ' ∧ GL (grI c S a b i st j) σ0 σ' ∧ grB' (6 * i + j) (grI c S a b i st j)) ?_ ?_ N 0 σ2 (Nat.zero_le _) (by omega) ⟨rm2, gm2, gl2, b2⟩
      · rintro n' j σ3 hj ⟨rm3, gm3, gl3, b3⟩ k2
        show Ok (b_X12_guests_196 _ _ _ _ _ _ _ _ _ _ _) _
        unfold b_X12_guests_196 f_X12_guests_246 f_X12_guests_249
        rw [rm3.1, nI_1 j, r_90_64 rfl]
        have hB := grS_B (c := c) (S := S) (a := a) (b := b) b3 (show i < 6 by omega) (show j < 6 by omega)
        have e1 : grI c S a b i st (j + 1) = grS c S a b (grI c S a b i st j) i j := rfl
        generalize hu : grI c S a b i st j = u at *
        refine ok_neg (nI_ge hj (by omega)) (ok_bnd (s_isRest hN wf rm3 gm3 ha hb hi hj) ?_)
        by_cases hR : grR c S a b i j = true
        · rw [if_pos hR]
          refine ok_neg (by decide) ?_
          obtain ⟨nn, o⟩ := u
          have b31 : nn ≤ 6 * i + j := b3.1
          cases o with
          | none =>
            have n0 : nn = 0 := b3.2.1.mpr rfl
            subst n0
            refine ok_pos rfl (ok_gd rfl (ok_sI fun σ4 n4 u4 => ok_gd rfl (ok_sI fun σ5 n5 u5 => ok_sI fun σ6 n6 u6 => ?_)))
            have e90 : ∀ k, k ≠ 65 → σ6.1 90 k = σ3.1 90 k := fun k hk => by rw [u6, pk_un hk, n5 90 (by decide), n4 90 (by decide)]
            have k3 := k2 σ6 ⟨RepM_65 rm3 e90 (fun p h1 h2 h3 h4 h5 h6 => by rw [n6 p h1, n5 p h5, n4 p h5]), GM_cg gm3 (by rw [n6 126 (by decide), n5 126 (by decide), n4 126 (by decide)]), by
              rw [e1]; unfold grS; rw [if_pos hR]
              refine ⟨(fun z => by cases z), fun q hq => ?_, fun k hk => by rw [e90 k hk]; exact gl3.2.2 k hk⟩
              cases hq
              rw [u6, pk_us, n6 125 (by decide), u5, u4]
              exact ⟨rfl, rfl, rfl⟩, by rw [e1]; exact hB⟩
            rw [e1] at k3
            unfold grS at k3
            rw [if_pos hR] at k3
            exact k3
          | some q0 =>
            have n0 : nn ≠ 0 := fun z => by cases (b3.2.1.mp z)
            refine ok_neg (nI_ne0 (by show 0 < nn; omega) (by show nn < _; omega)) ?_
            have k3 := k2 σ3 ⟨rm3, gm3, by
              rw [e1]; unfold grS; rw [if_pos hR]
              exact gl3, by rw [e1]; exact hB⟩
            rw [e1] at k3
            unfold grS at k3
            rw [if_pos hR] at k3
            show Ok (f_X12_guests_196 N (RR t) 90 (nI a) (nI b) (f_X12_guests_184 N (RR t) 90 (nI a) (nI b) n) n' (nI nn + 1) (nI i) (nI (j + 1)) σ3) _
            rw [nI_1 nn]
            exact k3
        · rw [if_neg hR]
          have k3 := k2 σ3 ⟨rm3, gm3, by rw [e1]; unfold grS; rw [if_neg hR]; exact gl3, by rw [e1]; exact hB⟩
          rw [e1] at k3
          unfold grS at k3
          rw [if_neg hR] at k3
          exact ok_pos rfl k3
      · rintro n' σ3 ⟨rm3, gm3, gl3, b3⟩
        show Ok (b_X12_guests_196 _ _ _ _ _ _ _ _ _ _ _) _
        unfold b_X12_guests_196
        rw [rm3.1, nI_1 i]
        have ee : grO c S a b (i + 1) = grI c S a b i st (nh c) := by rw [grO, hst]
        have k3 := kk σ3 ⟨rm3, gm3, by rw [ee]; exact gl3, by rw [ee]; exact ⟨by have := b3.1; omega, b3.2⟩⟩
        rw [ee] at k3
        exact ok_pos (Int32.le_refl _) k3
    · rintro n σ2 ⟨rm2, gm2, gl2, b2⟩
      show Ok (b_X12_guests_184 _ _ _ _ _ _ _ _ _) _
      unfold b_X12_guests_184
      rw [rm2.1]
      exact ok_pos (Int32.le_refl _) (ok_ret ⟨rfl, GL_LM gl2⟩)
theorem gL_le {st : ChT} : gL st ≤ 5 := by
  unfold gL
  split <;> decide
theorem lx0 {t : Nat} {σ : St} {v : Int32} {o : Option (Int32 × St)} {ls : Nat → Int32} (h : o = some (v, sI σ 0 14 0)) : Ok o (fun r σ1 => (r = v ∧ LX 0 ls σ σ1) ∧ Ai (ALx t) σ σ1 ∧ σ1.2 6 = σ.2 6) := ok_eq h ⟨⟨rfl, by rw [sI_up, pk_us]; rfl, fun i hi => absurd hi (Nat.not_lt_zero _), fun k hk => by rw [sI_up, pk_un hk]⟩, fun p hp => sI_ne (fun z => hp (by unfold ALx; omega)), rfl⟩
theorem lm0 {σ : St} {v : Int32} {o : Option (Int32 × St)} {ls : Nat → Int32} (h : o = some (v, sI σ 90 65 0)) : Ok o (fun r σ1 => (r = v ∧ LM 0 ls σ σ1) ∧ Ag ALm σ σ1) := ok_eq h ⟨⟨rfl, by rw [sI_up, pk_us]; rfl, fun i hi => absurd hi (Nat.not_lt_zero _), fun k hk => by rw [sI_up, pk_un hk]⟩, fun p hp => ⟨sI_ne (fun z => hp (by unfold ALm; omega)), rfl⟩⟩
theorem RepC_0 {t : Nat} {c : CDat} {σ : St} {x : Int32} (ht : isT t) (h : RepC t c σ) : RepC t c (sI σ 0 14 x) := by
  have tl := isT_le ht
  exact RepC_cg h (fun p _ _ _ => sI_ne (by omega))
theorem RepM_0 {c : CDat} {σ : St} {x : Int32} (h : RepM c σ) : RepM c (sI σ 90 65 x) := RepM_cg2 h (fun k hk => by rw [sI_up, pk_un (by omega)]) (fun p hp => sI_ne (by omega))
set_option maxHeartbeats 800000 in
theorem api_guests {N : Nat} (hN : 20000 ≤ N) (a1 a2 : Int32) : Api Inv (fun ρ σ => f_X11_guests N ρ 0 a1 a2 σ) (fun ρ σ => f_X12_guests N ρ 90 a1 a2 σ) := by
  refine api_lie (fun c S wf ws hd => ?_)
  have hns := wf.2.1
  have hnh := wf.1
  rcases ix_of a1 (show ns c < 2 ^ 31 by omega) with ⟨a, ha, rfl⟩ | hn
  · rcases ix_of a2 (show ns c < 2 ^ 31 by omega) with ⟨b, hb, rfl⟩ | hn2
    · by_cases hbad : a = b ∨ nh c = 0
      · refine ⟨-1, 0, fun _ => 0, by decide, fun t σ ht rc rs => lx0 ?_, fun t σ rm ra hx => lm0 ?_⟩
        · show f_X11_guests N (RR t) 0 (nI a) (nI b) σ = _
          unfold f_X11_guests f_X11_guests_42
          rw [r_0_2 rfl, nmd_e, bnd_e (hasS_y (RepC_0 ht rc).2.1 hns ha), if_neg (by decide), bnd_e (hasS_y (RepC_0 ht rc).2.1 hns hb), if_neg (by decide), (RepC_0 ht rc).1]
          by_cases e : a = b
          · rw [if_pos (by rw [e])]
          · rw [if_neg (fun z => e ((nI_eq (by omega) (by omega)).mp z)), hbad.resolve_left e, if_pos (show nI 0 = 0 from rfl)]
        · show f_X12_guests N (RR t) 90 (nI a) (nI b) σ = _
          unfold f_X12_guests f_X12_guests_33
          rw [nmd_e, bnd_e (isS_y wf (RepM_0 rm) ha), if_neg (by decide), bnd_e (isS_y wf (RepM_0 rm) hb), if_neg (by decide), (RepM_0 rm).1]
          by_cases e : a = b
          · rw [if_pos (by rw [e])]
          · rw [if_neg (fun z => e ((nI_eq (by omega) (by omega)).mp z)), hbad.resolve_left e, if_pos (show nI 0 = 0 from rfl)]
      · have hab : a ≠ b := fun z => hbad (Or.inl z)
        have h0 : nh c ≠ 0 := fun z => hbad (Or.inr z)
        refine ⟨nI (grO c S a b (nh c)).1, gL (grO c S a b (nh c)), gls (grO c S a b (nh c)), gL_le, fun t σ ht rc rs => ?_, fun t σ rm ra hx => ?_⟩
        · have tl := isT_le ht
          have rc0 := RepC_0 (x := 0) ht rc
          have rs0 : RepS 41 c S (sI σ 0 14 0) := RepS_cg rs (fun p h1 h2 => sI_ne (by omega))
          refine ok_mono (P := fun r σ1 => ((r = nI (grO c S a b (nh c)).1 ∧ LX (gL (grO c S a b (nh c))) (gls (grO c S a b (nh c))) σ σ1) ∧ Ai (ALx t) σ σ1) ∧ σ1.2 6 = σ.2 6) (ok_ag ?_ (fun r σ' e => ?_)) (fun r σ1 hp => ⟨hp.1.1, hp.1.2, hp.2⟩)
          · show Ok (f_X11_guests N (RR t) 0 (nI a) (nI b) σ) _
            unfold f_X11_guests f_X11_guests_97
            rw [r_0_2 rfl, r_0_4 rfl, r_0_10 rfl, r_0_13 rfl]
            refine ok_nmd (ok_bnd (hasS_y rc0.2.1 hns ha) (ok_neg (by decide) (ok_bnd (hasS_y rc0.2.1 hns hb) (ok_neg (by decide) (ok_neg (fun z => hab ((nI_eq (by omega) (by omega)).mp z)) (ok_neg (by rw [rc0.1]; exact nI_ne0 (by omega) (by omega)) (ok_call (s_findRests hN ht wf rc0 rs0 ha hb) (fun r σ2 h2 => ?_))))))))
            obtain ⟨h21, gf, hB, ai⟩ := h2
            have x0 : ∀ k, σ2.1 0 k = (sI σ 0 14 0).1 0 k := fun k => by rw [ai 0 (by unfold G9 Sc; omega)]
            have aiA : Ai (ALx t) σ σ2 := fun p hp => by
              rw [ai p (fun z => hp (by unfold G9 Sc at z; unfold ALx ScX; omega))]
              exact sI_ne (fun z => hp (by unfold ALx; omega))
            rw [h21]
            generalize grO c S a b (nh c) = st at gf hB ⊢
            obtain ⟨nn, o⟩ := st
            have b1 : nn ≤ 36 := hB.1
            cases o with
            | none =>
              have n0 : nn = 0 := hB.2.1.mpr rfl
              subst n0
              refine ok_pos (show nI 0 ≤ 0 by decide) (ok_ret ⟨⟨rfl, ?_, fun i hi => absurd hi (Nat.not_lt_zero _), fun k hk => ?_⟩, aiA⟩)
              · rw [x0, sI_up, pk_us]; rfl
              · rw [x0, sI_up, pk_un hk]
            | some q =>
              have n0 : nn ≠ 0 := fun z => by cases (hB.2.1.mp z)
              obtain ⟨g1, g2⟩ := gf q rfl
              refine ok_neg (nI_nle (by show 0 < nn; omega) (by show nn < _; omega)) (ok_gd rfl (ok_sI fun σ3 n3 u3 => ok_gd rfl (ok_sI fun σ4 n4 u4 => ok_sI fun σ5 n5 u5 => ok_ret ⟨⟨rfl, ?_, fun i hi => ?_, fun k hk => ?_⟩, ?_⟩)))
              · rw [u5, pk_us]; rfl
              · have hi : i < 2 := hi
                rw [n5 89 (by decide), u4, n3 61 (by decide), g2, u3, g1]
                rcases (show i = 0 ∨ i = 1 by omega) with rfl | rfl
                · rfl
                · rfl
              · rw [u5, pk_un hk, n4 0 (by decide), n3 0 (by decide), x0, sI_up, pk_un hk]
              · intro p hp
                have p0 : p ≠ 0 := fun z => hp (by unfold ALx; omega)
                have p89 : p ≠ 89 := fun z => hp (by unfold ALx; omega)
                rw [n5 p p0, n4 p p89, n3 p p89]
                exact aiA p hp
          · have := m_X11_guests e
            rw [r_0_2 rfl, r_0_10 rfl, r_0_13 rfl, r_61_0 rfl, r_61_1 rfl, rt8 rfl ht, rt10 rfl ht, rb1 rfl ht] at this
            refine (this 6 ?_).2
            rintro (z | z | ⟨j, z⟩ | ⟨j, z⟩ | z | z | z)
            · omega
            · omega
            · rw [r_62 rfl] at z; omega
            · rw [r_65 rfl] at z; omega
            · omega
            · omega
            · omega
        · refine ok_ag ?_ (fun r σ' e => by have := m_X12_guests e; rw [r_90_57 rfl, r_90_18 rfl, r_90_26 rfl, r_90_64 rfl, r_90_66 rfl] at this; exact ag_mono this (fun p hp => by unfold ALm ScM; omega))
          show Ok (f_X12_guests N (RR t) 90 (nI a) (nI b) σ) _
          unfold f_X12_guests
          have rm0 := RepM_0 (x := 0) rm
          have hx0 : (sI σ 90 65 0).1 90 27 = 0 := by rw [sI_up, pk_un (by decide)]; exact hx
          refine ok_nmd (ok_bnd (isS_y wf rm0 ha) (ok_neg (by decide) (ok_bnd (isS_y wf rm0 hb) (ok_neg (by decide) (ok_neg (fun z => hab ((nI_eq (by omega) (by omega)).mp z)) (ok_neg (by rw [rm0.1]; exact nI_ne0 (by omega) (by omega)) (m_fill hN rfl wf rm0 (RepA_cg ra (sI_ne (by decide))) hx0 (fun _ σ1 b1 rm1 ra1 _ e90 hx1 => ok_call (s_callAll hN rfl wf rm1 ra1) (fun _ σ2 h2 => ?_)))))))))
          have a2 := s1_of h2.2
          refine s_guestsM hN wf hab ha hb (RepM_s1 rm1 a2) ⟨_, jst_wf ws (Nat.zero_le _), h2.1, fun r k hr => jst_n hr, fun k _ _ => by rw [jst_3]; rfl⟩ (by rw [s1_90 a2]; exact hx1) ⟨fun _ => ?_, (fun q hq => by cases hq), fun k hk => ?_⟩
          · rw [s1_90 a2, e90, sI_up, pk_us]
          · rw [s1_90 a2, e90, sI_up, pk_un hk]
    · refine ⟨-1, 0, fun _ => 0, by decide, fun t σ ht rc rs => lx0 ?_, fun t σ rm ra hx => lm0 ?_⟩
      · show f_X11_guests N (RR t) 0 (nI a) a2 σ = _
        unfold f_X11_guests f_X11_guests_42
        rw [r_0_2 rfl, nmd_e, bnd_e (hasS_y (RepC_0 ht rc).2.1 hns ha), if_neg (by decide), bnd_e (hasS_n (RepC_0 ht rc).2.1 hn2), if_pos rfl]
      · show f_X12_guests N (RR t) 90 (nI a) a2 σ = _
        unfold f_X12_guests f_X12_guests_33
        rw [nmd_e, bnd_e (isS_y wf (RepM_0 rm) ha), if_neg (by decide), bnd_e (isS_n wf (RepM_0 rm) hn2), if_pos rfl]
  · refine ⟨-1, 0, fun _ => 0, by decide, fun t σ ht rc rs => lx0 ?_, fun t σ rm ra hx => lm0 ?_⟩
    · show f_X11_guests N (RR t) 0 a1 a2 σ = _
      unfold f_X11_guests f_X11_guests_42
      rw [r_0_2 rfl, nmd_e, bnd_e (hasS_n (RepC_0 ht rc).2.1 hn), if_pos rfl]
    · show f_X12_guests N (RR t) 90 a1 a2 σ = _
      unfold f_X12_guests f_X12_guests_33
      rw [nmd_e, bnd_e (isS_n wf (RepM_0 rm) hn), if_pos rfl]
