/-! ROWS, by the model: marks, the tally -/
theorem fl_eq {p : Bool} {s : Nat} (hs : s ≤ 1) : fl p = nI s ↔ (p == decide (s = 1)) = true := by
  rcases (show s = 0 ∨ s = 1 by omega) with rfl | rfl <;> cases p <;> decide
set_option maxHeartbeats 800000 in
theorem s_marks {N t M T : Nat} {c : CDat} {mk : Nat → Nat → Nat} {q : Nat → Nat} {k x2 x3 : Int32} {σ : St} {rec25 : Int32 → Int32 → St → Option (Int32 × St)} {Q : Int32 → St → Prop} (hN : 20000 ≤ N) (h7 : dt c 7 0 ≤ 99) (h5 : dt c 5 0 ≤ 99) (mm : MM M T mk σ) (hM : M ≤ 30) (hok : ∀ j, j < M → MkOk mk j) (w : Was c q 3 σ)
    (kk : ∀ v : Bool, v = al (mf3 c mk k q) M → Ok (f_X12_layRows_237 N (RR t) 90 k rec25 x2 x3 (fl v) σ) Q) : Ok (f_X12_layRows_162 N (RR t) 90 k rec25 N x2 x3 1 0 σ) Q := by
  refine lp (β := Unit) (F := fun n j _ => f_X12_layRows_162 N (RR t) 90 k rec25 n x2 x3 (fl (al (mf3 c mk k q) j)) (nI j) σ) M (fun _ _ => True) ?_ ?_ N 0 () (Nat.zero_le _) (by omega) trivial
  · intro n j _ hj _ k2
    have k3 := k2 () trivial
    have ok := hok j hj
    have okc := ok
    obtain ⟨o0, o0', o1, o2, o3, o4, o5⟩ := okc
    obtain ⟨x0, x1, x2', x3', x4, x5⟩ := mm.2.2 j hj
    have i30 : ib (nI j) 30 = true := ib_nI (by omega) (by decide)
    show Ok (b_X12_layRows_162 _ _ _ _ _ _ _ _ _ _ _) _
    unfold b_X12_layRows_162
    rw [mm.1, r_90_71 rfl, r_90_72 rfl, nI_clamp (show j < 2 ^ 31 by omega), x4, x5]
    refine ok_neg (nI_ge hj (by omega)) ?_
    by_cases hA : al (mf3 c mk k q) j = true
    · have e1 : al (mf3 c mk k q) (j + 1) = mf3 c mk k q j := by simp only [al]; rw [hA]; rfl
      rw [e1] at k3
      rw [show fl (al (mf3 c mk k q) j) = 1 by rw [hA]; rfl]
      have yes : mc mk k j = false → Ok (f_X12_layRows_224 N (RR t) 90 k rec25 (f_X12_layRows_162 N (RR t) 90 k rec25 n) x2 x3 (nI j) σ) Q := by
        intro hm
        unfold f_X12_layRows_224 f_X12_layRows_229
        rw [nI_1 j]
        rw [show mf3 c mk k q j = true by simp [mf3, hm]] at k3
        exact k3
      have ask : mc mk k j = true → Ok (f_X12_layRows_208 N (RR t) 90 k rec25 (f_X12_layRows_162 N (RR t) 90 k rec25 n) x2 x3 (nI j) σ) Q := by
        intro hm
        have ef : mf3 c mk k q j = (mso mk j (rAq c q (mk j 0)).1 (rAq c q (mk j 0)).2 == decide (mk j 3 = 1)) := by simp [mf3, hm]
        unfold f_X12_layRows_208 f_X12_layRows_224 f_X12_layRows_229
        rw [r_90_73 rfl, nI_clamp (show j < 2 ^ 31 by omega), nI_1 j]
        refine ok_bnd (s_isSo h7 h5 mm ok hj hM w) (ok_gd i30 ?_)
        rw [x3']
        rw [ef] at k3
        by_cases hz : (mso mk j (rAq c q (mk j 0)).1 (rAq c q (mk j 0)).2 == decide (mk j 3 = 1)) = true
        · rw [hz] at k3
          exact ok_pos ((fl_eq o3).mpr hz) k3
        · rw [show (mso mk j (rAq c q (mk j 0)).1 (rAq c q (mk j 0)).2 == decide (mk j 3 = 1)) = false by simpa using hz] at k3
          exact ok_neg (fun y => hz ((fl_eq o3).mp y)) k3
      refine ok_neg (by decide) (ok_gd i30 ?_)
      by_cases ht : k < nI (mk j 4)
      · exact ok_pos ht (yes (by simp [mc, ht]))
      · refine ok_neg ht (ok_gd i30 ?_)
        by_cases hu : mk j 5 = 0
        · exact ok_pos (by rw [hu]; decide) (ask (by simp [mc, ht, hu]))
        · refine ok_neg (i_nlt.mpr (sv_pos hu (by omega))) (ok_gd i30 ?_)
          by_cases hk : sv (mk j 5) ≤ k
          · exact ok_pos hk (yes (by simp [mc, hu, hk]))
          · exact ok_neg hk (ask (by simp [mc, ht, hk]))
    · rw [show fl (al (mf3 c mk k q) j) = 0 by rw [show al (mf3 c mk k q) j = false by simpa using hA]; rfl]
      refine ok_pos rfl (kk false ?_)
      have : ¬ al (mf3 c mk k q) M = true := fun z => hA ((al_iff j).mpr (fun i hi => (al_iff M).mp z i (by omega)))
      simpa using this
  · intro n _ _
    show Ok (b_X12_layRows_162 _ _ _ _ _ _ _ _ _ _ _) _
    unfold b_X12_layRows_162
    rw [mm.1]
    exact ok_pos (Int32.le_refl _) (kk _ rfl)
def adT (f : Nat → Nat → Nat) (q : Nat → Nat) (e e' p : Nat) : Nat := f e' p + (if e' < e ∧ q e' = p then 1 else 0)
set_option maxHeartbeats 800000 in
theorem s_addTally {N t : Nat} {c : CDat} {q : Nat → Nat} {f : Nat → Nat → Nat} {k x2 x3 : Int32} {σ : St} {rec25 : Int32 → Int32 → St → Option (Int32 × St)} {Q : Int32 → St → Prop} (hN : 20000 ≤ N) (hq : ∀ e, q e < 7) (w : Was c q 3 σ) (tly : Tly f σ)
    (kk : ∀ σ', Ai (fun p => p = 137) σ σ' → Tly (adT f q 3) σ' → Ok (rec25 x2 (x3 + 1) σ') Q) : Ok (f_X12_layRows_251 N (RR t) 90 k rec25 N x2 x3 0 σ) Q := by
  refine lp (F := fun n e σ' => f_X12_layRows_251 N (RR t) 90 k rec25 n x2 x3 (nI e) σ') 3 (fun e σ' => Tly (adT f q e) σ' ∧ Ai (fun p => p = 137) σ σ') ?_ ?_ N 0 σ (Nat.zero_le _) (by omega) ⟨fun e p h1 h2 => by unfold adT; rw [if_neg (by omega), Nat.add_zero]; exact tly e p h1 h2, ai_refl⟩
  · rintro n e σ1 he ⟨t1, ai1⟩ k2
    have hqe := hq e
    show Ok (b_X12_layRows_251 _ _ _ _ _ _ _ _ _ _) _
    unfold b_X12_layRows_251
    rw [r_90_76 rfl, r_90_79 rfl, nI_clamp (show e < 2 ^ 31 by omega), ai1 134 (by decide), (w e he).1, m7, nI_clamp (show 7 * e + q e < 2 ^ 31 by omega), nI_1 e]
    have i21 : ib (nI (7 * e + q e)) 21 = true := ib_nI (by omega) (by decide)
    refine ok_neg (show ¬ nI 3 ≤ nI e from nI_ge he (by decide)) (ok_gd (ib_nI he (by decide)) (ok_gd i21 (ok_gd i21 (ok_sI fun σ2 n2 u2 => k2 σ2 ⟨fun e' p h1 h2 => ?_, ai_tr ai1 (ai_w n2 rfl)⟩))))
    rw [u2]
    by_cases ee : e' = e ∧ p = q e
    · obtain ⟨rfl, rfl⟩ := ee
      have := t1 e' (q e') h1 h2
      unfold adT at this ⊢
      rw [if_neg (by omega), Nat.add_zero] at this
      rw [pk_us, this, if_pos ⟨by omega, rfl⟩, nI_1]
    · rw [pk_un (by omega), t1 e' p h1 h2]
      unfold adT
      by_cases ee1 : e' = e
      · subst ee1
        rw [if_neg (by omega), if_neg (fun z => ee ⟨rfl, z.2.symm⟩)]
      · have : e' < e + 1 ↔ e' < e := by omega
        simp only [this]
  · rintro n σ1 ⟨t1, ai1⟩
    show Ok (b_X12_layRows_251 _ _ _ _ _ _ _ _ _ _) _
    unfold b_X12_layRows_251 f_X12_layRows_285
    exact ok_pos (show nI 3 ≤ nI 3 from Int32.le_refl _) (kk σ1 ai1 t1)
theorem pow3 : ∀ m, m ≤ 7 → m ^ 3 ≤ 343 := by decide +kernel
set_option maxHeartbeats 1600000 in
theorem s_layRows {N t M T : Nat} {c : CDat} {mk : Nat → Nat → Nat} {k : Int32} {σ : St} (hN : 20000 ≤ N) (wf : WfC c) (hn0 : 0 < ns c) (rm : RepM c σ) (hx : σ.1 90 27 = 0) (mm : MM M T mk σ) (hM : M ≤ 30) (hok : ∀ j, j < M → MkOk mk j) :
    Ok (f_X12_layRows N (RR t) 90 k σ) (fun r σ' => r = nI (sumN (gn c mk k M) ((nh c + 1) ^ 3)) ∧ RepM c σ' ∧ Tly (fun e p => sumN (gt c mk k M e p) ((nh c + 1) ^ 3)) σ') := by
  have hns := wf.2.1
  have hnh := wf.1
  have d7 := (wf.2.2.2.1 0 hn0).2.2.2
  have d5 := (wf.2.2.2.1 0 hn0).2.1
  have p3 := pow3 (nh c + 1) (by omega)
  refine lp (F := fun n i σ' => f_X12_layRows_4 N (RR t) 90 k n 0 (nI i) σ') 21 (fun i σ' => (∀ j, j < i → σ'.1 137 j = 0) ∧ Ai (fun p => p = 137) σ σ') ?_ ?_ N 0 σ (Nat.zero_le _) (by omega) ⟨fun j hj => absurd hj (by omega), ai_refl⟩
  · rintro n i σ1 hi ⟨z1, ai1⟩ kk
    show Ok (b_X12_layRows_4 _ _ _ _ _ _ _ _) _
    unfold b_X12_layRows_4
    rw [r_90_79 rfl, nI_clamp (show i < 2 ^ 31 by omega), nI_1 i]
    refine ok_neg (show ¬ nI 21 ≤ nI i from nI_ge hi (by decide)) (ok_gd (ib_nI hi (by decide)) (ok_sI fun σ2 n2 u2 => kk σ2 ⟨fun j hj => ?_, ai_tr ai1 (ai_w n2 rfl)⟩))
    rw [u2]
    by_cases e : j = i
    · subst e; rw [pk_us]
    · rw [pk_un e]; exact z1 j (by omega)
  · rintro n σ1 ⟨z1, ai1⟩
    show Ok (b_X12_layRows_4 _ _ _ _ _ _ _ _) _
    unfold b_X12_layRows_4
    refine ok_pos (show nI 21 ≤ nI 21 from Int32.le_refl _) ?_
    refine lp (F := fun n code σ' => f_X12_layRows_25 N (RR t) 90 k n (nI (sumN (gn c mk k M) code)) (nI code) σ') ((nh c + 1) ^ 3) (fun code σ' => RepM c σ' ∧ σ'.1 90 27 = 0 ∧ MM M T mk σ' ∧ Tly (fun e p => sumN (gt c mk k M e p) code) σ') ?_ ?_ N 0 σ1 (Nat.zero_le _) (by omega) ⟨RepM_cg rm (fun p hp => ai1 p (by omega)), by rw [ai1 90 (by decide)]; exact hx, MM_cg mm (ai1 90 (by decide)) (fun p h1 h2 => ai1 p (by omega)), fun e p h1 h2 => z1 _ (by omega)⟩
    · rintro n code σ2 hcode ⟨rm2, hx2, mm2, t2⟩ kk
      show Ok (b_X12_layRows_25 _ _ _ _ _ _ _ _) _
      unfold b_X12_layRows_25
      rw [rm2.1, nI_1 (nh c)]
      refine ok_bnd (s_power (m := 3) hN (by decide)) ?_
      rw [rm2.2.1]
      refine ok_neg (nI_ge hcode (by omega)) (ok_neg (nI_nle hn0 (by omega)) (ok_call (s_beginM hN wf rm2) (fun _ σ3 h3 => ?_)))
      have a3 := s1_of h3.2
      have mm3 : MM M T mk σ3 := MM_cg mm2 (s1_90 a3) (fun p h1 h2 => (h3.2 p (by omega)).1)
      refine s_evenings hN wf hn0 (by omega) (RepM_s1 rm2 a3) (by rw [s1_90 a3]; exact hx2) h3.1 (fun σ4 ai4 w4 => ?_)
      have e90 : σ4.1 90 = σ2.1 90 := by rw [ai4 90 (by unfold LRs; omega), s1_90 a3]
      have rm4 : RepM c σ4 := RepM_cg (RepM_s1 rm2 a3) (fun p hp => ai4 p (by unfold LRs; omega))
      have mm4 : MM M T mk σ4 := MM_cg mm3 (ai4 90 (by unfold LRs; omega)) (fun p h1 h2 => ai4 p (by unfold LRs; omega))
      have hx4 : σ4.1 90 27 = 0 := by rw [e90]; exact hx2
      have t4 : Tly (fun e p => sumN (gt c mk k M e p) code) σ4 := fun e p h1 h2 => by rw [ai4 137 (by unfold LRs; omega), (h3.2 137 (by decide)).1]; exact t2 e p h1 h2
      refine s_marks hN d7 d5 mm4 hM hok w4 (fun v hv => ?_)
      have hv : v = gfit c mk k M code := hv
      unfold f_X12_layRows_237 f_X12_layRows_285
      cases v with
      | false =>
        refine ok_pos rfl ?_
        rw [nI_1 code]
        have k3 := kk σ4 ⟨rm4, hx4, mm4, fun e p h1 h2 => by
          show _ = nI (sumN (gt c mk k M e p) code + gt c mk k M e p code)
          rw [show gt c mk k M e p code = 0 by unfold gt; rw [← hv]; rfl, Nat.add_zero]
          exact t4 e p h1 h2⟩
        rw [sumN, show gn c mk k M code = 0 by unfold gn; rw [← hv]; rfl, Nat.add_zero] at k3
        exact k3
      | true =>
        refine ok_neg (by decide) ?_
        rw [nI_1 (sumN (gn c mk k M) code)]
        refine s_addTally hN (fun e => ?_) w4 t4 (fun σ5 ai5 t5 => ?_)
        · have : dgt (nh c + 1) code e < nh c + 1 := Nat.mod_lt _ (by omega)
          omega
        rw [nI_1 code]
        have k3 := kk σ5 ⟨RepM_cg rm4 (fun p hp => ai5 p (by omega)), by rw [ai5 90 (by decide)]; exact hx4, MM_cg mm4 (ai5 90 (by decide)) (fun p h1 h2 => ai5 p (by omega)), fun e p h1 h2 => by
          show _ = nI (sumN (gt c mk k M e p) code + gt c mk k M e p code)
          have := t5 e p h1 h2
          unfold adT at this
          rw [this]
          unfold gt
          rw [← hv, if_pos rfl]
          by_cases z : dgt (nh c + 1) code e = p
          · rw [if_pos ⟨h1, z⟩, if_pos z]
          · rw [if_neg (fun y => z y.2), if_neg z]⟩
        rw [sumN, show gn c mk k M code = 1 by unfold gn; rw [← hv]; rfl] at k3
        exact k3
    · rintro n σ2 ⟨rm2, hx2, mm2, t2⟩
      show Ok (b_X12_layRows_25 _ _ _ _ _ _ _ _) _
      unfold b_X12_layRows_25 f_X12_layRows_291
      rw [rm2.1, nI_1 (nh c)]
      exact ok_bnd (s_power (m := 3) hN (by decide)) (ok_pos (Int32.le_refl _) (ok_ret ⟨rfl, rm2, t2⟩))
theorem s_layRows0 {N t : Nat} {c : CDat} {k : Int32} {σ : St} (hN : 20000 ≤ N) (wf : WfC c) (hn0 : ns c = 0) (rm : RepM c σ) :
    Ok (f_X12_layRows N (RR t) 90 k σ) (fun r _ => r = 0) := by
  have hnh := wf.1
  have p3 := pow3 (nh c + 1) (by omega)
  refine lp (F := fun n i σ' => f_X12_layRows_4 N (RR t) 90 k n 0 (nI i) σ') 21 (fun i σ' => σ'.1 90 = σ.1 90) ?_ ?_ N 0 σ (Nat.zero_le _) (by omega) rfl
  · intro n i σ1 hi e1 kk
    show Ok (b_X12_layRows_4 _ _ _ _ _ _ _ _) _
    unfold b_X12_layRows_4
    rw [r_90_79 rfl, nI_clamp (show i < 2 ^ 31 by omega), nI_1 i]
    exact ok_neg (show ¬ nI 21 ≤ nI i from nI_ge hi (by decide)) (ok_gd (ib_nI hi (by decide)) (ok_sI fun σ2 n2 u2 => kk σ2 (by rw [n2 90 (by decide)]; exact e1)))
  · intro n σ1 e1
    show Ok (b_X12_layRows_4 _ _ _ _ _ _ _ _) _
    unfold b_X12_layRows_4
    refine ok_pos (show nI 21 ≤ nI 21 from Int32.le_refl _) ?_
    obtain ⟨N', hN'⟩ : ∃ N', N = N' + 1 := ⟨N - 1, by omega⟩
    have : f_X12_layRows_25 N (RR t) 90 k N 0 0 σ1 = b_X12_layRows_25 N (RR t) 90 k (f_X12_layRows_25 N (RR t) 90 k N') 0 0 σ1 := by
      conv => lhs; rw [show f_X12_layRows_25 N (RR t) 90 k N 0 0 σ1 = f_X12_layRows_25 N (RR t) 90 k (N' + 1) 0 0 σ1 by rw [← hN']]
      rfl
    rw [this]
    unfold b_X12_layRows_25 f_X12_layRows_291
    rw [e1, rm.1, nI_1 (nh c)]
    refine ok_bnd (s_power (m := 3) hN (by decide)) ?_
    rw [e1, rm.2.1, hn0]
    have : 1 ≤ (nh c + 1) ^ 3 := Nat.pos_of_ne_zero (by simp)
    exact ok_neg (show ¬ nI ((nh c + 1) ^ 3) ≤ nI 0 from nI_ge (by omega) (by omega)) (ok_pos (show nI 0 ≤ 0 by decide) (ok_ret rfl))
