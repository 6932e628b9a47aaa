/-! ROWS, by the class -/
theorem s_fits {N t e a d : Nat} {F : Nat → Nat → Nat → Bool} {σ : St} (b : BI F σ) (he : e < 3) (h0 : σ.1 84 0 = nI a) (h1 : σ.1 85 0 = nI d) (ha : a ≤ 99) (hd : d ≤ 99) : f_X6_fits N (RR t) 68 (nI e) σ = some (if F e a d = true then 1 else 0, σ) := by
  obtain ⟨G, hG⟩ := b
  obtain ⟨⟨g0, g1, g2, g3⟩, ⟨c0, c1, c2, c3⟩, hb⟩ := hG e he
  have hb := hb a d ha hd
  have i3 : ib (nI e) 3 = true := ib_nI he (by decide)
  refine ok_is ?_
  unfold f_X6_fits f_X6_fits_64 f_X6_fits_65
  rw [r_68_13 rfl, r_83_0 rfl, r_83_1 rfl, r_68_8 rfl, r_68_9 rfl, r_68_10 rfl, r_68_11 rfl, nI_clamp (show e < 2 ^ 31 by omega), show σ.1 84 (0 : Int32).toNatClampNeg = nI a from h0, show σ.1 85 (0 : Int32).toNatClampNeg = nI d from h1, g0, g1, g2, g3]
  have no : ¬ (G 0 e ≤ d ∧ d < G 1 e ∧ G 2 e ≤ a ∧ a < G 3 e) → Ok (gd (bb 0) (some ((0 : Int32), σ))) (fun r' σ' => r' = (if F e a d = true then 1 else 0) ∧ σ' = σ) := fun z => ok_gd rfl (ok_ret ⟨by rw [if_neg (fun q => z (hb.mpr q))], rfl⟩)
  refine ok_gd rfl (ok_nmd (ok_gd rfl (ok_nmd (ok_gd i3 ?_))))
  by_cases q0 : G 0 e ≤ d
  · refine ok_neg (nI_nlt q0 (by omega)) (ok_gd i3 ?_)
    by_cases q1 : d < G 1 e
    · refine ok_neg (fun z => absurd ((m1_lt (by omega) (by omega)).mp z) (by omega)) (ok_gd i3 ?_)
      by_cases q2 : G 2 e ≤ a
      · refine ok_neg (nI_nlt q2 (by omega)) (ok_gd i3 ?_)
        by_cases q3 : a < G 3 e
        · refine ok_neg (fun z => absurd ((m1_lt (by omega) (by omega)).mp z) (by omega)) (ok_gd rfl (ok_ret ⟨?_, rfl⟩))
          rw [if_pos (hb.mp ⟨q0, q1, q2, q3⟩)]
        · exact ok_pos ((m1_lt (by omega) (by omega)).mpr (by omega)) (no (fun z => q3 z.2.2.2))
      · exact ok_pos (nI_lt (by omega) (by omega)) (no (fun z => q2 z.2.2.1))
    · exact ok_pos ((m1_lt (by omega) (by omega)).mpr (by omega)) (no (fun z => q1 z.2.1))
  · exact ok_pos (nI_lt (by omega) (by omega)) (no (fun z => q0 z.1))
def RFp (t p : Nat) : Prop := Sc t p ∨ (80 ≤ p ∧ p ≤ 87)
theorem rwN_le {c : CDat} {F : Nat → Nat → Nat → Bool} (wf : WfC c) : ∀ r e a d, rwN c F r e a d ≤ 7 ^ r := by
  intro r
  induction r with
  | zero => intro e a d; exact Nat.le_refl _
  | succ r ih =>
    intro e a d
    have hnh := wf.1
    have key : ∀ n, sumN (fun p => if F e (sp0 c a d e p) (sp1 c a d e p) = true then rwN c F r (e + 1) (sp0 c a d e p) (sp1 c a d e p) else 0) n ≤ n * 7 ^ r := by
      intro n
      induction n with
      | zero => exact Nat.zero_le _
      | succ n ihn =>
        rw [sumN, Nat.succ_mul]
        refine Nat.add_le_add ihn ?_
        by_cases hF : F e (sp0 c a d e n) (sp1 c a d e n) = true
        · rw [if_pos hF]; exact ih _ _ _
        · rw [if_neg hF]; exact Nat.zero_le _
    rw [rwN, Nat.pow_succ, Nat.mul_comm]
    exact Nat.le_trans (key (nh c + 1)) (Nat.mul_le_mul_right _ (by omega))
set_option maxHeartbeats 1600000 in
theorem s_rowsFrom {N t : Nat} {c : CDat} {F : Nat → Nat → Nat → Bool} (hN : 20000 ≤ N) (ht : isT t) (wf : WfC c) (hn0 : 0 < ns c) : ∀ (r D e a d : Nat) (σ : St) (τ : Nat → Nat → Nat), r < D → e + r = 3 → a ≤ dt c 5 0 → d ≤ 99 → RepC t c σ → BI F σ → (∃ T, RepS 83 c T σ ∧ T 2 0 ≤ 99) → (∀ e' p', e' < 3 → p' < 7 → σ.1 (80 + e') p' = nI (τ e' p')) →
    Ok (fr_X6_rowsFrom N (RR t) D 0 68 t (nI e) (nI a) (nI d) σ) (fun x σ' => x = nI (rwN c F r e a d) ∧ RepC t c σ' ∧ BI F σ' ∧ (∃ T, RepS 83 c T σ' ∧ T 2 0 ≤ 99) ∧ (∀ e' p', e' < 3 → p' < 7 → σ'.1 (80 + e') p' = nI (τ e' p' + tlN c F r e a d e' p')) ∧ Ai (RFp t) σ σ') := by
  have hns := wf.2.1
  have hnh := wf.1
  have tl := isT_le ht
  have d5 := (wf.2.2.2.1 0 hn0).2.1
  intro r
  induction r with
  | zero =>
    intro D e a d σ τ hD her ha hd rc bi hT hτ
    obtain ⟨D', rfl⟩ : ∃ D', D = D' + 1 := ⟨D - 1, by omega⟩
    have e3 : e = 3 := by omega
    subst e3
    show Ok (fo_X6_rowsFrom N (RR t) 68 t (nI 3) (nI a) (nI d) (fr_X6_rowsFrom N (RR t) D' 0) σ) _
    unfold fo_X6_rowsFrom
    exact ok_neg (show ¬ nI 3 < 3 by decide) (ok_ret ⟨rfl, rc, bi, hT, fun e' p' h1 h2 => hτ e' p' h1 h2, ai_refl⟩)
  | succ r ih =>
    intro D e a d σ τ hD her ha hd rc bi hT hτ
    obtain ⟨D', rfl⟩ : ∃ D', D = D' + 1 := ⟨D - 1, by omega⟩
    show Ok (fo_X6_rowsFrom N (RR t) 68 t (nI e) (nI a) (nI d) (fr_X6_rowsFrom N (RR t) D' 0) σ) _
    unfold fo_X6_rowsFrom
    refine ok_pos (show nI e < nI 3 from nI_lt (by omega) (by decide)) ?_
    have i3 : ib (nI e) 3 = true := ib_nI (by omega) (by decide)
    refine lp (F := fun n p σ' => f_X6_rowsFrom_13 N (RR t) 68 t (nI e) (nI a) (nI d) (fr_X6_rowsFrom N (RR t) D' 0) n (nI (sumN (fun p => if F e (sp0 c a d e p) (sp1 c a d e p) = true then rwN c F r (e + 1) (sp0 c a d e p) (sp1 c a d e p) else 0) p)) (nI p) σ') (nh c + 1) (fun p σ' => RepC t c σ' ∧ BI F σ' ∧ (∃ T, RepS 83 c T σ' ∧ T 2 0 ≤ 99) ∧ (∀ e' p', e' < 3 → p' < 7 → σ'.1 (80 + e') p' = nI (τ e' p' + sumN (fun p => if F e (sp0 c a d e p) (sp1 c a d e p) = true then (if e' = e then (if p' = p then rwN c F r (e + 1) (sp0 c a d e p) (sp1 c a d e p) else 0) else tlN c F r (e + 1) (sp0 c a d e p) (sp1 c a d e p) e' p') else 0) p)) ∧ Ai (RFp t) σ σ') ?_ ?_ N 0 σ (Nat.zero_le _) (by omega) ⟨rc, bi, hT, fun e' p' h1 h2 => hτ e' p' h1 h2, ai_refl⟩
    · rintro n p σ1 hp ⟨rc1, bi1, ⟨T, rT, hT2⟩, hτ1, ai1⟩ kk
      show Ok (b_X6_rowsFrom_13 _ _ _ _ _ _ _ _ _ _ _ _) _
      unfold b_X6_rowsFrom_13
      rw [r_68_13 rfl, r_83_0 rfl, r_83_1 rfl, rc1.1]
      have sb := st_b (c := c) (a := a) (d := d) (e := e) (p := p) ha hd
      have cont : ∀ (σ5 : St) (T5 : SDat), RepC t c σ5 → BI F σ5 → RepS 83 c T5 σ5 → T5 0 0 = sp0 c a d e p → T5 1 0 = sp1 c a d e p → T5 2 0 ≤ 99 → (∀ e', e' < 3 → σ5.1 (80 + e') = σ1.1 (80 + e')) → Ai (RFp t) σ σ5 →
          Ok (f_X6_rowsFrom_97 N (RR t) 68 t (nI e) (nI a) (nI d) (fr_X6_rowsFrom N (RR t) D' 0) (f_X6_rowsFrom_13 N (RR t) 68 t (nI e) (nI a) (nI d) (fr_X6_rowsFrom N (RR t) D' 0) n) (nI (sumN (fun p => if F e (sp0 c a d e p) (sp1 c a d e p) = true then rwN c F r (e + 1) (sp0 c a d e p) (sp1 c a d e p) else 0) p)) (nI p) σ5) (fun x σ' => x = nI (rwN c F (r + 1) e a d) ∧ RepC t c σ' ∧ BI F σ' ∧ (∃ T, RepS 83 c T σ' ∧ T 2 0 ≤ 99) ∧ (∀ e' p', e' < 3 → p' < 7 → σ'.1 (80 + e') p' = nI (τ e' p' + tlN c F (r + 1) e a d e' p')) ∧ Ai (RFp t) σ σ') := by
        intro σ5 T5 rc5 bi5 rs5 z0 z1 z2 zt ai5
        have v0 : σ5.1 84 0 = nI (sp0 c a d e p) := by rw [← z0]; exact (rs5.1 0 hn0).1
        have v1 : σ5.1 85 0 = nI (sp1 c a d e p) := by rw [← z1]; exact (rs5.1 0 hn0).2.1
        unfold f_X6_rowsFrom_97 f_X6_rowsFrom_154
        rw [r_68_13 rfl, r_83_0 rfl, r_83_1 rfl, r_68_12 rfl, nI_clamp (show e < 2 ^ 31 by omega), r_79 rfl, nI_clamp (show p < 2 ^ 31 by omega), nI_1 p, nI_1 e]
        refine ok_bnd (s_fits bi5 (by omega) v0 v1 (by omega) (by omega)) ?_
        by_cases hF : F e (sp0 c a d e p) (sp1 c a d e p) = true
        · rw [if_pos hF]
          refine ok_neg (by decide) (ok_gd rfl (ok_gd rfl ?_))
          rw [show σ5.1 84 (0 : Int32).toNatClampNeg = _ from v0, show σ5.1 85 (0 : Int32).toNatClampNeg = _ from v1]
          refine ok_call (ih D' (e + 1) (sp0 c a d e p) (sp1 c a d e p) σ5 (fun e' p' => τ e' p' + sumN (fun p => if F e (sp0 c a d e p) (sp1 c a d e p) = true then (if e' = e then (if p' = p then rwN c F r (e + 1) (sp0 c a d e p) (sp1 c a d e p) else 0) else tlN c F r (e + 1) (sp0 c a d e p) (sp1 c a d e p) e' p') else 0) p) (by omega) (by omega) sb.1 sb.2 rc5 bi5 ⟨T5, rs5, z2⟩ (fun e' p' h1 h2 => by rw [zt e' h1]; exact hτ1 e' p' h1 h2)) (fun x σ6 h6 => ?_)
          obtain ⟨hx, rc6, bi6, hT6, hτ6, ai6⟩ := h6
          have ip : ib (nI p) 7 = true := ib_nI (by omega) (by decide)
          refine ok_gd i3 (ok_gd ip (ok_gd ip (ok_sI fun σ7 n7 u7 => ok_nmd ?_)))
          rw [hx, nI_add]
          have k3 := kk σ7 ⟨RepC_cg rc6 (fun q _ _ _ => n7 q (by omega)), BI_cg bi6 (fun q _ _ => n7 q (by omega)), by
            obtain ⟨T6, r6, b6⟩ := hT6
            exact ⟨T6, RepS_cg r6 (fun q _ _ => n7 q (by omega)), b6⟩, fun e' p' h1 h2 => ?_, ai_tr ai5 (ai_tr ai6 (ai_w n7 (by unfold RFp; omega)))⟩
          · rw [show sumN (fun p => if F e (sp0 c a d e p) (sp1 c a d e p) = true then rwN c F r (e + 1) (sp0 c a d e p) (sp1 c a d e p) else 0) (p + 1) = sumN (fun p => if F e (sp0 c a d e p) (sp1 c a d e p) = true then rwN c F r (e + 1) (sp0 c a d e p) (sp1 c a d e p) else 0) p + rwN c F r (e + 1) (sp0 c a d e p) (sp1 c a d e p) by rw [sumN, if_pos hF]] at k3
            exact k3
          · rw [sumN, if_pos hF, ← Nat.add_assoc]
            by_cases ee : e' = e
            · subst ee
              have t0 := hτ6 e' p' h1 h2
              rw [tlN_lo _ _ _ _ (by omega), Nat.add_zero] at t0
              rw [if_pos rfl, u7]
              by_cases ep : p' = p
              · subst ep
                rw [pk_us, if_pos rfl, t0, hx, nI_add]
              · rw [pk_un ep, if_neg ep, Nat.add_zero, t0]
            · rw [if_neg ee, n7 _ (by omega)]
              exact hτ6 e' p' h1 h2
        · rw [if_neg hF]
          have k3 := kk σ5 ⟨rc5, bi5, ⟨T5, rs5, z2⟩, fun e' p' h1 h2 => by rw [sumN, if_neg hF, Nat.add_zero, zt e' h1]; exact hτ1 e' p' h1 h2, ai5⟩
          rw [show sumN (fun p => if F e (sp0 c a d e p) (sp1 c a d e p) = true then rwN c F r (e + 1) (sp0 c a d e p) (sp1 c a d e p) else 0) (p + 1) = sumN (fun p => if F e (sp0 c a d e p) (sp1 c a d e p) = true then rwN c F r (e + 1) (sp0 c a d e p) (sp1 c a d e p) else 0) p by rw [sumN, if_neg hF, Nat.add_zero]] at k3
          exact ok_pos rfl k3
      refine ok_neg (nI_nlt (by omega) (by omega)) (ok_gd i3 (ok_neg (nI_ge (by omega) (by decide)) (ok_gd rfl (ok_sI fun σ2 n2 u2 => ok_gd rfl (ok_sI fun σ3 n3 u3 => ok_sI fun σ4 n4 u4 => ?_)))))
      have r2 := RepS_w (r := 0) (s := 0) (v := a) rT rfl (by decide) n2 u2 rfl
      have r3 := RepS_w (r := 1) (s := 0) (v := d) r2 rfl (by decide) n3 u3 rfl
      have r4 := RepS_w4 (j := 0) (v := e) r3 (by decide) n4 u4 rfl
      have nn : ∀ q, q ≠ 83 → q ≠ 84 → q ≠ 85 → σ4.1 q = σ1.1 q := fun q h1 h2 h3 => by rw [n4 q h1, n3 q h3, n2 q h2]
      have rc4 : RepC t c σ4 := RepC_cg rc1 (fun q _ _ _ => nn q (by omega) (by omega) (by omega))
      have bi4 : BI F σ4 := BI_cg bi1 (fun q _ _ => nn q (by omega) (by omega) (by omega))
      have ai4 : Ai (RFp t) σ σ4 := ai_tr ai1 (fun q hq => nn q (fun z => hq (by unfold RFp; omega)) (fun z => hq (by unfold RFp; omega)) (fun z => hq (by unfold RFp; omega)))
      have w0 : pu (pu (pu T 0 0 a) 1 0 d) 4 0 e 0 0 = a := by rw [pu_n (by omega), pu_n (by omega), pu_s]
      have w1 : pu (pu (pu T 0 0 a) 1 0 d) 4 0 e 1 0 = d := by rw [pu_n (by omega), pu_s]
      have w2 : pu (pu (pu T 0 0 a) 1 0 d) 4 0 e 2 0 = T 2 0 := by rw [pu_n (by omega), pu_n (by omega), pu_n (by omega)]
      have w4 : pu (pu (pu T 0 0 a) 1 0 d) 4 0 e 4 0 = e := pu_s
      generalize pu (pu (pu T 0 0 a) 1 0 d) 4 0 e = U at r4 w0 w1 w2 w4
      rw [rc4.1]
      by_cases hpn : p < nh c
      · refine ok_neg (nI_ge hpn (by omega)) (ok_call (s_kneel (s := 0) (m := 1) hN rfl ht q83 wf (by omega) (by omega) (by omega) rc4 r4 hn0 hpn (by decide) (by decide)) (fun _ σ5 h5 => ?_))
        have kl := kn_lo (c := c) (p := p) w0 w1 w4
        refine cont σ5 _ (RepC_sk ht q83 rc4 h5.2) (BI_cg bi4 (fun q h1 h2 => (h5.2 q (by unfold Sk Sc; omega)).1)) h5.1.2 (by rw [kl.1]; unfold sp0; rw [if_pos hpn]) (by rw [kl.2]; unfold sp1; rw [if_pos hpn]) ?_ (fun e' h1 => ?_) (ai_tr ai4 (ai_mono (ai_of h5.2) (fun q hq => by unfold Sk Sc at hq; unfold RFp Sc; omega)))
        · rw [kn_2]
          split <;> omega
        · rw [(h5.2 (80 + e') (by unfold Sk Sc; omega)).1, nn _ (by omega) (by omega) (by omega)]
      · refine ok_pos (nI_le (by omega) (by omega)) (ok_call (s_rest (s := 0) rfl ht q83 wf (by omega) rc4 r4 hn0) (fun _ σ5 h5 => ?_))
        refine cont σ5 _ (RepC_sk ht q83 rc4 h5.2) (BI_cg bi4 (fun q h1 h2 => (h5.2 q (by unfold Sk Sc; omega)).1)) h5.1 (by rw [pu_s, w0]; unfold sp0; rw [if_neg hpn]) (by rw [pu_n (by omega), w1]; unfold sp1; rw [if_neg hpn]) ?_ (fun e' h1 => ?_) (ai_tr ai4 (ai_mono (ai_of h5.2) (fun q hq => by unfold Sk Sc at hq; unfold RFp Sc; omega)))
        · rw [pu_n (by omega)]; omega
        · rw [(h5.2 (80 + e') (by unfold Sk Sc; omega)).1, nn _ (by omega) (by omega) (by omega)]
    · rintro n σ1 ⟨rc1, bi1, hT1, hτ1, ai1⟩
      show Ok (b_X6_rowsFrom_13 _ _ _ _ _ _ _ _ _ _ _ _) _
      unfold b_X6_rowsFrom_13 f_X6_rowsFrom_160
      rw [rc1.1]
      exact ok_pos (nI_lt (by omega) (by omega)) (ok_ret ⟨rfl, rc1, bi1, hT1, hτ1, ai1⟩)
set_option maxHeartbeats 1600000 in
theorem s_tallyRows {N t M T : Nat} {c : CDat} {mk : Nat → Nat → Nat} {k : Int32} {σ : St} (hN : 20000 ≤ N) (ht : isT t) (wf : WfC c) (hn0 : 0 < ns c) (rc : RepC t c σ) (mx : MX M T mk σ) (hM : M ≤ 30) (hok : ∀ j, j < M → MkOk mk j) :
    Ok (f_X6_tallyRows N (RR t) 68 t k σ) (fun r σ' => (r = nI (rwN c (fe mk k M) 3 0 (dt c 5 0) (dt c 7 0)) ∧ RepC t c σ' ∧ (∀ e p, e < 3 → p < 7 → σ'.1 (80 + e) p = nI (tlN c (fe mk k M) 3 0 (dt c 5 0) (dt c 7 0) e p)) ∧ Ai (ScX t) σ σ') ∧ σ'.2 6 = σ.2 6) := by
  have hns := wf.2.1
  have tl := isT_le ht
  have d7 := (wf.2.2.2.1 0 hn0).2.2.2
  refine ok_ag ?_ (fun r σ' e => ?_)
  · unfold f_X6_tallyRows
    rw [rc.2.1]
    refine ok_neg (nI_ne0 hn0 (by omega)) (ok_call (s_gather hN mx hM hok) (fun _ σ1 h1 => ?_))
    obtain ⟨b1, a1⟩ := h1
    have rc1 : RepC t c σ1 := RepC_cg rc (fun p _ _ _ => (a1 p (by omega)).1)
    refine lp (F := fun n i σ' => f_X6_tallyRows_16 N (RR t) 68 t k n (nI i) σ') 3 (fun i σ' => RepC t c σ' ∧ BI (fe mk k M) σ' ∧ (∀ e p, e < i → p < 7 → σ'.1 (80 + e) p = 0) ∧ Ai (ScX t) σ σ') ?_ ?_ N 0 σ1 (Nat.zero_le _) (by omega) ⟨rc1, b1, fun e p he => absurd he (by omega), ai_mono (ai_of a1) (fun p hp => by unfold ScX; omega)⟩
    · rintro n i σ2 hi ⟨rc2, b2, z2, ai2⟩ kk
      show Ok (b_X6_tallyRows_16 _ _ _ _ _ _ _ _) _
      unfold b_X6_tallyRows_16
      rw [r_68_12 rfl, nI_clamp (show i < 2 ^ 31 by omega), r_79 rfl, nI_1 i]
      refine ok_neg (show ¬ nI 3 ≤ nI i from nI_ge hi (by decide)) (ok_gd (ib_nI hi (by decide)) (ok_call (s_fillJ hN (by decide)) (fun _ σ3 h3 => ?_)))
      refine kk σ3 ⟨RepC_cg rc2 (fun p _ _ _ => (h3.2 p (by omega)).1), BI_cg b2 (fun p _ _ => (h3.2 p (by omega)).1), fun e p he hp => ?_, ai_tr ai2 (ai_mono (ai_of h3.2) (fun p hp => by unfold ScX; omega))⟩
      by_cases ee : e = i
      · subst ee; exact h3.1 p hp
      · rw [(h3.2 (80 + e) (by omega)).1]; exact z2 e p (by omega) hp
    · rintro n σ2 ⟨rc2, b2, z2, ai2⟩
      show Ok (b_X6_tallyRows_16 _ _ _ _ _ _ _ _) _
      unfold b_X6_tallyRows_16
      rw [r_68_13 rfl, rt5 rfl ht, rt7 rfl ht]
      refine ok_pos (show nI 3 ≤ nI 3 from Int32.le_refl _) (ok_call (s_begin hN ⟨t, rfl⟩ ht q83 wf rc2) (fun _ σ3 h3 => ok_gd rfl (ok_gd rfl ?_)))
      have rc3 : RepC t c σ3 := RepC_cg rc2 (fun p _ _ _ => (h3.2 p (by omega)).1)
      rw [show σ3.1 (t + 6) (0 : Int32).toNatClampNeg = nI (dt c 5 0) from rc3.2.2.2.2.2.2.1 5 0 (by decide) (by decide) hn0, show σ3.1 (t + 8) (0 : Int32).toNatClampNeg = nI (dt c 7 0) from rc3.2.2.2.2.2.2.1 7 0 (by decide) (by decide) hn0]
      refine ok_call (s_rowsFrom (F := fe mk k M) hN ht wf hn0 3 6 0 (dt c 5 0) (dt c 7 0) σ3 (fun _ _ => 0) (by decide) rfl (Nat.le_refl _) d7 rc3 (BI_cg b2 (fun p _ _ => (h3.2 p (by omega)).1)) ⟨_, h3.1, Nat.zero_le _⟩ (fun e' p' q1 q2 => by rw [(h3.2 (80 + e') (by omega)).1]; exact z2 e' p' q1 q2)) (fun x σ4 h4 => ok_ret ?_)
      obtain ⟨g1, g2, g3, g4, g5, g6⟩ := h4
      refine ⟨g1, g2, fun e p q1 q2 => ?_, ai_tr ai2 (ai_tr (ai_mono (ai_of h3.2) (fun p hp => by unfold ScX; omega)) (ai_mono g6 (fun p hp => by unfold RFp Sc at hp; unfold ScX; omega)))⟩
      have := g5 e p q1 q2
      rw [Nat.zero_add] at this
      exact this
  · have := m_X6_tallyRows e
    rw [r_68_8 rfl, r_68_9 rfl, r_68_10 rfl, r_68_11 rfl, r_68_12 rfl, r_68_13 rfl, rq0 rfl q83, rq1 rfl q83, rq2 rfl q83, rq3 rfl q83, rt8 rfl ht, rt9 rfl ht, rt10 rfl ht, rb1 rfl ht, rw1 rfl ht] at this
    refine (this 6 ?_).2
    rintro (z | z | z | z | z | ⟨j, z⟩ | z | z | z | z | z | z | z)
    · omega
    · omega
    · omega
    · omega
    · omega
    · rw [r_79 rfl] at z; omega
    · omega
    · omega
    · omega
    · omega
    · omega
    · omega
    · omega
