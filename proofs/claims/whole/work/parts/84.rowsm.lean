/-! ROWS, by the model -/
theorem n22d {i : Nat} (h : i < 22) : ¬ (22 : Int32) ≤ nI i := n22c h
set_option maxHeartbeats 800000 in
theorem s_beginM {N t : Nat} {c : CDat} {σ : St} (hN : 20000 ≤ N) (wf : WfC c) (rm : RepM c σ) :
    Ok (f_X12_begin N (RR t) 90 σ) (fun _ σ' => RepA 120 c (bgn c 0) σ' ∧ Ag (fun p => p = 120) σ σ') := by
  have hns := wf.2.1
  refine ok_ag ?_ (fun r σ' e => by have := m_X12_begin e; rw [r_90_57 rfl] at this; exact this)
  refine lp (F := fun n i σ' => f_X12_begin_2 N (RR t) 90 n (nI i) σ') 22 (fun i σ' => (∀ j, j < i → σ'.1 120 j = 0) ∧ ∀ p, p ≠ 120 → σ'.1 p = σ.1 p) ?_ ?_ N 0 σ (Nat.zero_le _) (by omega) ⟨fun j hj => absurd hj (by omega), fun _ _ => rfl⟩
  · rintro n i σ1 hi ⟨h1, n1⟩ kk
    show Ok (b_X12_begin_2 _ _ _ _ _ _) _
    unfold b_X12_begin_2
    rw [r_90_57 rfl, nI_clamp (show i < 2 ^ 31 by omega), nI_1 i]
    refine ok_neg (n22d hi) (ok_gd (ib_nI hi (by decide)) (ok_sI fun σ2 n2 u2 => kk σ2 ⟨fun j hj => ?_, fun p hp => by rw [n2 p hp, n1 p hp]⟩))
    rw [u2]
    by_cases e : j = i
    · subst e; rw [pk_us]
    · rw [pk_un e]; exact h1 j (by omega)
  · rintro n σ1 ⟨h1, n1⟩
    show Ok (b_X12_begin_2 _ _ _ _ _ _) _
    unfold b_X12_begin_2
    refine ok_pos (show (22 : Int32) ≤ nI 22 by decide) ?_
    refine lp (F := fun n i σ' => f_X12_begin_23 N (RR t) 90 n (nI i) σ') (ns c) (fun i σ' => (∀ s, s < i → σ'.1 120 s = nI (dt c 5 s) ∧ σ'.1 120 (5 + s) = nI (dt c 7 s) ∧ σ'.1 120 (15 + s) = -1) ∧ (∀ s, s < 5 → σ'.1 120 (10 + s) = 0) ∧ σ'.1 120 20 = 0 ∧ σ'.1 120 21 = 0 ∧ ∀ p, p ≠ 120 → σ'.1 p = σ.1 p) ?_ ?_ N 0 σ1 (Nat.zero_le _) (by omega) ⟨fun s hs => absurd hs (by omega), fun s hs => h1 _ (by omega), h1 20 (by decide), h1 21 (by decide), n1⟩
    · rintro n i σ2 hi ⟨q1, q2, q3, q4, n2⟩ kk
      show Ok (b_X12_begin_23 _ _ _ _ _ _) _
      unfold b_X12_begin_23
      rw [r_90_57 rfl, r_90_41 rfl, r_90_43 rfl, n5, n15, nI_clamp (show i < 2 ^ 31 by omega), nI_clamp (show 5 + i < 2 ^ 31 by omega), nI_clamp (show 15 + i < 2 ^ 31 by omega), nI_1 i, n2 90 (by decide), rm.2.1]
      have i5 : ib (nI i) 5 = true := ib_nI (by omega) (by decide)
      refine ok_neg (nI_ge hi (by omega)) (ok_gd i5 (ok_gd (ib_nI (by omega) (by decide)) (ok_sI fun σ3 n3 u3 => ok_gd i5 (ok_gd (ib_nI (by omega) (by decide)) (ok_sI fun σ4 n4 u4 => ok_gd (ib_nI (by omega) (by decide)) (ok_sI fun σ5 n5 u5 => ?_))))))
      rw [n2 116 (by decide), show σ.1 116 i = nI (dt c 5 i) from rm.2.2.2.2.2.2.1 5 i (by decide) (by decide) hi] at u3
      rw [n3 118 (by decide), n2 118 (by decide), show σ.1 118 i = nI (dt c 7 i) from rm.2.2.2.2.2.2.1 7 i (by decide) (by decide) hi] at u4
      refine kk σ5 ⟨fun s hs => ?_, fun s hs => ?_, ?_, ?_, fun p hp => by rw [n5 p hp, n4 p hp, n3 p hp, n2 p hp]⟩
      · by_cases e : s = i
        · subst e
          refine ⟨?_, ?_, ?_⟩
          · rw [u5, pk_un (by omega), u4, pk_un (by omega), u3, pk_us]
          · rw [u5, pk_un (by omega), u4, pk_us]
          · rw [u5, pk_us]
        · have := q1 s (by omega)
          refine ⟨?_, ?_, ?_⟩
          · rw [u5, pk_un (by omega), u4, pk_un (by omega), u3, pk_un (by omega)]; exact this.1
          · rw [u5, pk_un (by omega), u4, pk_un (by omega), u3, pk_un (by omega)]; exact this.2.1
          · rw [u5, pk_un (by omega), u4, pk_un (by omega), u3, pk_un (by omega)]; exact this.2.2
      · rw [u5, pk_un (by omega), u4, pk_un (by omega), u3, pk_un (by omega)]; exact q2 s hs
      · rw [u5, pk_un (by omega), u4, pk_un (by omega), u3, pk_un (by omega)]; exact q3
      · rw [u5, pk_un (by omega), u4, pk_un (by omega), u3, pk_un (by omega)]; exact q4
    · rintro n σ2 ⟨q1, q2, q3, q4, n2⟩
      show Ok (b_X12_begin_23 _ _ _ _ _ _) _
      unfold b_X12_begin_23
      rw [n2 90 (by decide), rm.2.1]
      exact ok_pos (Int32.le_refl _) (ok_ret ⟨fun s hs => ⟨(q1 s hs).1, (q1 s hs).2.1, q2 s (by omega), (q1 s hs).2.2⟩, q3, q4⟩)
theorem ev_alone {c : CDat} {U : SDat} {s h : Nat} (hs : s < ns c) (h3 : ∀ k, U 3 k = if decide (k = s) = true then h + 1 else 0) : ∀ r, r < 3 → ev c U (fun _ => false) r s = kn c U s h 1 r s := by
  intro r hr
  have eat : atH U h = fun k => decide (k = s) := by
    funext k
    unfold atH
    rw [h3 k]
    by_cases e : k = s <;> simp [e]
  have em : mny c U h = 1 := by unfold mny; rw [eat]; exact cnt_one hs
  have eq : ¬ qrl c U h = true := by unfold qrl; rw [eat]; exact qn_one
  have e3 : U 3 s = h + 1 := by rw [h3 s]; simp
  have hk := Tm_kn (k := fun _ => false) e3 rfl eq
  rw [em] at hk
  have e1 : ev c U (fun _ => false) r s = Tm c U (fun _ => false) (s + 1) r s := by simp [Tm, hr]
  rw [e1, ← hk]
  exact kn_cg Tm_i Tm_i Tm_i Tm4 r hr
theorem ev_rest {c : CDat} {U : SDat} {k : Nat → Bool} {s : Nat} (e : U 3 s = 0) : ev c U k 0 s = min (dt c 5 s) (U 0 s + 2) ∧ ev c U k 1 s = U 1 s := by
  have hf : evF c U k s = 0 := by
    unfold evF
    rw [if_neg (fun z => z.1 e)]
    exact fare_0.mpr e
  refine ⟨?_, ?_⟩
  · show ev0 c U (evF c U k s) s = _
    rw [hf]
    rfl
  · show (if evF c U k s = 1 then min 99 (U 1 s + evL c U s / 5) else U 1 s) = _
    rw [hf, if_neg (by decide)]
def rAq (c : CDat) (q : Nat → Nat) : Nat → Nat × Nat
  | 0 => (dt c 5 0, dt c 7 0)
  | e + 1 => (sp0 c (rAq c q e).1 (rAq c q e).2 e (q e), sp1 c (rAq c q e).1 (rAq c q e).2 e (q e))
theorem rAq_b {c : CDat} {q : Nat → Nat} (h7 : dt c 7 0 ≤ 99) : ∀ e, (rAq c q e).1 ≤ dt c 5 0 ∧ (rAq c q e).2 ≤ 99
  | 0 => ⟨Nat.le_refl _, h7⟩
  | e + 1 => by
    have := rAq_b (q := q) h7 e
    exact st_b this.1 this.2
def dgt (m code e : Nat) : Nat := code / m ^ e % m
def mf3 (c : CDat) (mk : Nat → Nat → Nat) (k : Int32) (q : Nat → Nat) (j : Nat) : Bool := !(mc mk k j) || (mso mk j (rAq c q (mk j 0)).1 (rAq c q (mk j 0)).2 == decide (mk j 3 = 1))
def gfit (c : CDat) (mk : Nat → Nat → Nat) (k : Int32) (M code : Nat) : Bool := al (mf3 c mk k (dgt (nh c + 1) code)) M
def gn (c : CDat) (mk : Nat → Nat → Nat) (k : Int32) (M code : Nat) : Nat := if gfit c mk k M code = true then 1 else 0
def gt (c : CDat) (mk : Nat → Nat → Nat) (k : Int32) (M e p code : Nat) : Nat := if gfit c mk k M code = true then (if dgt (nh c + 1) code e = p then 1 else 0) else 0
theorem one_bits : (1 : Int32) = bits (fun k => decide (k = 0)) 6 := by decide +kernel
def Was (c : CDat) (q : Nat → Nat) (e : Nat) (σ : St) : Prop := ∀ i, i < e → σ.1 134 i = nI (q i) ∧ σ.1 135 i = nI (rAq c q (i + 1)).2 ∧ σ.1 136 i = nI (rAq c q (i + 1)).1
theorem s_isSo {N t M T j : Nat} {c : CDat} {mk : Nat → Nat → Nat} {q : Nat → Nat} {σ : St} (h7 : dt c 7 0 ≤ 99) (h5 : dt c 5 0 ≤ 99) (mm : MM M T mk σ) (ok : MkOk mk j) (hj : j < M) (hM : M ≤ 30) (w : Was c q 3 σ) : f_X12_isSo N (RR t) 90 (nI j) σ = some (fl (mso mk j (rAq c q (mk j 0)).1 (rAq c q (mk j 0)).2), σ) := by
  obtain ⟨k0, k0', k1, k2, k3, k4, k5⟩ := ok
  obtain ⟨x0, x1, x2, x3, x4, x5⟩ := mm.2.2 j hj
  have i30 : ib (nI j) 30 = true := ib_nI (by omega) (by decide)
  have rb := rAq_b (q := q) h7 (mk j 0)
  have ww := w (mk j 0 - 1) (by omega)
  rw [show mk j 0 - 1 + 1 = mk j 0 by omega] at ww
  refine ok_is ?_
  unfold f_X12_isSo f_X12_isSo_33 f_X12_isSo_47
  rw [r_90_68 rfl, r_90_69 rfl, r_90_70 rfl, r_90_77 rfl, r_90_78 rfl, nI_clamp (show j < 2 ^ 31 by omega), x0, x1, x2, show nI (mk j 0) - 1 = nI (mk j 0 - 1) from pk_sub k0]
  refine ok_gd i30 (ok_nmd (ok_gd i30 ?_))
  rw [nI_clamp (show mk j 0 - 1 < 2 ^ 31 by omega), ww.2.1, ww.2.2]
  unfold mso
  by_cases hs : mk j 1 = 0
  · rw [if_pos hs]
    refine ok_pos (by rw [hs]; rfl) (ok_gd (ib_nI (by omega) (by decide)) (ok_gd i30 ?_))
    by_cases h : mk j 2 ≤ (rAq c q (mk j 0)).2
    · exact ok_neg (nI_nlt h (by omega)) (ok_gd rfl (ok_ret ⟨by simp [fl, h], rfl⟩))
    · exact ok_pos (nI_lt (by omega) (by omega)) (ok_gd rfl (ok_ret ⟨by simp [fl, h], rfl⟩))
  · rw [if_neg hs]
    refine ok_neg (nI_ne0 (by omega) (by omega)) (ok_gd (ib_nI (by omega) (by decide)) (ok_gd i30 ?_))
    by_cases h : mk j 2 ≤ (rAq c q (mk j 0)).1
    · exact ok_neg (nI_nlt h (by omega)) (ok_gd rfl (ok_ret ⟨by simp [fl, h], rfl⟩))
    · exact ok_pos (nI_lt (by omega) (by omega)) (ok_gd rfl (ok_ret ⟨by simp [fl, h], rfl⟩))
def Tly (f : Nat → Nat → Nat) (σ : St) : Prop := ∀ e p, e < 3 → p < 7 → σ.1 137 (7 * e + p) = nI (f e p)
theorem m7 (x y : Nat) : (7 : Int32) * nI x + nI y = nI (7 * x + y) := by
  rw [show (7 : Int32) * nI x = nI (7 * x) from pk_mul 7 x, nI_add]
def LRs (p : Nat) : Prop := p = 100 ∨ p = 102 ∨ (120 ≤ p ∧ p ≤ 123) ∨ (134 ≤ p ∧ p ≤ 136)
set_option maxHeartbeats 1600000 in

theorem s_evenings {N t code : Nat} {c : CDat} {k x2 x3 : Int32} {σ : St} {rec25 : Int32 → Int32 → St → Option (Int32 × St)} {Q : Int32 → St → Prop} (hN : 20000 ≤ N) (wf : WfC c) (hn0 : 0 < ns c) (hcode : code < 2 ^ 30) (rm : RepM c σ) (hx : σ.1 90 27 = 0) (ra : RepA 120 c (bgn c 0) σ)
    (kk : ∀ σ', Ai LRs σ σ' → Was c (dgt (nh c + 1) code) 3 σ' → Ok (f_X12_layRows_162 N (RR t) 90 k rec25 N x2 x3 1 0 σ') Q) : Ok (f_X12_layRows_56 N (RR t) 90 k rec25 N x2 x3 (nI code) 0 σ) Q := by
  have hns := wf.2.1
  have hnh := wf.1
  have d7 := (wf.2.2.2.1 0 hn0).2.2.2
  have hm0 : 0 < nh c + 1 := by omega
  refine ok_cast (b := f_X12_layRows_56 N (RR t) 90 k rec25 N x2 x3 (nI (code / (nh c + 1) ^ 0)) (nI 0) σ) (by rw [Nat.pow_zero, Nat.div_one]; rfl) ?_
  refine lp (F := fun n e σ' => f_X12_layRows_56 N (RR t) 90 k rec25 n x2 x3 (nI (code / (nh c + 1) ^ e)) (nI e) σ') 3 (fun e σ' => (∃ U, WfS c U ∧ RepA 120 c U σ' ∧ U 0 0 = (rAq c (dgt (nh c + 1) code) e).1 ∧ U 1 0 = (rAq c (dgt (nh c + 1) code) e).2 ∧ U 4 0 = e) ∧ Was c (dgt (nh c + 1) code) e σ' ∧ Ai LRs σ σ') ?_ ?_ N 0 σ (Nat.zero_le _) (by omega) ⟨⟨bgn c 0, bgn_wf wf (by decide), ra, rfl, rfl, rfl⟩, fun i hi => absurd hi (by omega), ai_refl⟩
  · rintro n e σ1 he ⟨⟨U, wU, rU, u0, u1, u4⟩, w1, ai1⟩ kk2
    have e90 : σ1.1 90 = σ.1 90 := ai1 90 (by unfold LRs; omega)
    have rm1 : RepM c σ1 := RepM_cg rm (fun p hp => ai1 p (by unfold LRs; omega))
    have hx1 : σ1.1 90 27 = 0 := by rw [e90]; exact hx
    have hq : dgt (nh c + 1) code e < nh c + 1 := Nat.mod_lt _ hm0
    have hrest : code / (nh c + 1) ^ e < 2 ^ 30 := Nat.lt_of_le_of_lt (Nat.div_le_self _ _) hcode
    have i3 : ib (nI e) 3 = true := ib_nI he (by decide)
    have nzm : nz (nI (nh c + 1)) = true := nz_t (nI_ne0 hm0 (by omega))
    show Ok (b_X12_layRows_56 _ _ _ _ _ _ _ _ _ _ _) _
    unfold b_X12_layRows_56
    rw [rm1.1, nI_1 (nh c), r_90_76 rfl, nI_clamp (show e < 2 ^ 31 by omega), show irem (nI (code / (nh c + 1) ^ e)) (nI (nh c + 1)) = nI (code / (nh c + 1) ^ e % (nh c + 1)) from pk_rem (by omega) hm0 (by omega)]
    refine ok_neg (show ¬ nI 3 ≤ nI e from nI_ge he (by decide)) (ok_gd nzm (ok_gd i3 (ok_sI fun σ2 n2 u2 => ?_)))
    have rm2 : RepM c σ2 := RepM_cg rm1 (fun p hp => n2 p (by omega))
    have hx2 : σ2.1 90 27 = 0 := by rw [n2 90 (by decide)]; exact hx1
    have rU2 : RepA 120 c U σ2 := RepA_cg rU (n2 120 (by decide))
    rw [rm2.1, nI_1 (nh c), pk_div (by omega) hm0 (by omega), Nat.div_div_eq_div_mul, ← Nat.pow_succ, u2, pk_us]
    refine ok_gd nzm (ok_nmd (ok_gd i3 ?_))
    have cont : ∀ (x : Int32) (v : Nat), x = sv v → v ≤ nh c → (∀ T, WfS c T → T 0 0 = (rAq c (dgt (nh c + 1) code) e).1 → T 1 0 = (rAq c (dgt (nh c + 1) code) e).2 → T 4 0 = e → (∀ k, T 3 k = if decide (k = 0) = true then v else 0) → ev c T (fun _ => false) 0 0 = (rAq c (dgt (nh c + 1) code) (e + 1)).1 ∧ ev c T (fun _ => false) 1 0 = (rAq c (dgt (nh c + 1) code) (e + 1)).2) → Ok (f_X12_layRows_116 N (RR t) 90 k rec25 (f_X12_layRows_56 N (RR t) 90 k rec25 n) x2 x3 (nI (code / (nh c + 1) ^ (e + 1))) (nI e) x 1 σ2) Q := by
      intro x v hxv hv hev
      unfold f_X12_layRows_116
      rw [r_90_57 rfl, r_90_77 rfl, r_90_78 rfl, nI_clamp (show e < 2 ^ 31 by omega), nI_1 e]
      refine ok_call (P := fun _ σ' => RepA 120 c (jst U (fun k => decide (k = 0)) v) σ' ∧ Ag (fun p => p = 120) σ2 σ') (by rw [one_bits]; exact s_sendJust hN rfl wf rm2 rU2 (show ns c ≤ 6 by omega) (by decide) hxv) (fun _ σ3 h3 => ?_)
      have a3 := s1_of h3.2
      have wJ : WfS c (jst U (fun k => decide (k = 0)) v) := jst_wf wU hv
      have ez := hev _ wJ (by rw [jst_n (by decide)]; exact u0) (by rw [jst_n (by decide)]; exact u1) (by rw [jst_n (by decide)]; exact u4) (fun k => jst_3)
      refine ok_call (s_goEve0 hN rfl wf wJ (RepM_s1 rm2 a3) h3.1 (by rw [s1_90 a3]; exact hx2)) (fun _ σ4 h4 => ?_)
      have v0 : σ4.1 120 (0 : Int32).toNatClampNeg = nI (rAq c (dgt (nh c + 1) code) (e + 1)).1 := by rw [← ez.1]; exact (h4.1.1 0 hn0).1
      have v1 : σ4.1 120 (5 : Int32).toNatClampNeg = nI (rAq c (dgt (nh c + 1) code) (e + 1)).2 := by rw [← ez.2]; exact (h4.1.1 0 hn0).2.1
      rw [v1]
      refine ok_gd rfl (ok_gd i3 (ok_sI fun σ5 n5 u5 => ?_))
      rw [n5 120 (by decide), v0]
      refine ok_gd rfl (ok_gd i3 (ok_sI fun σ6 n6 u6 => ?_))
      have g4 : ∀ p, ¬ LRs p → σ4.1 p = σ2.1 p := fun p hp => by
        rw [(h4.2 p (fun z => hp (by unfold Se at z; unfold LRs; omega))).1, (h3.2 p (fun z => hp (by unfold LRs; omega))).1]
      have w4 : ∀ p, 134 ≤ p → σ4.1 p = σ2.1 p := fun p hp => by
        rw [(h4.2 p (fun z => by unfold Se at z; omega)).1, (h3.2 p (by omega)).1]
      refine kk2 σ6 ⟨⟨_, ev_wf wf wJ (by rw [jst_n (by decide), u4]; omega), RepA_cg h4.1 (by rw [n6 120 (by decide), n5 120 (by decide)]), ez.1, ez.2, by rw [ev40, jst_n (by decide), u4]⟩, fun i hi => ?_, fun p hp => ?_⟩
      · by_cases ei : i = e
        · subst ei
          refine ⟨?_, ?_, ?_⟩
          · rw [n6 134 (by decide), n5 134 (by decide), w4 134 (by decide), u2, pk_us]
            rfl
          · rw [n6 135 (by decide), u5, pk_us]
          · rw [u6, pk_us]
        · have := w1 i (by omega)
          refine ⟨?_, ?_, ?_⟩
          · rw [n6 134 (by decide), n5 134 (by decide), w4 134 (by decide), u2, pk_un ei]; exact this.1
          · rw [n6 135 (by decide), u5, pk_un ei, w4 135 (by decide), n2 135 (by decide)]; exact this.2.1
          · rw [u6, pk_un ei, n5 136 (by decide), w4 136 (by decide), n2 136 (by decide)]; exact this.2.2
      · rw [n6 p (fun z => hp (by unfold LRs; omega)), n5 p (fun z => hp (by unfold LRs; omega)), g4 p hp, n2 p (fun z => hp (by unfold LRs; omega)), ai1 p hp]
    by_cases hqn : dgt (nh c + 1) code e = nh c
    · refine ok_pos (by rw [show code / (nh c + 1) ^ e % (nh c + 1) = nh c from hqn]) (cont (-1) 0 rfl (Nat.zero_le _) (fun T wT t0 t1 t4 t3 => ?_))
      have := ev_rest (c := c) (U := T) (k := fun _ => false) (s := 0) (by rw [t3 0]; rfl)
      rw [this.1, this.2, t0, t1]
      refine ⟨?_, ?_⟩
      · show _ = sp0 c _ _ e (dgt (nh c + 1) code e)
        unfold sp0
        rw [if_neg (by omega)]
      · show _ = sp1 c _ _ e (dgt (nh c + 1) code e)
        unfold sp1
        rw [if_neg (by omega)]
    · refine ok_neg (fun z => hqn ((nI_eq (show code / (nh c + 1) ^ e % (nh c + 1) < 2 ^ 31 from by unfold dgt at hq; omega) (by omega)).mp z)) (ok_gd i3 (cont (nI (dgt (nh c + 1) code e)) (dgt (nh c + 1) code e + 1) rfl (by omega) (fun T wT t0 t1 t4 t3 => ?_)))
      have ea := ev_alone (c := c) (U := T) hn0 t3
      rw [ea 0 (by decide), ea 1 (by decide), (kn_lo t0 t1 t4).1, (kn_lo t0 t1 t4).2]
      refine ⟨?_, ?_⟩
      · show _ = sp0 c _ _ e (dgt (nh c + 1) code e)
        unfold sp0
        rw [if_pos (by omega)]
      · show _ = sp1 c _ _ e (dgt (nh c + 1) code e)
        unfold sp1
        rw [if_pos (by omega)]
  · rintro n σ1 ⟨_, w1, ai1⟩
    show Ok (b_X12_layRows_56 _ _ _ _ _ _ _ _ _ _ _) _
    unfold b_X12_layRows_56
    exact ok_pos (show nI 3 ≤ nI 3 from Int32.le_refl _) (kk σ1 ai1 w1)
