/-! ROWS: the words, and the class's -/
theorem Iv_xw {t : Nat} {c : CDat} {S : SDat} {σ σ' : St} (h : Iv t c S σ) (a : Ai (ScX t) σ σ') (w : σ'.2 6 = σ.2 6) : Iv t c S σ' := by
  have h' := h
  obtain ⟨ht, wf, ws, hd, ⟨rc, rs⟩, ⟨rm, ra, hx⟩, hhist, hbox, hlie, hflt, ⟨M, T, mk, hmem⟩, ⟨L, bt, htap⟩, hwrd⟩ := h'
  have tl := isT_le ht
  have y : ∀ p, p ≤ 6 ∨ (68 ≤ p ∧ p ≤ 74) ∨ 89 ≤ p → σ'.1 p = σ.1 p := fun p hp => a p (by unfold ScX; omega)
  exact Iv_gen h (fun p hp => a p (by unfold CoreP at hp; unfold ScX; omega)) (fun k _ => by rw [y 90 (by omega)]) (LieI_cg hlie (by rw [y 0 (by omega)]) (by rw [y 90 (by omega)]) (y 89 (by omega)) (y 125 (by omega))) (FltI_cg hflt (by rw [y 0 (by omega)]) (by rw [y 0 (by omega)]) (by rw [y 90 (by omega)]) (by rw [y 90 (by omega)])) ⟨M, T, mk, MemI_cg hmem (y 68 (by omega)) (by rw [y 90 (by omega)]) (by rw [y 90 (by omega)]) (fun p h1 h2 => y p (by omega)) (fun p h1 h2 => y p (by omega))⟩ ⟨L, bt, TapI_cg htap (y 4 (by omega)) (by rw [y 90 (by omega)]) (y 91 (by omega)) (y 5 (by omega))⟩ (WrdI_cg hwrd w)
theorem api_gw {f g : (Nat → Nat → Nat) → St → Option (Int32 × St)} (h : ∀ c S M T mk, WfC c → WfS c S → S 4 0 ≤ 999 → M ≤ 30 → (∀ j, j < M → MkOk mk j) → ∃ v, (∀ t σ, isT t → RepC t c σ → MX M T mk σ → Ok (f (RR t) σ) (fun r σ' => r = v ∧ Ai (ScX t) σ σ' ∧ σ'.2 6 = σ.2 6)) ∧ ∀ t σ1, RepM c σ1 → σ1.1 90 27 = 0 → MM M T mk σ1 → Ok (g (RR t) σ1) (fun r σ' => r = v ∧ Ag ScM σ1 σ')) : Api Inv f g := by
  intro ρ σ hI
  obtain ⟨t, c, S, rfl, hi⟩ := hI
  have hi' := hi
  obtain ⟨ht, wf, ws, hd, ⟨rc, rs⟩, ⟨rm, ra, hx⟩, hhist, hbox, hlie, hflt, ⟨M, T, mk, hmem⟩, ⟨L, bt, htap⟩, hwrd⟩ := hi'
  obtain ⟨v, h1, h2⟩ := h c S M T mk wf ws hd hmem.1 (fun j hj => (hmem.2.2.2.2.2.2 j hj).1)
  obtain ⟨r1, σ1, e1, rfl, a1, w1⟩ := h1 t σ ht rc (MX_of hmem)
  have hi1 := Iv_xw hi a1 w1
  have tl := isT_le ht
  have y : ∀ p, 90 ≤ p → σ1.1 p = σ.1 p := fun p hp => a1 p (by unfold ScX; omega)
  obtain ⟨r2, σ2, e2, rfl, a2⟩ := h2 t σ1 (RepM_cg rm (fun p hp => y p (by omega))) (by rw [y 90 (by decide)]; exact hx) (MM_cg (MM_of hmem) (y 90 (by decide)) (fun p h1 h2 => y p (by omega)))
  exact ⟨r2, σ1, σ2, e1, e2, t, c, S, rfl, Iv_m hi1 a2⟩
def lo (a d e : Nat) : SDat := fun r _ => match r with
  | 0 => a
  | 1 => d
  | 4 => e
  | _ => 0
def sp0 (c : CDat) (a d e p : Nat) : Nat := if p < nh c then kn c (lo a d e) 0 p 1 0 0 else min (dt c 5 0) (a + 2)
def sp1 (c : CDat) (a d e p : Nat) : Nat := if p < nh c then kn c (lo a d e) 0 p 1 1 0 else d
theorem kn_lo {c : CDat} {T : SDat} {a d e p : Nat} (h0 : T 0 0 = a) (h1 : T 1 0 = d) (h4 : T 4 0 = e) : kn c T 0 p 1 0 0 = kn c (lo a d e) 0 p 1 0 0 ∧ kn c T 0 p 1 1 0 = kn c (lo a d e) 0 p 1 1 0 := by
  have e0 : T 0 0 = lo a d e 0 0 := h0
  have e1 : T 1 0 = lo a d e 1 0 := h1
  have e4 : T 4 0 = lo a d e 4 0 := h4
  refine ⟨?_, ?_⟩
  · rw [kn_0, kn_0, ld_cg e0 e1 e4, wr_cg e0 e1 e4, e0]
  · rw [kn_1, kn_1, ld_cg e0 e1 e4, e0, e1]
theorem st_b {c : CDat} {a d e p : Nat} (ha : a ≤ dt c 5 0) (hd : d ≤ 99) : sp0 c a d e p ≤ dt c 5 0 ∧ sp1 c a d e p ≤ 99 := by
  unfold sp0 sp1
  by_cases h : p < nh c
  · rw [if_pos h, if_pos h, kn_0, kn_1]
    have e0 : lo a d e 0 0 = a := rfl
    have e1 : lo a d e 1 0 = d := rfl
    rw [e0, e1]
    by_cases hl : ld c (lo a d e) 0 p 1 0 ≤ nI a
    · rw [if_pos hl, if_pos hl]; omega
    · rw [if_neg hl, if_neg hl]; omega
  · rw [if_neg h, if_neg h]; omega
def mc (mk : Nat → Nat → Nat) (k : Int32) (j : Nat) : Bool := !decide (k < nI (mk j 4)) && !(decide (mk j 5 ≠ 0) && decide (sv (mk j 5) ≤ k))
def mso (mk : Nat → Nat → Nat) (j a d : Nat) : Bool := decide (mk j 2 ≤ (if mk j 1 = 0 then d else a))
def mfit (mk : Nat → Nat → Nat) (k : Int32) (e a d j : Nat) : Bool := !(mc mk k j && decide (mk j 0 = e + 1)) || (mso mk j a d == decide (mk j 3 = 1))
def fe (mk : Nat → Nat → Nat) (k : Int32) (M e a d : Nat) : Bool := al (mfit mk k e a d) M
def sumN (f : Nat → Nat) : Nat → Nat
  | 0 => 0
  | n + 1 => sumN f n + f n
def rwN (c : CDat) (F : Nat → Nat → Nat → Bool) : Nat → Nat → Nat → Nat → Nat
  | 0, _, _, _ => 1
  | r + 1, e, a, d => sumN (fun p => if F e (sp0 c a d e p) (sp1 c a d e p) = true then rwN c F r (e + 1) (sp0 c a d e p) (sp1 c a d e p) else 0) (nh c + 1)
def tlN (c : CDat) (F : Nat → Nat → Nat → Bool) : Nat → Nat → Nat → Nat → Nat → Nat → Nat
  | 0, _, _, _, _, _ => 0
  | r + 1, e, a, d, e', p' => sumN (fun p => if F e (sp0 c a d e p) (sp1 c a d e p) = true then (if e' = e then (if p' = p then rwN c F r (e + 1) (sp0 c a d e p) (sp1 c a d e p) else 0) else tlN c F r (e + 1) (sp0 c a d e p) (sp1 c a d e p) e' p') else 0) (nh c + 1)
theorem sumN_0 {f : Nat → Nat} : ∀ {n : Nat}, (∀ i, i < n → f i = 0) → sumN f n = 0
  | 0, _ => rfl
  | n + 1, h => by
    rw [sumN, sumN_0 (fun i hi => h i (by omega)), h n (by omega)]
theorem tlN_lo {c : CDat} {F : Nat → Nat → Nat → Bool} {e' p' : Nat} : ∀ (r e a d : Nat), e' < e → tlN c F r e a d e' p' = 0 := by
  intro r
  induction r with
  | zero => intro e a d _; rfl
  | succ r ih =>
    intro e a d h
    rw [tlN]
    refine sumN_0 (fun i _ => ?_)
    by_cases hF : F e (sp0 c a d e i) (sp1 c a d e i) = true
    · rw [if_pos hF, if_neg (by omega)]
      exact ih (e + 1) _ _ (by omega)
    · rw [if_neg hF]
/-- bounds, as the class gathers them -/
def BI (F : Nat → Nat → Nat → Bool) (σ : St) : Prop := ∃ G : Nat → Nat → Nat, ∀ e, e < 3 → (σ.1 75 e = nI (G 0 e) ∧ σ.1 76 e = nI (G 1 e) - 1 ∧ σ.1 77 e = nI (G 2 e) ∧ σ.1 78 e = nI (G 3 e) - 1) ∧ (G 0 e ≤ 100 ∧ G 1 e ≤ 100 ∧ G 2 e ≤ 100 ∧ G 3 e ≤ 100) ∧ ∀ a d, a ≤ 99 → d ≤ 99 → ((G 0 e ≤ d ∧ d < G 1 e ∧ G 2 e ≤ a ∧ a < G 3 e) ↔ F e a d = true)
theorem BI_cg {F : Nat → Nat → Nat → Bool} {σ σ' : St} (h : BI F σ) (e : ∀ p, 75 ≤ p → p ≤ 78 → σ'.1 p = σ.1 p) : BI F σ' := by
  obtain ⟨G, h⟩ := h
  refine ⟨G, fun i hi => ?_⟩
  rw [e 75 (by decide) (by decide), e 76 (by decide) (by decide), e 77 (by decide) (by decide), e 78 (by decide) (by decide)]
  exact h i hi
theorem BI_pt {F F' : Nat → Nat → Nat → Bool} {σ : St} (h : BI F σ) (e : ∀ i a d, i < 3 → F' i a d = F i a d) : BI F' σ := by
  obtain ⟨G, h⟩ := h
  refine ⟨G, fun i hi => ⟨(h i hi).1, (h i hi).2.1, fun a d ha hd => ?_⟩⟩
  rw [e i a d hi]
  exact (h i hi).2.2 a d ha hd
theorem m1_lt {n d : Nat} (hn : n < 2 ^ 30) (hd : d < 2 ^ 30) : nI n - 1 < nI d ↔ n ≤ d := by
  have e : (nI n - nI 1).toInt = (n : Int) - 1 := pk_sub_toInt hn (by decide)
  have e : (nI n - 1).toInt = (n : Int) - 1 := e
  rw [Int32.lt_iff_toInt_lt, e, nI_toInt (by omega)]
  omega
theorem m1_min {h b : Nat} (hh : h < 2 ^ 30) (hb : b < 2 ^ 30) : mmin (nI h - 1) (nI b - 1) = nI (min h b) - 1 := by
  have e1 : (nI h - nI 1).toInt = (h : Int) - 1 := pk_sub_toInt hh (by decide)
  have e1 : (nI h - 1).toInt = (h : Int) - 1 := e1
  have e2 : (nI b - nI 1).toInt = (b : Int) - 1 := pk_sub_toInt hb (by decide)
  have e2 : (nI b - 1).toInt = (b : Int) - 1 := e2
  unfold mmin
  by_cases z : b < h
  · rw [if_pos (by rw [Int32.lt_iff_toInt_lt, e1, e2]; omega), Nat.min_eq_right (by omega)]
  · rw [if_neg (by rw [Int32.lt_iff_toInt_lt, e1, e2]; omega), Nat.min_eq_left (by omega)]
set_option maxHeartbeats 400000 in
theorem s_narrow {N t A B M T j l h : Nat} {mk : Nat → Nat → Nat} {σ : St} (mx : MX M T mk σ) (ok : MkOk mk j) (hj : j < M) (hM : M ≤ 30) (hl : σ.1 A (mk j 0 - 1) = nI l) (hh : σ.1 B (mk j 0 - 1) = nI h - 1) (bl : l ≤ 100) (bh : h ≤ 100) :
    Ok (f_X6_narrow N (RR t) 68 A 3 B 3 (nI j) σ) (fun _ σ' => (mk j 3 = 0 ∧ σ'.1 B = upd (σ.1 B) (mk j 0 - 1) (nI (min h (mk j 2)) - 1) ∧ ∀ p, p ≠ B → σ'.1 p = σ.1 p) ∨ (mk j 3 = 1 ∧ σ'.1 A = upd (σ.1 A) (mk j 0 - 1) (nI (max l (mk j 2))) ∧ ∀ p, p ≠ A → σ'.1 p = σ.1 p)) := by
  obtain ⟨k0, k0', k1, k2, k3, k4, k5⟩ := ok
  obtain ⟨x0, x1, x2, x3, x4, x5⟩ := mx.2.2 j hj
  have i30 : ib (nI j) 30 = true := ib_nI (by omega) (by decide)
  have i3 : ib (nI (mk j 0 - 1)) 3 = true := ib_nI (by omega) (by decide)
  unfold f_X6_narrow f_X6_narrow_70
  rw [r_68_0 rfl, r_68_2 rfl, r_68_3 rfl, nI_clamp (show j < 2 ^ 31 by omega), x0, x2, x3, show nI (mk j 0) - 1 = nI (mk j 0 - 1) from pk_sub k0]
  refine ok_gd i30 (ok_nmd (ok_neg (nI_pos (by omega)) (ok_pos (show nI (mk j 0 - 1) < nI 3 from nI_lt (by omega) (by decide)) (ok_gd i30 ?_))))
  rw [nI_clamp (show mk j 0 - 1 < 2 ^ 31 by omega)]
  by_cases hs : mk j 3 = 0
  · refine ok_pos (by rw [hs]; rfl) (ok_gd i3 (ok_gd i30 (ok_gd i3 (ok_sI fun σ1 n1 u1 => ok_ret (Or.inl ⟨hs, ?_, n1⟩)))))
    rw [u1, hh, m1_min (by omega) (by omega)]
  · refine ok_neg (nI_ne0 (by omega) (by omega)) (ok_gd i3 (ok_gd i30 (ok_gd i3 (ok_sI fun σ1 n1 u1 => ok_ret (Or.inr ⟨by omega, ?_, n1⟩)))))
    rw [u1, hl, mmax_nI (by omega) (by omega)]
theorem fe_s {mk : Nat → Nat → Nat} {k : Int32} {M e a d : Nat} : fe mk k (M + 1) e a d = (fe mk k M e a d && mfit mk k e a d M) := rfl
theorem mfit_n {mk : Nat → Nat → Nat} {k : Int32} {e a d j : Nat} (h : ¬ (mc mk k j = true ∧ mk j 0 = e + 1)) : mfit mk k e a d j = true := by
  unfold mfit
  by_cases h1 : mc mk k j = true
  · have : ¬ mk j 0 = e + 1 := fun z => h ⟨h1, z⟩
    simp [this]
  · simp [h1]
theorem mfit_y {mk : Nat → Nat → Nat} {k : Int32} {e a d j : Nat} (h1 : mc mk k j = true) (h2 : mk j 0 = e + 1) : mfit mk k e a d j = (mso mk j a d == decide (mk j 3 = 1)) := by
  unfold mfit
  simp [h1, h2]
/-- one bound moved -/
theorem BI_up {mk : Nat → Nat → Nat} {k : Int32} {j : Nat} {σ σ' : St} {G : Nat → Nat → Nat} {r v : Nat} (ok : MkOk mk j) (hmc : mc mk k j = true) (hr : r < 4) (hv : v ≤ 100)
    (h : ∀ e, e < 3 → (σ.1 75 e = nI (G 0 e) ∧ σ.1 76 e = nI (G 1 e) - 1 ∧ σ.1 77 e = nI (G 2 e) ∧ σ.1 78 e = nI (G 3 e) - 1) ∧ (G 0 e ≤ 100 ∧ G 1 e ≤ 100 ∧ G 2 e ≤ 100 ∧ G 3 e ≤ 100) ∧ ∀ a d, a ≤ 99 → d ≤ 99 → ((G 0 e ≤ d ∧ d < G 1 e ∧ G 2 e ≤ a ∧ a < G 3 e) ↔ fe mk k j e a d = true))
    (u : σ'.1 (75 + r) = upd (σ.1 (75 + r)) (mk j 0 - 1) (if r = 1 ∨ r = 3 then nI v - 1 else nI v)) (n : ∀ p, p ≠ 75 + r → σ'.1 p = σ.1 p)
    (hf : ∀ a d, a ≤ 99 → d ≤ 99 → ((pu G r (mk j 0 - 1) v 0 (mk j 0 - 1) ≤ d ∧ d < pu G r (mk j 0 - 1) v 1 (mk j 0 - 1) ∧ pu G r (mk j 0 - 1) v 2 (mk j 0 - 1) ≤ a ∧ a < pu G r (mk j 0 - 1) v 3 (mk j 0 - 1)) ↔ ((G 0 (mk j 0 - 1) ≤ d ∧ d < G 1 (mk j 0 - 1) ∧ G 2 (mk j 0 - 1) ≤ a ∧ a < G 3 (mk j 0 - 1)) ∧ (mso mk j a d == decide (mk j 3 = 1)) = true))) : BI (fe mk k (j + 1)) σ' := by
  obtain ⟨k0, k0', k1, k2, k3, k4, k5⟩ := ok
  refine ⟨pu G r (mk j 0 - 1) v, fun e he => ?_⟩
  obtain ⟨⟨g0, g1, g2, g3⟩, ⟨b0, b1, b2, b3⟩, hb⟩ := h e he
  by_cases ee : e = mk j 0 - 1
  · subst ee
    refine ⟨?_, ?_, fun a d ha hd => ?_⟩
    · rcases (show r = 0 ∨ r = 1 ∨ r = 2 ∨ r = 3 by omega) with rfl | rfl | rfl | rfl
      · rw [show σ'.1 75 = _ from u, pk_us, n 76 (by decide), n 77 (by decide), n 78 (by decide), pu_s, pu_n (by omega), pu_n (by omega), pu_n (by omega)]
        exact ⟨rfl, g1, g2, g3⟩
      · rw [show σ'.1 76 = _ from u, pk_us, n 75 (by decide), n 77 (by decide), n 78 (by decide), pu_s, pu_n (by omega), pu_n (by omega), pu_n (by omega)]
        exact ⟨g0, rfl, g2, g3⟩
      · rw [show σ'.1 77 = _ from u, pk_us, n 75 (by decide), n 76 (by decide), n 78 (by decide), pu_s, pu_n (by omega), pu_n (by omega), pu_n (by omega)]
        exact ⟨g0, g1, rfl, g3⟩
      · rw [show σ'.1 78 = _ from u, pk_us, n 75 (by decide), n 76 (by decide), n 77 (by decide), pu_s, pu_n (by omega), pu_n (by omega), pu_n (by omega)]
        exact ⟨g0, g1, g2, rfl⟩
    · rcases (show r = 0 ∨ r = 1 ∨ r = 2 ∨ r = 3 by omega) with rfl | rfl | rfl | rfl
      · rw [pu_s, pu_n (by omega), pu_n (by omega), pu_n (by omega)]; exact ⟨hv, b1, b2, b3⟩
      · rw [pu_s, pu_n (by omega), pu_n (by omega), pu_n (by omega)]; exact ⟨b0, hv, b2, b3⟩
      · rw [pu_s, pu_n (by omega), pu_n (by omega), pu_n (by omega)]; exact ⟨b0, b1, hv, b3⟩
      · rw [pu_s, pu_n (by omega), pu_n (by omega), pu_n (by omega)]; exact ⟨b0, b1, b2, hv⟩
    · rw [fe_s, Bool.and_eq_true, ← hb a d ha hd, mfit_y hmc (by omega)]
      exact hf a d ha hd
  · have q : ∀ r', pu G r (mk j 0 - 1) v r' e = G r' e := fun r' => pu_n (fun z => ee z.2)
    have un : ∀ r', r' < 4 → σ'.1 (75 + r') e = σ.1 (75 + r') e := fun r' _ => by
      by_cases er : r' = r
      · subst er; rw [u, pk_un ee]
      · rw [n _ (by omega)]
    refine ⟨?_, ?_, fun a d ha hd => ?_⟩
    · rw [q, q, q, q, show σ'.1 75 e = σ.1 75 e from un 0 (by decide), show σ'.1 76 e = σ.1 76 e from un 1 (by decide), show σ'.1 77 e = σ.1 77 e from un 2 (by decide), show σ'.1 78 e = σ.1 78 e from un 3 (by decide)]
      exact ⟨g0, g1, g2, g3⟩
    · rw [q, q, q, q]; exact ⟨b0, b1, b2, b3⟩
    · rw [q, q, q, q, fe_s, mfit_n (fun z => ee (by omega)), Bool.and_true]
      exact hb a d ha hd
theorem beq_dec {p : Bool} {s : Nat} (hs : s ≤ 1) : (p == decide (s = 1)) = true ↔ (p = true ↔ s = 1) := by
  rcases (show s = 0 ∨ s = 1 by omega) with rfl | rfl <;> cases p <;> simp
set_option maxHeartbeats 1600000 in
theorem s_gather {N t M T : Nat} {mk : Nat → Nat → Nat} {k : Int32} {σ : St} (hN : 20000 ≤ N) (mx : MX M T mk σ) (hM : M ≤ 30) (hok : ∀ j, j < M → MkOk mk j) :
    Ok (f_X6_gatherBounds N (RR t) 68 k σ) (fun _ σ' => BI (fe mk k M) σ' ∧ Ag (fun p => 75 ≤ p ∧ p ≤ 78) σ σ') := by
  refine ok_ag ?_ (fun r σ' e => by have := m_X6_gatherBounds e; rw [r_68_8 rfl, r_68_9 rfl, r_68_10 rfl, r_68_11 rfl] at this; exact ag_mono this (fun p hp => by omega))
  unfold f_X6_gatherBounds
  rw [r_68_8 rfl, r_68_9 rfl, r_68_10 rfl, r_68_11 rfl]
  refine ok_call (s_fillJ hN (by decide)) (fun _ σ1 h1 => ok_call (s_fillJ hN (by decide)) (fun _ σ2 h2 => ok_call (s_fillJ hN (by decide)) (fun _ σ3 h3 => ok_call (s_fillJ hN (by decide)) (fun _ σ4 h4 => ?_))))
  have k1 : ∀ p, p ≠ 75 → p ≠ 76 → p ≠ 77 → p ≠ 78 → σ4.1 p = σ.1 p := fun p a b d e => by rw [(h4.2 p e).1, (h3.2 p d).1, (h2.2 p b).1, (h1.2 p a).1]
  have mx4 : MX M T mk σ4 := MX_cg mx (fun p a b => k1 p (by omega) (by omega) (by omega) (by omega))
  have b0 : BI (fe mk k 0) σ4 := by
    refine ⟨fun r _ => ([0, 100, 0, 100] : List Nat).getD r 0, fun e he => ⟨⟨?_, ?_, ?_, ?_⟩, ⟨show (0 : Nat) ≤ 100 by decide, show (100 : Nat) ≤ 100 by decide, show (0 : Nat) ≤ 100 by decide, show (100 : Nat) ≤ 100 by decide⟩, fun a d ha hd => ?_⟩⟩
    · rw [(h4.2 75 (by decide)).1, (h3.2 75 (by decide)).1, (h2.2 75 (by decide)).1, h1.1 e he]; rfl
    · rw [(h4.2 76 (by decide)).1, (h3.2 76 (by decide)).1, h2.1 e he]; exact (by decide : (99 : Int32) = nI 100 - 1)
    · rw [(h4.2 77 (by decide)).1, h3.1 e he]; rfl
    · rw [h4.1 e he]; exact (by decide : (99 : Int32) = nI 100 - 1)
    · refine ⟨fun _ => rfl, fun _ => ⟨Nat.zero_le _, ?_, Nat.zero_le _, ?_⟩⟩
      · show d < 100; omega
      · show a < 100; omega
  refine lp (F := fun n j σ' => f_X6_gatherBounds_36 N (RR t) 68 k n (nI j) σ') M (fun j σ' => BI (fe mk k j) σ' ∧ MX M T mk σ') ?_ ?_ N 0 σ4 (Nat.zero_le _) (by omega) ⟨b0, mx4⟩
  · rintro n j σ5 hj ⟨b5, mx5⟩ kk
    have ok := hok j hj
    have okc := ok
    obtain ⟨o0, o0', o1, o2, o3, o4, o5⟩ := okc
    obtain ⟨x0, x1, x2, x3, x4, x5⟩ := mx5.2.2 j hj
    have i30 : ib (nI j) 30 = true := ib_nI (by omega) (by decide)
    show Ok (b_X6_gatherBounds_36 _ _ _ _ _ _ _) _
    unfold b_X6_gatherBounds_36 f_X6_gatherBounds_74
    rw [mx5.1, r_68_5 rfl, nI_clamp (show j < 2 ^ 31 by omega), x5]
    refine ok_neg (nI_ge hj (by omega)) (ok_neg (show ¬ nI 30 ≤ nI j from nI_ge (by omega) (by decide)) (ok_gd i30 ?_))
    have skip : mc mk k j = false → ∀ n', n' = n → Ok (f_X6_gatherBounds_36 N (RR t) 68 k n' (nI (j + 1)) σ5) (fun _ σ' => BI (fe mk k M) σ') := by
      intro hm n' hn'
      subst hn'
      refine kk σ5 ⟨BI_pt b5 (fun e a d he => ?_), mx5⟩
      rw [fe_s, mfit_n (fun z => by rw [hm] at z; cases z.1), Bool.and_true]
    have go : ∀ v : Bool, (v = (decide (mk j 5 ≠ 0) && decide (sv (mk j 5) ≤ k))) → Ok (f_X6_gatherBounds_75 N (RR t) 68 k (f_X6_gatherBounds_36 N (RR t) 68 k n) (nI j) (if v = true then 1 else 0) σ5) (fun _ σ' => BI (fe mk k M) σ') := by
      intro v hv
      unfold f_X6_gatherBounds_75 f_X6_gatherBounds_128
      rw [r_68_4 rfl, r_68_1 rfl, r_68_8 rfl, r_68_9 rfl, r_68_10 rfl, r_68_11 rfl, nI_clamp (show j < 2 ^ 31 by omega), x4, x1, nI_1 j]
      refine ok_gd i30 ?_
      by_cases ht : k < nI (mk j 4)
      · exact ok_pos ht (skip (by simp [mc, ht]) n rfl)
      · refine ok_neg ht ?_
        cases v with
        | true => exact ok_neg (by decide) (skip (by simp only [mc, ← hv]; simp) n rfl)
        | false =>
          have hm : mc mk k j = true := by simp only [mc, ← hv]; simp [ht]
          refine ok_pos rfl (ok_gd i30 ?_)
          obtain ⟨G, hG⟩ := b5
          obtain ⟨⟨g0, g1, g2, g3⟩, ⟨c0, c1, c2, c3⟩, _⟩ := hG (mk j 0 - 1) (by omega)
          have fin : ∀ (σ6 : St) (r v : Nat), r < 4 → v ≤ 100 → σ6.1 (75 + r) = upd (σ5.1 (75 + r)) (mk j 0 - 1) (if r = 1 ∨ r = 3 then nI v - 1 else nI v) → (∀ p, p ≠ 75 + r → σ6.1 p = σ5.1 p) → (∀ a d, a ≤ 99 → d ≤ 99 → ((pu G r (mk j 0 - 1) v 0 (mk j 0 - 1) ≤ d ∧ d < pu G r (mk j 0 - 1) v 1 (mk j 0 - 1) ∧ pu G r (mk j 0 - 1) v 2 (mk j 0 - 1) ≤ a ∧ a < pu G r (mk j 0 - 1) v 3 (mk j 0 - 1)) ↔ ((G 0 (mk j 0 - 1) ≤ d ∧ d < G 1 (mk j 0 - 1) ∧ G 2 (mk j 0 - 1) ≤ a ∧ a < G 3 (mk j 0 - 1)) ∧ (mso mk j a d == decide (mk j 3 = 1)) = true))) → Ok (f_X6_gatherBounds_36 N (RR t) 68 k n (nI (j + 1)) σ6) (fun _ σ' => BI (fe mk k M) σ') := by
            intro σ6 r v hr hv u6 n6 hf
            exact kk σ6 ⟨BI_up ok hm hr hv hG u6 n6 hf, MX_cg mx5 (fun p a b => n6 p (by omega))⟩
          by_cases hs : mk j 1 = 0
          · refine ok_neg (by rw [hs]; exact nI_ne0 (by decide) (by decide)) (ok_call (s_narrow mx5 ok hj hM g0 g1 c0 c1) (fun _ σ6 h6 => ?_))
            rcases h6 with ⟨hi, u6, n6⟩ | ⟨hi, u6, n6⟩
            · refine fin σ6 1 (min (G 1 (mk j 0 - 1)) (mk j 2)) (by decide) (by omega) (by rw [if_pos (by omega)]; exact u6) n6 (fun a d ha hd => ?_)
              rw [pu_n (by omega), pu_s, pu_n (by omega), pu_n (by omega), beq_dec o3]
              unfold mso
              rw [if_pos hs, decide_eq_true_eq, hi]
              omega
            · refine fin σ6 0 (max (G 0 (mk j 0 - 1)) (mk j 2)) (by decide) (by omega) (by rw [if_neg (by omega)]; exact u6) n6 (fun a d ha hd => ?_)
              rw [pu_s, pu_n (by omega), pu_n (by omega), pu_n (by omega), beq_dec o3]
              unfold mso
              rw [if_pos hs, decide_eq_true_eq, hi]
              omega
          · have hs1 : mk j 1 = 1 := by omega
            refine ok_pos (by rw [hs1]; rfl) (ok_call (s_narrow mx5 ok hj hM g2 g3 c2 c3) (fun _ σ6 h6 => ?_))
            rcases h6 with ⟨hi, u6, n6⟩ | ⟨hi, u6, n6⟩
            · refine fin σ6 3 (min (G 3 (mk j 0 - 1)) (mk j 2)) (by decide) (by omega) (by rw [if_pos (by omega)]; exact u6) n6 (fun a d ha hd => ?_)
              rw [pu_n (by omega), pu_n (by omega), pu_n (by omega), pu_s, beq_dec o3]
              unfold mso
              rw [if_neg hs, decide_eq_true_eq, hi]
              omega
            · refine fin σ6 2 (max (G 2 (mk j 0 - 1)) (mk j 2)) (by decide) (by omega) (by rw [if_neg (by omega)]; exact u6) n6 (fun a d ha hd => ?_)
              rw [pu_n (by omega), pu_n (by omega), pu_s, pu_n (by omega), beq_dec o3]
              unfold mso
              rw [if_neg hs, decide_eq_true_eq, hi]
              omega
    by_cases hu : mk j 5 = 0
    · refine ok_pos (by rw [hu]; rfl) (go false ?_)
      simp [hu]
    · refine ok_neg (fun z => hu ((sv_m1 (by omega)).mp z)) (ok_gd i30 ?_)
      by_cases hk : sv (mk j 5) ≤ k
      · refine ok_neg (i_nlt.mpr hk) (go true ?_)
        simp [hu, hk]
      · refine ok_pos (i_nle.mp hk) (go false ?_)
        simp [hk]
  · rintro n σ5 ⟨b5, mx5⟩
    show Ok (b_X6_gatherBounds_36 _ _ _ _ _ _ _) _
    unfold b_X6_gatherBounds_36 f_X6_gatherBounds_134
    rw [mx5.1]
    exact ok_pos (Int32.le_refl _) (ok_ret b5)
