/-! STATES MOVED IN THE CLASS -/
theorem ok_cpy5 {σ : St} {a b : Nat} {kk : St → Option (Int32 × St)} {Q : Int32 → St → Prop} (h : ∀ σ' : St, (∀ p, p ≠ b → σ'.1 p = σ.1 p) → (∀ j, j < 5 → σ'.1 b j = σ.1 a j) → Ok (kk σ') Q) : Ok (nmd (cpyI σ a b 0 0 5) kk) Q := by
  refine ok_cpy (fun σ' n u => h σ' n (fun j hj => ?_))
  rw [u j, if_pos ⟨Nat.zero_le _, by show j < 0 + 5; omega⟩]
  show σ.1 a (0 + (j - 0)) = _
  rw [Nat.zero_add, Nat.sub_zero]
theorem ok_cpyK {σ : St} {a b f : Nat} {kk : St → Option (Int32 × St)} {Q : Int32 → St → Prop} (hf : f < 2 ^ 31) (h : ∀ σ' : St, (∀ p, p ≠ b → σ'.1 p = σ.1 p) → (∀ j, j < 5 → σ'.1 b (f + j) = σ.1 a j) → (∀ j, j < f ∨ f + 5 ≤ j → σ'.1 b j = σ.1 b j) → Ok (kk σ') Q) : Ok (nmd (cpyI σ a b 0 (nI f) 5) kk) Q := by
  refine ok_cpy (fun σ' n u => h σ' n (fun j hj => ?_) (fun j hj => ?_))
  · rw [u, nI_clamp hf, if_pos ⟨by omega, by show f + j < f + 5; omega⟩]
    show σ.1 a (0 + (f + j - f)) = _
    rw [Nat.zero_add, Nat.add_sub_cancel_left]
  · rw [u, nI_clamp hf, if_neg]
    rintro ⟨z1, z2⟩
    have z2 : j < f + 5 := z2
    omega
theorem ok_cpyT {σ : St} {a b f : Nat} {kk : St → Option (Int32 × St)} {Q : Int32 → St → Prop} (hf : f < 2 ^ 31) (h : ∀ σ' : St, (∀ p, p ≠ b → σ'.1 p = σ.1 p) → (∀ j, j < 5 → σ'.1 b j = σ.1 a (f + j)) → Ok (kk σ') Q) : Ok (nmd (cpyI σ a b (nI f) 0 5) kk) Q := by
  refine ok_cpy (fun σ' n u => h σ' n (fun j hj => ?_))
  rw [u j, nI_clamp hf, if_pos ⟨Nat.zero_le _, by show j < 0 + 5; omega⟩]
  show σ.1 a (f + (j - 0)) = _
  rw [Nat.sub_zero]
theorem s_copy {N t q q' : Nat} {ρ : Nat → Nat → Nat} {c : CDat} {S : SDat} {σ : St} (hρ : ρ = RR t) (hq : isQ q) (hq' : isQ q') (hne : q' + 4 < q ∨ q + 4 < q') (wf : WfC c) (rs : RepS q c S σ) :
    Ok (f_X9_copy N ρ q' q σ) (fun _ σ' => RepS q' c S σ' ∧ Ag (fun p => q' ≤ p ∧ p ≤ q' + 4) σ σ') := by
  have hns := wf.2.1
  refine ok_ag ?_ (fun r σ' e => by have := m_X9_copy e; rw [rq0 hρ hq', rq1 hρ hq', rq2 hρ hq', rq3 hρ hq'] at this; exact ag_mono this (fun p hp => by omega))
  unfold f_X9_copy
  rw [rq0 hρ hq, rq1 hρ hq, rq2 hρ hq, rq3 hρ hq, rq0 hρ hq', rq1 hρ hq', rq2 hρ hq', rq3 hρ hq']
  refine ok_gd rfl (ok_cpy5 fun σ1 n1 w1 => ok_gd rfl (ok_cpy5 fun σ2 n2 w2 => ok_gd rfl (ok_cpy5 fun σ3 n3 w3 => ok_gd rfl (ok_cpy5 fun σ4 n4 w4 => ok_sI fun σ5 n5 u5 => ok_sI fun σ6 n6 u6 => ok_ret ?_))))
  obtain ⟨h1, h2, h3, h4⟩ := rs
  refine ⟨fun s hs => ⟨?_, ?_, ?_, ?_⟩, fun s a b => ?_, ?_, ?_⟩
  · rw [n6 (q' + 1) (by omega), n5 (q' + 1) (by omega), n4 (q' + 1) (by omega), n3 (q' + 1) (by omega), n2 (q' + 1) (by omega), w1 s (by omega)]; exact (h1 s hs).1
  · rw [n6 (q' + 2) (by omega), n5 (q' + 2) (by omega), n4 (q' + 2) (by omega), n3 (q' + 2) (by omega), w2 s (by omega), n1 (q + 2) (by omega)]; exact (h1 s hs).2.1
  · rw [n6 (q' + 3) (by omega), n5 (q' + 3) (by omega), n4 (q' + 3) (by omega), w3 s (by omega), n2 (q + 3) (by omega), n1 (q + 3) (by omega)]; exact (h1 s hs).2.2.1
  · rw [n6 (q' + 4) (by omega), n5 (q' + 4) (by omega), w4 s (by omega), n3 (q + 4) (by omega), n2 (q + 4) (by omega), n1 (q + 4) (by omega)]; exact (h1 s hs).2.2.2
  · rw [n6 (q' + 4) (by omega), n5 (q' + 4) (by omega), w4 s (by omega), n3 (q + 4) (by omega), n2 (q + 4) (by omega), n1 (q + 4) (by omega)]; exact h2 s a b
  · rw [u6, pk_un (by decide), u5, pk_us, n4 q (by omega), n3 q (by omega), n2 q (by omega), n1 q (by omega)]; exact h3
  · rw [u6, pk_us, n5 q (by omega), n4 q (by omega), n3 q (by omega), n2 q (by omega), n1 q (by omega)]; exact h4
def RepKx (p f : Nat) (c : CDat) (S : SDat) (σ : St) : Prop := RepK p f c S σ ∧ ∀ s, ns c ≤ s → s < 5 → σ.1 p (f + (15 + s)) = -1
theorem RepKx_mv {p p' f f' : Nat} {c : CDat} {S : SDat} {σ σ' : St} (h : RepKx p f c S σ) (hc : ns c ≤ 5) (e : ∀ j, j < 22 → σ'.1 p' (f' + j) = σ.1 p (f + j)) : RepKx p' f' c S σ' := by
  refine ⟨RepK_mv h.1 hc e, fun s a b => ?_⟩
  rw [e (15 + s) (by omega)]
  exact h.2 s a b
theorem k5 {f : Nat} : nI f + 5 = nI (f + 5) := nI_add f 5
theorem k10 {f : Nat} : nI f + (2 * 5) = nI (f + 10) := nI_add f 10
theorem k15 {f : Nat} : nI f + (3 * 5) = nI (f + 15) := nI_add f 15
theorem k20 {f : Nat} : nI f + (4 * 5) = nI (f + 20) := nI_add f 20
set_option maxHeartbeats 800000 in
theorem s_keepIn {N t q p f n1 : Nat} {ρ : Nat → Nat → Nat} {c : CDat} {S : SDat} {σ : St} (hρ : ρ = RR t) (hq : isQ q) (hp : p < q ∨ q + 4 < p) (hf : f + 22 ≤ n1) (hn : n1 < 2 ^ 30) (wf : WfC c) (rs : RepS q c S σ) :
    Ok (f_X9_keepIn N ρ q p n1 (nI f) σ) (fun _ σ' => (RepKx p f c S σ' ∧ ∀ j, j < f ∨ f + 22 ≤ j → σ'.1 p j = σ.1 p j) ∧ Ag (fun p' => p' = p) σ σ') := by
  have hns := wf.2.1
  refine ok_ag ?_ (fun r σ' e => m_X9_keepIn e)
  unfold f_X9_keepIn
  rw [rq0 hρ hq, rq1 hρ hq, rq2 hρ hq, rq3 hρ hq, k5, k10, k15, k20, nI_1]
  refine ok_neg (nI_pos (by omega)) (ok_pos (by rw [show (22 : Int32) = nI 22 from rfl, pk_sub (by omega)]; exact nI_le (by omega) (by omega)) ?_)
  refine ok_gd (cpok_nI (a := 0) (n := 5) (by omega) (by omega) (by omega) (by omega)) (ok_cpyK (by omega) fun σ1 n1' w1 o1 => ?_)
  refine ok_gd (cpok_nI (a := 0) (n := 5) (by omega) (by omega) (by omega) (by omega)) (ok_cpyK (by omega) fun σ2 n2 w2 o2 => ?_)
  refine ok_gd (cpok_nI (a := 0) (n := 5) (by omega) (by omega) (by omega) (by omega)) (ok_cpyK (by omega) fun σ3 n3 w3 o3 => ?_)
  refine ok_gd (cpok_nI (a := 0) (n := 5) (by omega) (by omega) (by omega) (by omega)) (ok_cpyK (by omega) fun σ4 n4 w4 o4 => ?_)
  refine ok_gd (ib_nI (by omega) (by omega)) (ok_sI fun σ5 n5 u5 => ok_gd (ib_nI (by omega) (by omega)) (ok_sI fun σ6 n6 u6 => ok_ret ?_))
  rw [nI_clamp (by omega)] at u5 u6
  obtain ⟨h1, h2, h3, h4⟩ := rs
  have g3 : ∀ s, s < 5 → σ6.1 p (f + (15 + s)) = σ.1 (q + 4) s := fun s hs => by
    rw [u6, pk_un (by omega), u5, pk_un (by omega), show f + (15 + s) = f + 15 + s by omega, w4 s hs, n3 (q + 4) (by omega), n2 (q + 4) (by omega), n1' (q + 4) (by omega)]
  refine ⟨⟨⟨fun s hs => ⟨?_, ?_, ?_, ?_⟩, ?_, ?_⟩, fun s a b => ?_⟩, fun j hj => ?_⟩
  · rw [u6, pk_un (by omega), u5, pk_un (by omega), o4 _ (by omega), o3 _ (by omega), o2 _ (by omega), w1 s (by omega)]; exact (h1 s hs).1
  · rw [u6, pk_un (by omega), u5, pk_un (by omega), o4 _ (by omega), o3 _ (by omega), show f + (5 + s) = f + 5 + s by omega, w2 s (by omega), n1' (q + 2) (by omega)]; exact (h1 s hs).2.1
  · rw [u6, pk_un (by omega), u5, pk_un (by omega), o4 _ (by omega), show f + (10 + s) = f + 10 + s by omega, w3 s (by omega), n2 (q + 3) (by omega), n1' (q + 3) (by omega)]; exact (h1 s hs).2.2.1
  · rw [g3 s (by omega)]; exact (h1 s hs).2.2.2
  · rw [u6, pk_un (by omega), u5, pk_us, n4 q (by omega), n3 q (by omega), n2 q (by omega), n1' q (by omega)]; exact h3
  · rw [u6, show f + 20 + 1 = f + 21 from rfl, pk_us, n5 q (by omega), n4 q (by omega), n3 q (by omega), n2 q (by omega), n1' q (by omega)]; exact h4
  · rw [g3 s b]; exact h2 s a b
  · rw [u6, pk_un (by omega), u5, pk_un (by omega), o4 _ (by omega), o3 _ (by omega), o2 _ (by omega), o1 _ (by omega)]
set_option maxHeartbeats 800000 in
theorem s_takeFrom {N t q p f n1 : Nat} {ρ : Nat → Nat → Nat} {c : CDat} {S : SDat} {σ : St} (hρ : ρ = RR t) (hq : isQ q) (hp : p < q ∨ q + 4 < p) (hf : f + 22 ≤ n1) (hn : n1 < 2 ^ 30) (wf : WfC c) (rk : RepKx p f c S σ) :
    Ok (f_X9_takeFrom N ρ q p n1 (nI f) σ) (fun _ σ' => RepS q c S σ' ∧ Ag (fun p => q ≤ p ∧ p ≤ q + 4) σ σ') := by
  have hns := wf.2.1
  refine ok_ag ?_ (fun r σ' e => by have := m_X9_takeFrom e; rw [rq0 hρ hq, rq1 hρ hq, rq2 hρ hq, rq3 hρ hq] at this; exact ag_mono this (fun p hp => by omega))
  unfold f_X9_takeFrom
  rw [rq0 hρ hq, rq1 hρ hq, rq2 hρ hq, rq3 hρ hq, k5, k10, k15, k20, nI_1]
  refine ok_neg (nI_pos (by omega)) (ok_pos (by rw [show (22 : Int32) = nI 22 from rfl, pk_sub (by omega)]; exact nI_le (by omega) (by omega)) ?_)
  refine ok_gd (cpok_nI (b := 0) (n := 5) (by omega) (by omega) (by omega) (by omega)) (ok_cpyT (by omega) fun σ1 n1' w1 => ?_)
  refine ok_gd (cpok_nI (b := 0) (n := 5) (by omega) (by omega) (by omega) (by omega)) (ok_cpyT (by omega) fun σ2 n2 w2 => ?_)
  refine ok_gd (cpok_nI (b := 0) (n := 5) (by omega) (by omega) (by omega) (by omega)) (ok_cpyT (by omega) fun σ3 n3 w3 => ?_)
  refine ok_gd (cpok_nI (b := 0) (n := 5) (by omega) (by omega) (by omega) (by omega)) (ok_cpyT (by omega) fun σ4 n4 w4 => ?_)
  refine ok_gd (ib_nI (by omega) (by omega)) (ok_sI fun σ5 n5 u5 => ok_gd (ib_nI (by omega) (by omega)) (ok_sI fun σ6 n6 u6 => ok_ret ?_))
  rw [nI_clamp (by omega)] at u5 u6
  obtain ⟨⟨h1, h3, h4⟩, h2⟩ := rk
  have g3 : ∀ s, s < 5 → σ6.1 (q + 4) s = σ.1 p (f + (15 + s)) := fun s hs => by
    rw [n6 (q + 4) (by omega), n5 (q + 4) (by omega), w4 s hs, n3 p (by omega), n2 p (by omega), n1' p (by omega), show f + (15 + s) = f + 15 + s by omega]
  refine ⟨fun s hs => ⟨?_, ?_, ?_, ?_⟩, fun s a b => ?_, ?_, ?_⟩
  · rw [n6 (q + 1) (by omega), n5 (q + 1) (by omega), n4 (q + 1) (by omega), n3 (q + 1) (by omega), n2 (q + 1) (by omega), w1 s (by omega)]; exact (h1 s hs).1
  · rw [n6 (q + 2) (by omega), n5 (q + 2) (by omega), n4 (q + 2) (by omega), n3 (q + 2) (by omega), w2 s (by omega), n1' p (by omega), show f + 5 + s = f + (5 + s) by omega]; exact (h1 s hs).2.1
  · rw [n6 (q + 3) (by omega), n5 (q + 3) (by omega), n4 (q + 3) (by omega), w3 s (by omega), n2 p (by omega), n1' p (by omega), show f + 10 + s = f + (10 + s) by omega]; exact (h1 s hs).2.2.1
  · rw [g3 s (by omega)]; exact (h1 s hs).2.2.2
  · rw [g3 s b]; exact h2 s a b
  · rw [u6, pk_un (by decide), u5, pk_us, n4 p (by omega), n3 p (by omega), n2 p (by omega), n1' p (by omega)]; exact h3
  · rw [u6, pk_us, n5 p (by omega), n4 p (by omega), n3 p (by omega), n2 p (by omega), n1' p (by omega), show f + 20 + 1 = f + 21 from rfl]; exact h4
theorem s_fillJ {N n a : Nat} {ρ : Nat → Nat → Nat} {x : Int32} {σ : St} (hN : 20000 ≤ N) (hn : n ≤ 1000) : Ok (f_J7_fill_53178 N ρ a n x σ) (fun _ σ' => (∀ j, j < n → σ'.1 a j = x) ∧ Ag (fun p => p = a) σ σ') := by
  refine ok_ag ?_ (fun r σ' e => m_J7_fill_53178 e)
  unfold f_J7_fill_53178
  refine ok_nmd ?_
  refine lp_ok (F := fun m (a' : Int32 × St) => f_J7_fill_53178_5 N ρ a n x m a'.1 (nI n) a'.2) n (fun i a' => a'.1 = nI i ∧ (∀ j, j < i → a'.2.1 a j = x)) ?_ ?_ N 0 (0, σ) (Nat.zero_le _) (by omega) ⟨rfl, fun j hj => absurd hj (by omega)⟩
  · rintro m i ⟨j, σ1⟩ hi ⟨e2, h1⟩ kk
    have e2 : j = _ := e2
    have h1 : ∀ j, j < i → σ1.1 a j = x := h1
    subst e2
    show Ok (b_J7_fill_53178_5 N ρ a n x (f_J7_fill_53178_5 N ρ a n x m) (nI i) (nI n) σ1) _
    unfold b_J7_fill_53178_5
    rw [nI_clamp (by omega), nI_1]
    refine ok_neg (nI_ge hi (by omega)) (ok_gd (ib_nI hi (by omega)) (ok_sI fun σ2 n2 u2 => ?_))
    refine kk (_, σ2) ⟨rfl, fun j hj => ?_⟩
    show σ2.1 a j = x
    rw [u2]
    by_cases e : j = i
    · subst e; rw [pk_us]
    · rw [pk_un e]; exact h1 j (by omega)
  · rintro m ⟨j, σ1⟩ ⟨e2, h1⟩
    have e2 : j = _ := e2
    subst e2
    show Ok (b_J7_fill_53178_5 N ρ a n x (f_J7_fill_53178_5 N ρ a n x m) (nI n) (nI n) σ1) _
    unfold b_J7_fill_53178_5
    exact ok_pos (Int32.le_refl _) (ok_ret h1)
/-- a state as told -/
def bgn (c : CDat) (d : Nat) : SDat := fun r s => match r with
  | 0 => dt c 5 s
  | 1 => dt c 7 s
  | 2 => 0
  | 3 => 0
  | _ => if s = 1 then d else 0
theorem bgn_wf {c : CDat} {d : Nat} (wf : WfC c) (hd : d ≤ 999) : WfS c (bgn c d) := by
  refine ⟨fun s hs => ?_, ?_, ?_⟩
  · have := wf.2.2.2.1 s hs
    exact ⟨Nat.le_refl _, this.2.2.2, Nat.zero_le _, Nat.zero_le _⟩
  · show (if (0 : Nat) = 1 then d else 0) ≤ 2000
    rw [if_neg (by decide)]; omega
  · show (if (1 : Nat) = 1 then d else 0) ≤ 999
    rw [if_pos rfl]; exact hd
theorem s_begin {N t q : Nat} {ρ : Nat → Nat → Nat} {c : CDat} {σ : St} (hN : 20000 ≤ N) (hρ : ∃ t0, ρ = RR t0) (ht : isT t) (hq : isQ q) (wf : WfC c) (rc : RepC t c σ) :
    Ok (f_X9_begin N ρ q t σ) (fun _ σ' => RepS q c (bgn c (dt c 8 2)) σ' ∧ Ag (fun p => q ≤ p ∧ p ≤ q + 4) σ σ') := by
  have hns := wf.2.1
  obtain ⟨t0, hρ⟩ := hρ
  have tl := isT_le ht
  have ql := isQ_le hq
  refine ok_ag ?_ (fun r σ' e => by have := m_X9_begin e; rw [rq0 hρ hq, rq1 hρ hq, rq2 hρ hq, rq3 hρ hq] at this; exact ag_mono this (fun p hp => by omega))
  unfold f_X9_begin
  rw [rq0 hρ hq, rq1 hρ hq, rq2 hρ hq, rq3 hρ hq, rt5 hρ ht, rt7 hρ ht]
  refine ok_gd rfl (ok_cpy5 fun σ1 n1 w1 => ok_gd rfl (ok_cpy5 fun σ2 n2 w2 => ?_))
  refine ok_call (s_fillJ hN (by decide)) (fun _ σ3 h3 => ok_call (s_fillJ hN (by decide)) (fun _ σ4 h4 => ok_sI fun σ5 n5 u5 => ok_sI fun σ6 n6 u6 => ok_ret ?_))
  have n3 : ∀ p, p ≠ q + 3 → σ3.1 p = σ2.1 p := fun p hp => (h3.2 p hp).1
  have n4 : ∀ p, p ≠ q + 4 → σ4.1 p = σ3.1 p := fun p hp => (h4.2 p hp).1
  have r5 := rc.2.2.2.2.2.2.1
  have r15 := rc.2.2.2.2.1
  refine ⟨fun s hs => ⟨?_, ?_, ?_, ?_⟩, fun s a b => ?_, ?_, ?_⟩
  · rw [n6 (q + 1) (by omega), n5 (q + 1) (by omega), n4 (q + 1) (by omega), n3 (q + 1) (by omega), n2 (q + 1) (by omega), w1 s (by omega)]; exact r5 5 s (by decide) (by decide) hs
  · rw [n6 (q + 2) (by omega), n5 (q + 2) (by omega), n4 (q + 2) (by omega), n3 (q + 2) (by omega), w2 s (by omega), n1 (t + 8) (by omega)]; exact r5 7 s (by decide) (by decide) hs
  · rw [n6 (q + 3) (by omega), n5 (q + 3) (by omega), n4 (q + 3) (by omega), h3.1 s (by omega)]; rfl
  · rw [n6 (q + 4) (by omega), n5 (q + 4) (by omega), h4.1 s (by omega)]; rfl
  · rw [n6 (q + 4) (by omega), n5 (q + 4) (by omega), h4.1 s b]
  · rw [u6, pk_un (by decide), u5, pk_us]; rfl
  · rw [u6, pk_us, n5 t (by omega), n4 t (by omega), n3 t (by omega), n2 t (by omega), n1 t (by omega), r15]; rfl
