/-! AN EVENING: the words, and the class's -/
def pu (T : SDat) (r s v : Nat) : SDat := fun r' s' => if r' = r ∧ s' = s then v else T r' s'
theorem pu_s {T : SDat} {r s v : Nat} : pu T r s v r s = v := by simp [pu]
theorem pu_n {T : SDat} {r s v r' s' : Nat} (h : ¬ (r' = r ∧ s' = s)) : pu T r s v r' s' = T r' s' := if_neg h
theorem RepS_w {q r s v p0 : Nat} {c : CDat} {T : SDat} {σ σ' : St} {x : Int32} (h : RepS q c T σ) (hp : p0 = q + 1 + r) (hr : r < 3) (n : ∀ p, p ≠ p0 → σ'.1 p = σ.1 p) (u : σ'.1 p0 = upd (σ.1 p0) s x) (hv : x = nI v) : RepS q c (pu T r s v) σ' := by
  subst hp hv
  have key : ∀ r', r' < 3 → ∀ k, σ.1 (q + 1 + r') k = nI (T r' k) → σ'.1 (q + 1 + r') k = nI (pu T r s v r' k) := by
    intro r' hr' k e
    by_cases er : r' = r
    · subst er
      rw [u]
      by_cases ek : k = s
      · subst ek; rw [pk_us, pu_s]
      · rw [pk_un ek, pu_n (fun z => ek z.2)]; exact e
    · rw [n _ (by omega), pu_n (fun z => er z.1)]; exact e
  obtain ⟨h1, h2, h3, h4⟩ := h
  refine ⟨fun k hk => ⟨key 0 (by decide) k (h1 k hk).1, key 1 (by decide) k (h1 k hk).2.1, key 2 (by decide) k (h1 k hk).2.2.1, ?_⟩, fun k a b => ?_, ?_, ?_⟩
  · rw [n (q + 4) (by omega), pu_n (by omega)]; exact (h1 k hk).2.2.2
  · rw [n (q + 4) (by omega)]; exact h2 k a b
  · rw [n q (by omega), pu_n (by omega)]; exact h3
  · rw [n q (by omega), pu_n (by omega)]; exact h4
theorem RepS_w3 {q s v p0 : Nat} {c : CDat} {T : SDat} {σ σ' : St} {x : Int32} (h : RepS q c T σ) (hp : p0 = q + 4) (hs : s < ns c) (n : ∀ p, p ≠ p0 → σ'.1 p = σ.1 p) (u : σ'.1 p0 = upd (σ.1 p0) s x) (hv : x = sv v) : RepS q c (pu T 3 s v) σ' := by
  subst hp hv
  obtain ⟨h1, h2, h3, h4⟩ := h
  refine ⟨fun k hk => ⟨?_, ?_, ?_, ?_⟩, fun k a b => ?_, ?_, ?_⟩
  · rw [n (q + 1) (by omega), pu_n (by omega)]; exact (h1 k hk).1
  · rw [n (q + 2) (by omega), pu_n (by omega)]; exact (h1 k hk).2.1
  · rw [n (q + 3) (by omega), pu_n (by omega)]; exact (h1 k hk).2.2.1
  · rw [u]
    by_cases ek : k = s
    · subst ek; rw [pk_us, pu_s]
    · rw [pk_un ek, pu_n (fun z => ek z.2)]; exact (h1 k hk).2.2.2
  · rw [u, pk_un (by omega)]; exact h2 k a b
  · rw [n q (by omega), pu_n (by omega)]; exact h3
  · rw [n q (by omega), pu_n (by omega)]; exact h4
theorem RepS_w4 {q j v : Nat} {c : CDat} {T : SDat} {σ σ' : St} {x : Int32} (h : RepS q c T σ) (hj : j < 2) (n : ∀ p, p ≠ q → σ'.1 p = σ.1 p) (u : σ'.1 q = upd (σ.1 q) (4 + j) x) (hv : x = nI v) : RepS q c (pu T 4 j v) σ' := by
  subst hv
  obtain ⟨h1, h2, h3, h4⟩ := h
  refine ⟨fun k hk => ⟨?_, ?_, ?_, ?_⟩, fun k a b => ?_, ?_, ?_⟩
  · rw [n (q + 1) (by omega), pu_n (by omega)]; exact (h1 k hk).1
  · rw [n (q + 2) (by omega), pu_n (by omega)]; exact (h1 k hk).2.1
  · rw [n (q + 3) (by omega), pu_n (by omega)]; exact (h1 k hk).2.2.1
  · rw [n (q + 4) (by omega), pu_n (by omega)]; exact (h1 k hk).2.2.2
  · rw [n (q + 4) (by omega)]; exact h2 k a b
  · rw [u]
    by_cases e : j = 0
    · subst e; rw [pk_us, pu_s]
    · rw [pk_un (by omega), pu_n (by omega)]; exact h3
  · rw [u]
    by_cases e : j = 1
    · subst e; rw [pk_us, pu_s]
    · rw [pk_un (by omega), pu_n (by omega)]; exact h4
theorem RepS_pt {q : Nat} {c : CDat} {T T' : SDat} {σ : St} (h : RepS q c T σ) (e : ∀ r s, r < 4 → s < ns c → T' r s = T r s) (e4 : T' 4 0 = T 4 0) (e5 : T' 4 1 = T 4 1) : RepS q c T' σ := by
  obtain ⟨h1, h2, h3, h4⟩ := h
  refine ⟨fun k hk => ?_, h2, ?_, ?_⟩
  · rw [e 0 k (by decide) hk, e 1 k (by decide) hk, e 2 k (by decide) hk, e 3 k (by decide) hk]; exact h1 k hk
  · rw [e4]; exact h3
  · rw [e5]; exact h4
theorem RepA_w {p r s v : Nat} {c : CDat} {T : SDat} {σ σ' : St} {x : Int32} {j0 : Nat} (h : RepA p c T σ) (hc : ns c ≤ 5) (hr : r < 3) (hs : s < 5) (hj : j0 = 5 * r + s) (u : σ'.1 p = upd (σ.1 p) j0 x) (hv : x = nI v) : RepA p c (pu T r s v) σ' := by
  subst hj hv
  have key : ∀ r' k j, r' < 3 → k < 5 → j = 5 * r' + k → σ.1 p j = nI (T r' k) → σ'.1 p j = nI (pu T r s v r' k) := by
    intro r' k j hr' hk ej e
    rw [u]
    by_cases er : r' = r ∧ k = s
    · obtain ⟨rfl, rfl⟩ := er
      rw [ej, pk_us, pu_s]
    · rw [pk_un (by omega), pu_n er]; exact e
  obtain ⟨h1, h3, h4⟩ := h
  refine ⟨fun k hk => ⟨key 0 k k (by decide) (by omega) (by omega) (h1 k hk).1, key 1 k (5 + k) (by decide) (by omega) (by omega) (h1 k hk).2.1, key 2 k (10 + k) (by decide) (by omega) (by omega) (h1 k hk).2.2.1, ?_⟩, ?_, ?_⟩
  · rw [u, pk_un (by omega), pu_n (by omega)]; exact (h1 k hk).2.2.2
  · rw [u, pk_un (by omega), pu_n (by omega)]; exact h3
  · rw [u, pk_un (by omega), pu_n (by omega)]; exact h4
theorem RepA_w3 {p s v : Nat} {c : CDat} {T : SDat} {σ σ' : St} {x : Int32} {j0 : Nat} (h : RepA p c T σ) (hc : ns c ≤ 5) (hs : s < 5) (hj : j0 = 15 + s) (u : σ'.1 p = upd (σ.1 p) j0 x) (hv : x = sv v) : RepA p c (pu T 3 s v) σ' := by
  subst hj hv
  obtain ⟨h1, h3, h4⟩ := h
  refine ⟨fun k hk => ⟨?_, ?_, ?_, ?_⟩, ?_, ?_⟩
  · rw [u, pk_un (by omega), pu_n (by omega)]; exact (h1 k hk).1
  · rw [u, pk_un (by omega), pu_n (by omega)]; exact (h1 k hk).2.1
  · rw [u, pk_un (by omega), pu_n (by omega)]; exact (h1 k hk).2.2.1
  · rw [u]
    by_cases ek : k = s
    · subst ek; rw [pk_us, pu_s]
    · rw [pk_un (by omega), pu_n (fun z => ek z.2)]; exact (h1 k hk).2.2.2
  · rw [u, pk_un (by omega), pu_n (by omega)]; exact h3
  · rw [u, pk_un (by omega), pu_n (by omega)]; exact h4
theorem RepA_w4 {p j v : Nat} {c : CDat} {T : SDat} {σ σ' : St} {x : Int32} {j0 : Nat} (h : RepA p c T σ) (hc : ns c ≤ 5) (hj2 : j < 2) (hj : j0 = 20 + j) (u : σ'.1 p = upd (σ.1 p) j0 x) (hv : x = nI v) : RepA p c (pu T 4 j v) σ' := by
  subst hj hv
  obtain ⟨h1, h3, h4⟩ := h
  refine ⟨fun k hk => ⟨?_, ?_, ?_, ?_⟩, ?_, ?_⟩
  · rw [u, pk_un (by omega), pu_n (by omega)]; exact (h1 k hk).1
  · rw [u, pk_un (by omega), pu_n (by omega)]; exact (h1 k hk).2.1
  · rw [u, pk_un (by omega), pu_n (by omega)]; exact (h1 k hk).2.2.1
  · rw [u, pk_un (by omega), pu_n (by omega)]; exact (h1 k hk).2.2.2
  · rw [u]
    by_cases e : j = 0
    · subst e; rw [pk_us, pu_s]
    · rw [pk_un (by omega), pu_n (by omega)]; exact h3
  · rw [u]
    by_cases e : j = 1
    · subst e; rw [pk_us, pu_s]
    · rw [pk_un (by omega), pu_n (by omega)]; exact h4
theorem RepA_pt {p : Nat} {c : CDat} {T T' : SDat} {σ : St} (h : RepA p c T σ) (e : ∀ r s, r < 4 → s < ns c → T' r s = T r s) (e4 : T' 4 0 = T 4 0) (e5 : T' 4 1 = T 4 1) : RepA p c T' σ := by
  obtain ⟨h1, h3, h4⟩ := h
  refine ⟨fun k hk => ?_, ?_, ?_⟩
  · rw [e 0 k (by decide) hk, e 1 k (by decide) hk, e 2 k (by decide) hk, e 3 k (by decide) hk]; exact h1 k hk
  · rw [e4]; exact h3
  · rw [e5]; exact h4
theorem mmin_nI {a b : Nat} (ha : a < 2 ^ 31) (hb : b < 2 ^ 31) : mmin (nI a) (nI b) = nI (min a b) := by
  show (if nI b < nI a then nI b else nI a) = _
  by_cases h : b < a
  · rw [if_pos (nI_lt h ha), Nat.min_eq_right (by omega)]
  · rw [if_neg (nI_nlt (by omega) hb), Nat.min_eq_left (by omega)]
theorem wth_min {a m : Nat} (ha : a < 2 ^ 31) (hm : m < 2 ^ 31) : wth (nI a) (nI m) = nI (min a m) := by
  unfold wth
  rw [if_pos (nI_pos' ha)]
  by_cases h : a ≤ m
  · rw [if_pos (nI_le h hm), Nat.min_eq_left h]
  · rw [if_neg (nI_ge (by omega) ha), Nat.min_eq_right (by omega)]
/-- what comes of an evening; k: the cold ones -/
def evF (c : CDat) (S : SDat) (k : Nat → Bool) (s : Nat) : Nat := if S 3 s ≠ 0 ∧ k (S 3 s - 1) = true then 3 else fare c S 0 s
def evW (c : CDat) (S : SDat) (s : Nat) : Nat := (wr c S s (S 3 s - 1) (mny c S (S 3 s - 1))).toNatClampNeg
def evL (c : CDat) (S : SDat) (s : Nat) : Nat := (lod c S 0 s).toNatClampNeg
def ev0 (c : CDat) (S : SDat) (f s : Nat) : Nat := if f = 0 then min (dt c 5 s) (S 0 s + 2) else if f = 1 then S 0 s - evW c S s else if f = 2 then S 0 s / 2 else S 0 s
def ev (c : CDat) (S : SDat) (k : Nat → Bool) : SDat := fun r s => match r with
  | 0 => ev0 c S (evF c S k s) s
  | 1 => if evF c S k s = 1 then min 99 (S 1 s + evL c S s / 5) else S 1 s
  | 2 => if evF c S k s = 1 then min 99 (S 2 s + 1) else S 2 s
  | 4 => if s = 0 then S 4 0 + 1 else S 4 s
  | r => S r s
def Tm (c : CDat) (S : SDat) (k : Nat → Bool) (i : Nat) : SDat := fun r s => if s < i ∧ r < 3 then ev c S k r s else S r s
theorem ev3 {c : CDat} {S : SDat} {k : Nat → Bool} {s : Nat} : ev c S k 3 s = S 3 s := rfl
theorem ev40 {c : CDat} {S : SDat} {k : Nat → Bool} : ev c S k 4 0 = S 4 0 + 1 := rfl
theorem ev41 {c : CDat} {S : SDat} {k : Nat → Bool} : ev c S k 4 1 = S 4 1 := rfl
theorem ev_row {c : CDat} {S : SDat} {k : Nat → Bool} {s : Nat} (wf : WfC c) (ws : WfS c S) (hs : s < ns c) : ev c S k 0 s ≤ dt c 5 s ∧ ev c S k 1 s ≤ 99 ∧ ev c S k 2 s ≤ 99 := by
  have h := ws.1 s hs
  refine ⟨?_, ?_, ?_⟩
  · show ev0 c S (evF c S k s) s ≤ _
    unfold ev0
    split
    · omega
    · split
      · omega
      · split <;> omega
  · show (if evF c S k s = 1 then min 99 (S 1 s + evL c S s / 5) else S 1 s) ≤ 99
    split <;> omega
  · show (if evF c S k s = 1 then min 99 (S 2 s + 1) else S 2 s) ≤ 99
    split <;> omega
theorem ev_wf {c : CDat} {S : SDat} {k : Nat → Bool} (wf : WfC c) (ws : WfS c S) (hd : S 4 0 < 2000) : WfS c (ev c S k) := by
  refine ⟨fun s hs => ?_, ?_, ?_⟩
  · have h := ev_row (k := k) wf ws hs
    exact ⟨h.1, h.2.1, h.2.2, (ws.1 s hs).2.2.2⟩
  · rw [ev40]; omega
  · rw [ev41]; exact ws.2.2
theorem Tm3 {c : CDat} {S : SDat} {k : Nat → Bool} {i s : Nat} : Tm c S k i 3 s = S 3 s := by simp [Tm]
theorem Tm4 {c : CDat} {S : SDat} {k : Nat → Bool} {i s : Nat} : Tm c S k i 4 s = S 4 s := by simp [Tm]
theorem Tm_i {c : CDat} {S : SDat} {k : Nat → Bool} {i r : Nat} : Tm c S k i r i = S r i := by simp [Tm]
theorem Tm_wf {c : CDat} {S : SDat} {k : Nat → Bool} {i : Nat} (wf : WfC c) (ws : WfS c S) : WfS c (Tm c S k i) := by
  refine ⟨fun s hs => ?_, by rw [Tm4]; exact ws.2.1, by rw [Tm4]; exact ws.2.2⟩
  have h := ws.1 s hs
  have h2 := ev_row (k := k) wf ws hs
  rw [Tm3]
  by_cases hi : s < i
  · simp only [Tm, hi, true_and]
    exact ⟨h2.1, h2.2.1, h2.2.2, h.2.2.2⟩
  · simp only [Tm, hi, false_and, if_false]
    exact h
theorem atH_cg {S T : SDat} (h : ∀ s, T 3 s = S 3 s) (x : Nat) : atH T x = atH S x := by
  funext s
  unfold atH
  rw [h s]
theorem tt_cg {c : CDat} {S T : SDat} {s h : Nat} {m x : Int32} (h0 : T 0 s = S 0 s) (h1 : T 1 s = S 1 s) (h4 : T 4 0 = S 4 0) : tt c T s h m x = tt c S s h m x := by
  funext k
  unfold tt
  rw [h0, h1, h4]
theorem ld_cg {c : CDat} {S T : SDat} {s h m : Nat} {x : Int32} (h0 : T 0 s = S 0 s) (h1 : T 1 s = S 1 s) (h4 : T 4 0 = S 4 0) : ld c T s h m x = ld c S s h m x := by
  unfold ld
  rw [tt_cg h0 h1 h4]
theorem wr_cg {c : CDat} {S T : SDat} {s h m : Nat} (h0 : T 0 s = S 0 s) (h1 : T 1 s = S 1 s) (h4 : T 4 0 = S 4 0) : wr c T s h m = wr c S s h m := by
  unfold wr
  rw [tt_cg h0 h1 h4, h0]
def kn (c : CDat) (T : SDat) (s h m : Nat) : SDat := if ld c T s h m 0 ≤ nI (T 0 s) then pu (pu (pu T 2 s (min 99 (T 2 s + 1))) 1 s (min 99 (T 1 s + (ld c T s h m 0).toNatClampNeg / 5))) 0 s (T 0 s - (wr c T s h m).toNatClampNeg) else pu T 0 s (T 0 s / 2)
def Sk (t q p : Nat) : Prop := Sc t p ∨ (q ≤ p ∧ p ≤ q + 4)
theorem RepC_sk {t q : Nat} {c : CDat} {σ σ' : St} (ht : isT t) (hq : isQ q) (h : RepC t c σ) (a : Ag (Sk t q) σ σ') : RepC t c σ' := RepC_cg h (fun p h1 h2 h3 => (a p (by have := isT_le ht; have := isQ_le hq; unfold Sk Sc; omega)).1)
set_option maxHeartbeats 400000 in
theorem s_kneel {N t q s h m : Nat} {ρ : Nat → Nat → Nat} {c : CDat} {T : SDat} {σ : St} (hN : 20000 ≤ N) (hρ : ρ = RR t) (ht : isT t) (hq : isQ q) (wf : WfC c) (b0 : T 0 s ≤ 99) (b1 : T 1 s ≤ 99) (b2 : T 2 s ≤ 99) (rc : RepC t c σ) (rs : RepS q c T σ) (hs : s < ns c) (hh : h < nh c) (hm : 0 < m) (hm5 : m ≤ 6) :
    Ok (f_X9_kneel N ρ q t (nI s) (nI h) (nI m) σ) (fun r σ' => (r = (if ld c T s h m 0 ≤ nI (T 0 s) then 1 else 0) ∧ RepS q c (kn c T s h m) σ') ∧ Ag (Sk t q) σ σ') := by
  have hns := wf.2.1
  have tl := isT_le ht
  have ql := isQ_le hq
  refine ok_ag ?_ (fun r σ' e => by have := m_X9_kneel e; rw [rt8 hρ ht, rt9 hρ ht, rt10 hρ ht, rb1 hρ ht, rw1 hρ ht, rq0 hρ hq, rq1 hρ hq, rq2 hρ hq] at this; exact ag_mono this (fun p hp => by unfold Sk Sc; omega))
  unfold f_X9_kneel
  rw [rq0 hρ hq, rq1 hρ hq, rq2 hρ hq, nI_clamp (show s < 2 ^ 31 by omega)]
  have i5 : ib (nI s) 5 = true := ib_nI (by omega) (by decide)
  refine ok_call (s_loadC (x := 0) hN hρ ht hq wf rc rs hs hh hm hm5) (fun r σ1 hr => ok_gd i5 ?_)
  have rc1 := RepC_sc rc hr.2
  have rs1 := RepS_sc ht hq rs hr.2
  obtain ⟨l, hl1, hl2⟩ := ld_nI (c := c) (S := T) (s := s) (h := h) (m := m) (x := 0)
  obtain ⟨w, hw1, hw2⟩ := wr_nI (c := c) (S := T) (s := s) (h := h) (m := m) (by omega)
  rw [(rs1.1 s hs).1, hr.1]
  unfold kn
  by_cases hl : ld c T s h m 0 ≤ nI (T 0 s)
  · refine ok_pos hl ?_
    simp only [if_pos hl]
    refine ok_call (s_wearC hN hρ ht hq wf (by omega) rc1 rs1 hs hh hm5) (fun r2 σ2 hr2 => ?_)
    have rs2 := RepS_sc ht hq rs1 hr2.2
    refine ok_gd i5 (ok_gd i5 (ok_sI fun σ3 n3 u3 => ok_gd i5 (ok_gd i5 (ok_sI fun σ4 n4 u4 => ok_gd i5 (ok_gd i5 (ok_sI fun σ5 n5 u5 => ok_ret ⟨rfl, ?_⟩))))))
    have rs3 := RepS_w (r := 2) (v := min 99 (T 2 s + 1)) rs2 (by omega) (by decide) n3 u3 (by rw [(rs2.1 s hs).2.2.1, nI_1, show (99 : Int32) = nI 99 from rfl, mmin_nI (by decide) (by omega)])
    have rs4 := RepS_w (r := 1) (v := min 99 (T 1 s + (ld c T s h m 0).toNatClampNeg / 5)) rs3 (by omega) (by decide) n4 u4 (by
      rw [n3 (q + 2) (by omega), (rs2.1 s hs).2.1, hl2, nI_clamp (by omega), show (5 : Int32) = nI 5 from rfl, pk_div (by omega) (by decide) (by decide), nI_add, show (99 : Int32) = nI 99 from rfl, mmin_nI (by decide) (by omega)])
    exact RepS_w (r := 0) (v := T 0 s - (wr c T s h m).toNatClampNeg) rs4 (by omega) (by decide) n5 u5 (by
      rw [n4 (q + 1) (by omega), n3 (q + 1) (by omega), (rs2.1 s hs).1, hr2.1, hw2, nI_clamp (by omega), pk_sub hw1])
  · simp only [if_neg hl]
    refine (ok_gd i5 (ok_gd i5 (ok_sI fun σ2 n2 u2 => ok_ret ⟨rfl, ?_⟩)))
    exact RepS_w (r := 0) (v := T 0 s / 2) rs1 (by omega) (by decide) n2 u2 (by
      rw [show (2 : Int32) = nI 2 from rfl, pk_div (by omega) (by decide) (by decide)])
theorem s_rest {N t q s : Nat} {ρ : Nat → Nat → Nat} {c : CDat} {T : SDat} {σ : St} (hρ : ρ = RR t) (ht : isT t) (hq : isQ q) (wf : WfC c) (b0 : T 0 s ≤ 99) (rc : RepC t c σ) (rs : RepS q c T σ) (hs : s < ns c) :
    Ok (f_X9_rest N ρ q t (nI s) σ) (fun _ σ' => RepS q c (pu T 0 s (min (dt c 5 s) (T 0 s + 2))) σ' ∧ Ag (Sk t q) σ σ') := by
  have hns := wf.2.1
  have d5 := (wf.2.2.2.1 s hs).2.1
  refine ok_ag ?_ (fun r σ' e => by have := m_X9_rest e; rw [rq0 hρ hq] at this; exact ag_mono this (fun p hp => by unfold Sk; omega))
  unfold f_X9_rest
  rw [rq0 hρ hq, rt5 hρ ht, nI_clamp (show s < 2 ^ 31 by omega)]
  have i5 : ib (nI s) 5 = true := ib_nI (by omega) (by decide)
  refine ok_gd i5 (ok_gd i5 (ok_gd i5 (ok_sI fun σ1 n1 u1 => ok_ret ?_)))
  exact RepS_w (r := 0) (v := min (dt c 5 s) (T 0 s + 2)) rs (by omega) (by decide) n1 u1 (by
    rw [(rs.1 s hs).1, show σ.1 (t + 6) s = nI (dt c 5 s) from rc.2.2.2.2.2.2.1 5 s (by decide) (by decide) hs, show (2 : Int32) = nI 2 from rfl, nI_add, mmin_nI (by omega) (by omega)])
theorem evF_at {c : CDat} {S : SDat} {k : Nat → Bool} {h s : Nat} (e : S 3 s = h + 1) (hk : k h = false) (hq : ¬ qrl c S h = true) : evF c S k s = if ld c S s h (mny c S h) 0 ≤ nI (S 0 s) then 1 else 2 := by
  unfold evF
  rw [if_neg (fun z => by rw [show S 3 s - 1 = h by omega, hk] at z; exact absurd z.2 (by decide)), fare_at hq e]
theorem Tm_kn {c : CDat} {S : SDat} {k : Nat → Bool} {h i : Nat} (e : S 3 i = h + 1) (hk : k h = false) (hq : ¬ qrl c S h = true) : kn c (Tm c S k i) i h (mny c S h) = Tm c S k (i + 1) := by
  have hf := evF_at e hk hq
  have hd : S 3 i - 1 = h := by omega
  unfold kn
  rw [ld_cg (S := S) Tm_i Tm_i Tm4, wr_cg (S := S) Tm_i Tm_i Tm4, Tm_i, Tm_i, Tm_i]
  funext r s
  by_cases hs : s = i
  · subst hs
    by_cases hl : ld c S s h (mny c S h) 0 ≤ nI (S 0 s)
    · rw [if_pos hl] at hf ⊢
      match r with
      | 0 => simp [pu, Tm, ev, ev0, hf, evW, hd]
      | 1 => simp [pu, Tm, ev, hf, evL, lod, hd]
      | 2 => simp [pu, Tm, ev, hf]
      | r + 3 => simp [pu, Tm, show ¬ (r + 3 < 3) by omega]
    · rw [if_neg hl] at hf ⊢
      match r with
      | 0 => simp [pu, Tm, ev, ev0, hf]
      | 1 => simp [pu, Tm, ev, hf]
      | 2 => simp [pu, Tm, ev, hf]
      | r + 3 => simp [pu, Tm, show ¬ (r + 3 < 3) by omega]
  · have h2 : s < i + 1 ↔ s < i := by omega
    by_cases hl : ld c S i h (mny c S h) 0 ≤ nI (S 0 i)
    · rw [if_pos hl]
      simp only [pu, hs, and_false, if_false, Tm, h2]
    · rw [if_neg hl]
      simp only [pu, hs, and_false, if_false, Tm, h2]
theorem Tm_rest {c : CDat} {S : SDat} {k : Nat → Bool} {i : Nat} (e : S 3 i = 0) : pu (Tm c S k i) 0 i (min (dt c 5 i) (Tm c S k i 0 i + 2)) = Tm c S k (i + 1) := by
  have hf : evF c S k i = 0 := by
    unfold evF
    rw [if_neg (fun z => z.1 e)]
    exact fare_0.mpr e
  rw [Tm_i]
  funext r s
  by_cases hs : s = i
  · subst hs
    match r with
    | 0 => simp [pu, Tm, ev, ev0, hf]
    | 1 => simp [pu, Tm, ev, hf]
    | 2 => simp [pu, Tm, ev, hf]
    | r + 3 => simp [pu, Tm, show ¬ (r + 3 < 3) by omega]
  · have h2 : s < i + 1 ↔ s < i := by omega
    simp only [pu, hs, and_false, if_false, Tm, h2]
theorem Tm_not {c : CDat} {S : SDat} {k : Nat → Bool} {i : Nat} (hf : evF c S k i = 3) : Tm c S k i = Tm c S k (i + 1) := by
  funext r s
  by_cases hs : s = i
  · subst hs
    match r with
    | 0 => simp [Tm, ev, ev0, hf]
    | 1 => simp [Tm, ev, hf]
    | 2 => simp [Tm, ev, hf]
    | r + 3 => simp [Tm, show ¬ (r + 3 < 3) by omega]
  · have h2 : s < i + 1 ↔ s < i := by omega
    simp only [Tm, h2]
theorem Tm_ev {c : CDat} {S : SDat} {k : Nat → Bool} {r s : Nat} (hr : r < 4) (hs : s < ns c) : ev c S k r s = pu (Tm c S k (ns c)) 4 0 (S 4 0 + 1) r s := by
  rw [pu_n (by omega)]
  match r, hr with
  | 0, _ => simp [Tm, hs]
  | 1, _ => simp [Tm, hs]
  | 2, _ => simp [Tm, hs]
  | 3, _ => rw [Tm3]; rfl
set_option maxHeartbeats 800000 in
theorem s_passEvening {N t q m : Nat} {ρ : Nat → Nat → Nat} {c : CDat} {S : SDat} {k : Nat → Bool} {σ : St} (hN : 20000 ≤ N) (hρ : ρ = RR t) (ht : isT t) (hq : isQ q) (wf : WfC c) (ws : WfS c S) (rc : RepC t c σ) (rs : RepS q c S σ) (hm : nh c ≤ m) (hm6 : m ≤ 6) :
    Ok (f_X9_passEvening N ρ q t (bits k m) σ) (fun _ σ' => RepS q c (ev c S k) σ' ∧ Ag (Sk t q) σ σ') := by
  have hns := wf.2.1
  have hnh := wf.1
  refine ok_ag ?_ (fun r σ' e => by have := m_X9_passEvening e; rw [rt8 hρ ht, rt9 hρ ht, rt10 hρ ht, rb1 hρ ht, rw1 hρ ht, rq0 hρ hq, rq1 hρ hq, rq2 hρ hq] at this; exact ag_mono this (fun p hp => by unfold Sk Sc; omega))
  refine lp_ok (F := fun n (a : Int32 × St) => f_X9_passEvening_2 N ρ q t (bits k m) n a.1 a.2) (ns c) (fun i a => a.1 = nI i ∧ RepS q c (Tm c S k i) a.2 ∧ Ag (Sk t q) σ a.2) ?_ ?_ N 0 (0, σ) (Nat.zero_le _) (by omega) ⟨rfl, RepS_pt rs (fun r s _ _ => by simp [Tm]) Tm4 Tm4, ag_refl⟩
  · rintro n i ⟨j, σ1⟩ hi ⟨e2, rs1, ha⟩ kk
    have e2 : j = _ := e2
    have ha : Ag (Sk t q) σ σ1 := ha
    have rs1 : RepS q c (Tm c S k i) σ1 := rs1
    subst e2
    have rc1 := RepC_sk ht hq rc ha
    have wt := Tm_wf (k := k) (i := i) wf ws
    have h3b := (ws.1 i hi).2.2.2
    have wsi := WfS_lt wf ws hi
    have wsr := ws.1 i hi
    show Ok (b_X9_passEvening_2 N ρ q t (bits k m) (f_X9_passEvening_2 N ρ q t (bits k m) n) (nI i) σ1) _
    unfold b_X9_passEvening_2 f_X9_passEvening_72
    rw [rc1.2.1, rq3 hρ hq, nI_clamp (show i < 2 ^ 31 by omega), nI_1, (rs1.1 i hi).2.2.2, Tm3]
    refine ok_neg (nI_ge hi (by omega)) (ok_gd (ib_nI (by omega) (by decide)) (ok_nmd ?_))
    by_cases h3 : S 3 i = 0
    · rw [h3, sv_0]
      refine ok_bnd (s_setNone hN hρ hq wf wt rs1) (ok_neg (by decide) ?_)
      refine ok_call (s_rest hρ ht hq wf (by rw [Tm_i]; omega) rc1 rs1 hi) (fun _ σ2 h2 => ?_)
      rw [Tm_rest h3] at h2
      exact kk (_, σ2) ⟨rfl, h2.1, ag_trans ha h2.2⟩
    · obtain ⟨h, e⟩ : ∃ h, S 3 i = h + 1 := ⟨S 3 i - 1, by omega⟩
      rw [e, sv_s]
      refine ok_bnd (s_setAt hN hρ hq wf wt rs1 (by omega)) (ok_pos (nI_pos' (by omega)) ?_)
      rw [atH_cg (S := S) (fun s => Tm3), bits_in hm6 (show h < m by omega)]
      by_cases hk : k h = true
      · rw [if_pos hk]
        refine ok_neg (by decide) ?_
        rw [Tm_not (show evF c S k i = 3 by unfold evF; rw [if_pos ⟨h3, by rw [show S 3 i - 1 = h by omega]; exact hk⟩])] at rs1
        exact kk (_, σ1) ⟨rfl, rs1, ha⟩
      · rw [if_neg hk]
        refine ok_pos rfl ?_
        refine ok_bnd (s_quarrelH hN hρ ht wf rc1) ?_
        have hk' : k h = false := by simpa using hk
        by_cases hqr : qrl c S h = true
        · rw [if_pos hqr]
          refine ok_neg (by decide) ?_
          rw [Tm_not (show evF c S k i = 3 by unfold evF; rw [if_neg (fun z => by rw [show S 3 i - 1 = h by omega, hk'] at z; exact absurd z.2 (by decide)), fare_aq hqr e])] at rs1
          exact kk (_, σ1) ⟨rfl, rs1, ha⟩
        · rw [if_neg hqr]
          refine ok_pos rfl ?_
          refine ok_bnd (s_bitCount (by omega)) ?_
          have hmp : 0 < mny c S h := by have := mny_pos hi h3; rw [show S 3 i - 1 = h by omega] at this; exact this
          refine ok_call (s_kneel (m := mny c S h) hN hρ ht hq wf (by rw [Tm_i]; omega) (by rw [Tm_i]; omega) (by rw [Tm_i]; omega) rc1 rs1 hi (by omega) hmp (mny_le wf)) (fun r σ2 h2 => ?_)
          rw [Tm_kn e hk' hqr] at h2
          exact kk (_, σ2) ⟨rfl, h2.1.2, ag_trans ha h2.2⟩
  · rintro n ⟨j, σ1⟩ ⟨e2, rs1, ha⟩
    have e2 : j = _ := e2
    have ha : Ag (Sk t q) σ σ1 := ha
    have rs1 : RepS q c (Tm c S k (ns c)) σ1 := rs1
    subst e2
    have rc1 := RepC_sk ht hq rc ha
    show Ok (b_X9_passEvening_2 N ρ q t (bits k m) (f_X9_passEvening_2 N ρ q t (bits k m) n) (nI (ns c)) σ1) _
    unfold b_X9_passEvening_2
    rw [rc1.2.1]
    refine ok_pos (Int32.le_refl _) (ok_sI fun σ2 n2 u2 => ok_ret ?_)
    have := RepS_w4 (j := 0) (v := S 4 0 + 1) rs1 (by decide) n2 u2 (by rw [rs1.2.2.1, Tm4, nI_1])
    exact RepS_pt this (fun r s hr hs => Tm_ev hr hs) (by rw [pu_s, ev40]) (by rw [pu_n (by omega), Tm4, ev41])
