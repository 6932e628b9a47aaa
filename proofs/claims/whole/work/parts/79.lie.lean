/-! WHAT LIES THERE; GUESTS -/
def ALx (t p : Nat) : Prop := ScX t p ∨ p = 0 ∨ p = 89
def ALm (p : Nat) : Prop := ScM p ∨ p = 90 ∨ p = 125
def LX (L : Nat) (ls : Nat → Int32) (σ σ1 : St) : Prop := σ1.1 0 14 = nI L ∧ (∀ i, i < L → σ1.1 89 i = ls i) ∧ ∀ k, k ≠ 14 → σ1.1 0 k = σ.1 0 k
def LM (L : Nat) (ls : Nat → Int32) (σ1 σ2 : St) : Prop := σ2.1 90 65 = nI L ∧ (∀ i, i < L → σ2.1 125 i = ls i) ∧ ∀ k, k ≠ 65 → σ2.1 90 k = σ1.1 90 k
theorem api_lie {f g : (Nat → Nat → Nat) → St → Option (Int32 × St)} (h : ∀ c S, WfC c → WfS c S → S 4 0 ≤ 999 → ∃ v L ls, L ≤ 5 ∧ (∀ t σ, isT t → RepC t c σ → RepS 41 c S σ → Ok (f (RR t) σ) (fun r σ1 => (r = v ∧ LX L ls σ σ1) ∧ Ai (ALx t) σ σ1 ∧ σ1.2 6 = σ.2 6)) ∧ ∀ t σ1, RepM c σ1 → RepA 119 c S σ1 → σ1.1 90 27 = 0 → Ok (g (RR t) σ1) (fun r σ2 => (r = v ∧ LM L ls σ1 σ2) ∧ Ag ALm σ1 σ2)) : Api Inv f g := by
  intro ρ σ hI
  obtain ⟨t, c, S, rfl, hi⟩ := hI
  have hi' := hi
  obtain ⟨ht, wf, ws, hd, ⟨rc, rs⟩, ⟨rm, ra, hx⟩, hhist, hbox, hlie, hflt, ⟨M, T, mk, hmem⟩, ⟨L0, bt, htap⟩, hwrd⟩ := hi'
  have tl := isT_le ht
  obtain ⟨v, L, ls, hL, hf, hg⟩ := h c S wf ws hd
  obtain ⟨r1, σ1, e1, ⟨rfl, lx⟩, a1, w1⟩ := hf t σ ht rc rs
  have z1 : ∀ p, 90 ≤ p → σ1.1 p = σ.1 p := fun p hp => a1 p (by unfold ALx ScX; omega)
  obtain ⟨r2, σ2, e2, ⟨rfl, lm⟩, a2⟩ := hg t σ1 (RepM_cg rm (fun p hp => z1 p (by omega))) (RepA_cg ra (z1 119 (by decide))) (by rw [z1 90 (by decide)]; exact hx)
  have z2 : ∀ p, p < 90 → σ2.1 p = σ1.1 p ∧ σ2.2 p = σ1.2 p := fun p hp => a2 p (by unfold ALm ScM; omega)
  have y : ∀ p, ¬ ALx t p → ¬ ALm p → σ2.1 p = σ.1 p := fun p h1 h2 => (a2 p h2).1.trans (a1 p h1)
  have y90 : ∀ k, k ≠ 65 → σ2.1 90 k = σ.1 90 k := fun k h1 => by rw [lm.2.2 k h1, z1 90 (by decide)]
  have y0 : ∀ k, k ≠ 14 → σ2.1 0 k = σ.1 0 k := fun k h1 => by rw [(z2 0 (by decide)).1, lx.2.2 k h1]
  have y' : ∀ p, (1 ≤ p ∧ p ≤ 6) ∨ (68 ≤ p ∧ p ≤ 74) ∨ p = 91 ∨ (128 ≤ p ∧ p ≤ 133) ∨ CoreP t p → σ2.1 p = σ.1 p := fun p hp => y p (by unfold ALx ScX; unfold CoreP at hp; omega) (by unfold ALm ScM; unfold CoreP at hp; omega)
  refine ⟨r2, σ1, σ2, e1, e2, t, c, S, rfl, Iv_gen hi (fun p hp => y' p (Or.inr (Or.inr (Or.inr (Or.inr hp))))) (fun k hk => y90 k (by omega)) ⟨L, hL, ?_, lm.1, fun i hi => ?_⟩ (FltI_cg hflt (y0 15 (by decide)) (y0 16 (by decide)) (y90 2 (by decide)) (y90 3 (by decide))) ⟨M, T, mk, MemI_cg hmem (y' 68 (by omega)) (y90 74 (by decide)) (y90 75 (by decide)) (fun p h1 h2 => y' p (by omega)) (fun p h1 h2 => y' p (by omega))⟩ ⟨L0, bt, TapI_cg htap (y' 4 (by omega)) (y90 1 (by decide)) (y' 91 (by omega)) (y' 5 (by omega))⟩ (WrdI_cg hwrd ((z2 6 (by decide)).2.trans w1))⟩
  · rw [(z2 0 (by decide)).1]; exact lx.1
  · rw [(z2 89 (by decide)).1, lx.2.1 i hi, lm.2.1 i hi]
/-- two guests -/
def tw2 (a b k : Nat) : Bool := decide (k = a) || decide (k = b)
theorem tw2_a {a b : Nat} : tw2 a b a = true := by simp [tw2]
theorem tw2_b {a b : Nat} : tw2 a b b = true := by simp [tw2]
theorem qn_cg {cr : Nat → Nat} {p q : Nat → Bool} {n : Nat} (h : ∀ k, k < n → p k = q k) : qn cr p n = qn cr q n := by
  have e : qn cr p n = true ↔ qn cr q n = true := by
    rw [qn_iff, qn_iff]
    constructor
    · rintro ⟨a, b, h1, h2, h3, h4, h5⟩
      exact ⟨a, b, h1, h2, by rw [← h a h2]; exact h3, by rw [← h b (by omega)]; exact h4, h5⟩
    · rintro ⟨a, b, h1, h2, h3, h4, h5⟩
      exact ⟨a, b, h1, h2, by rw [h a h2]; exact h3, by rw [h b (by omega)]; exact h4, h5⟩
  cases h1 : qn cr p n <;> cases h2 : qn cr q n <;> simp_all
theorem cnt_tw2 {a b n : Nat} (hab : a ≠ b) (ha : a < n) (hb : b < n) : cnt (tw2 a b) n = 2 := by
  have key : ∀ n, cnt (tw2 a b) n = cnt (fun k => decide (k = a)) n + cnt (fun k => decide (k = b)) n := by
    intro n
    induction n with
    | zero => rfl
    | succ n ih =>
      rw [cnt_s, cnt_s, cnt_s, ih]
      simp only [tw2, Bool.or_eq_true, decide_eq_true_eq]
      split <;> split <;> split <;> omega
  rw [key, cnt_one ha, cnt_one hb]
def tog (c : CDat) (S : SDat) (a b s x : Nat) : Bool := decide (2 ≤ dt c 2 x) && (!(qn (dt c 6) (tw2 a b) (ns c)) && decide (ld c S s x 2 0 ≤ nI (S 0 s)))
def gcn (c : CDat) (S : SDat) (a b s x y : Nat) : Bool := if x = y then tog c S a b s x else ca c S s x
def pen (w : Nat) (b : Bool) : Nat := w + (if b = true then 0 else 1000)
def gw (c : CDat) (S : SDat) (a b s x y : Nat) : Nat := pen (wy c s x) (gcn c S a b s x y)
def grA (c : CDat) (S : SDat) (a b x y z : Nat) : Bool := decide (gw c S a b a x y ≤ gw c S a b a z y)
def grB (c : CDat) (S : SDat) (a b x y z : Nat) : Bool := decide (gw c S a b b y x ≤ gw c S a b b z x)
def grR (c : CDat) (S : SDat) (a b x y : Nat) : Bool := al (grA c S a b x y) (nh c) && al (grB c S a b x y) (nh c)
def grS (c : CDat) (S : SDat) (a b : Nat) (st : ChT) (x y : Nat) : ChT := if grR c S a b x y = true then (st.1 + 1, match st.2 with | none => some (x, y) | some q => some q) else st
def grI (c : CDat) (S : SDat) (a b x : Nat) (st : ChT) : Nat → ChT
  | 0 => st
  | j + 1 => grS c S a b (grI c S a b x st j) x j
def grO (c : CDat) (S : SDat) (a b : Nat) : Nat → ChT
  | 0 => (0, none)
  | i + 1 => grI c S a b i (grO c S a b i) (nh c)
def grB' (k : Nat) (st : ChT) : Prop := st.1 ≤ k ∧ (st.1 = 0 ↔ st.2 = none) ∧ ∀ q, st.2 = some q → q.1 < 6 ∧ q.2 < 6
theorem grS_B {c : CDat} {S : SDat} {a b x y k : Nat} {st : ChT} (h : grB' k st) (hx : x < 6) (hy : y < 6) : grB' (k + 1) (grS c S a b st x y) := by
  unfold grS
  obtain ⟨h1, h2, h3⟩ := h
  by_cases z : grR c S a b x y = true
  · rw [if_pos z]
    obtain ⟨n, o⟩ := st
    cases o with
    | none => exact ⟨by show n + 1 ≤ k + 1; have : n ≤ k := h1; omega, ⟨fun z => by have : n + 1 = 0 := z; omega, fun z => by cases z⟩, fun q hq => by cases hq; exact ⟨hx, hy⟩⟩
    | some q => exact ⟨by show n + 1 ≤ k + 1; have : n ≤ k := h1; omega, ⟨fun z => by have : n + 1 = 0 := z; omega, fun z => by cases z⟩, fun q' hq => h3 q' hq⟩
  · rw [if_neg z]
    exact ⟨by omega, h2, h3⟩
def gwa (c : CDat) (S : SDat) (s x : Nat) : Nat := pen (wy c s x) (ca c S s x)
def gwt (c : CDat) (S : SDat) (a b s x : Nat) : Nat := pen (wy c s x) (tog c S a b s x)
theorem gw_e {c : CDat} {S : SDat} {a b s x : Nat} : gw c S a b s x x = gwt c S a b s x := by simp [gw, gcn, gwt]
theorem gw_n {c : CDat} {S : SDat} {a b s x y : Nat} (h : x ≠ y) : gw c S a b s x y = gwa c S s x := by simp [gw, gcn, gwa, h]
theorem wy_le {c : CDat} {s h : Nat} (wf : WfC c) (hs : s < ns c) (hh : h < nh c) : wy c s h ≤ 99 := by
  have := (wf.2.2.1 h hh).1
  have := (wf.2.2.2.1 s hs).1
  unfold wy
  omega
theorem pen_le {w : Nat} {b : Bool} (h : w ≤ 99) : pen w b ≤ 1099 := by
  unfold pen
  split <;> omega
theorem s_worth {N t u s h n : Nat} {ρ : Nat → Nat → Nat} {c : CDat} {p : Nat → Bool} {σ : St} (hρ : ρ = RR u) (ht : isT t) (wf : WfC c) (rc : RepC t c σ) (hs : s < ns c) (hh : h < nh c) (hn : s < n) (hn6 : n ≤ 6) : f_X3_worth N ρ t (nI s) (nI h) (bits p n) σ = some (nI (pen (wy c s h) (p s)), σ) := by
  unfold f_X3_worth f_X3_worth_13 f_X3_worth_33
  rw [bits_in hn6 hn]
  unfold pen
  by_cases hp : p s = true
  · rw [if_pos hp, if_neg (show ¬ (1 : Int32) = 0 by decide), bnd_e (s_wayC hρ ht wf rc hs hh), if_neg (show ¬ (1 : Int32) = 0 by decide), if_pos hp]
    rw [show nI (wy c s h) + 0 = nI (wy c s h + 0) from nI_add _ 0]
  · rw [if_neg hp, if_pos rfl, bnd_e (s_wayC hρ ht wf rc hs hh), if_pos rfl, if_neg hp]
    rw [show nI (wy c s h) + 1000 = nI (wy c s h + 1000) from nI_add _ 1000]
def GW (c : CDat) (S : SDat) (a b i : Nat) (σ : St) : Prop := ∀ x, x < i → σ.1 63 x = nI (gwa c S a x) ∧ σ.1 64 x = nI (gwa c S b x) ∧ σ.1 66 x = nI (gwt c S a b a x) ∧ σ.1 67 x = nI (gwt c S a b b x)
theorem GW_cg {c : CDat} {S : SDat} {a b i : Nat} {σ σ' : St} (h : GW c S a b i σ) (e : ∀ p, 63 ≤ p → p ≤ 67 → σ'.1 p = σ.1 p) : GW c S a b i σ' := fun x hx => by
  rw [e 63 (by decide) (by decide), e 64 (by decide) (by decide), e 66 (by decide) (by decide), e 67 (by decide) (by decide)]
  exact h x hx
def G9 (t p : Nat) : Prop := Sc t p ∨ (61 ≤ p ∧ p ≤ 67)
set_option maxHeartbeats 800000 in
theorem s_weigh68 {N t a b h : Nat} {c : CDat} {S : SDat} {σ : St} (ht : isT t) (wf : WfC c) (rc : RepC t c σ) (rs : RepS 41 c S σ) (gwi : GW c S a b h σ) (ha : a < ns c) (hb : b < ns c) (hh : h < nh c) :
    Ok (f_X3_weigh_68 N (RR t) 61 t 41 (nI h) (nI a) (nI b) (bits (fun s => tw2 a b s && decide (ld c S s h 1 0 ≤ nI (S 0 s))) (ns c)) (bits (fun s => tw2 a b s && tog c S a b s h) (ns c)) σ) (fun _ σ' => GW c S a b (h + 1) σ' ∧ RepC t c σ' ∧ RepS 41 c S σ' ∧ Ai (G9 t) σ σ') := by
  have hns := wf.2.1
  have hnh := wf.1
  have tl := isT_le ht
  have i6 : ib (nI h) 6 = true := ib_nI (by omega) (by decide)
  unfold f_X3_weigh_68
  rw [r_61_0 rfl, r_61_1 rfl, show RR t 62 (0 : Int32).toNatClampNeg = 63 from r_62 (t := t) rfl, show RR t 62 (1 : Int32).toNatClampNeg = 64 from r_62 (t := t) rfl, show RR t 65 (0 : Int32).toNatClampNeg = 66 from r_65 (t := t) rfl, show RR t 65 (1 : Int32).toNatClampNeg = 67 from r_65 (t := t) rfl, nI_clamp (show h < 2 ^ 31 by omega)]
  have rcA : ∀ {σ σ' : St} {p0 : Nat}, RepC t c σ → 62 ≤ p0 → (∀ p, p ≠ p0 → σ'.1 p = σ.1 p) → RepC t c σ' := fun r1 h0 n => RepC_cg r1 (fun p _ _ _ => n p (by omega))
  refine ok_gd rfl (ok_bnd (s_worth rfl ht wf rc ha hh ha (by omega)) (ok_gd i6 (ok_sI fun σ1 n1 u1 => ?_)))
  have rc1 := rcA rc (by decide) n1
  refine ok_gd rfl (ok_bnd (s_worth rfl ht wf rc1 hb hh hb (by omega)) (ok_gd i6 (ok_sI fun σ2 n2 u2 => ?_)))
  have rc2 := rcA rc1 (by decide) n2
  refine ok_gd rfl (ok_bnd (s_worth rfl ht wf rc2 ha hh ha (by omega)) (ok_gd i6 (ok_sI fun σ3 n3 u3 => ?_)))
  have rc3 := rcA rc2 (by decide) n3
  refine ok_gd rfl (ok_bnd (s_worth rfl ht wf rc3 hb hh hb (by omega)) (ok_gd i6 (ok_sI fun σ4 n4 u4 => ok_ret ?_)))
  refine ⟨fun x hx => ?_, rcA rc3 (by decide) n4, RepS_cg rs (fun p h1 h2 => by rw [n4 p (by omega), n3 p (by omega), n2 p (by omega), n1 p (by omega)]), fun p hp => by unfold G9 at hp; rw [n4 p (by omega), n3 p (by omega), n2 p (by omega), n1 p (by omega)]⟩
  have q63 : σ4.1 63 = upd (σ.1 63) h (nI (pen (wy c a h) (tw2 a b a && decide (ld c S a h 1 0 ≤ nI (S 0 a))))) := by rw [n4 63 (by decide), n3 63 (by decide), n2 63 (by decide), u1]
  have q64 : σ4.1 64 = upd (σ.1 64) h (nI (pen (wy c b h) (tw2 a b b && decide (ld c S b h 1 0 ≤ nI (S 0 b))))) := by rw [n4 64 (by decide), n3 64 (by decide), u2, n1 64 (by decide)]
  have q66 : σ4.1 66 = upd (σ.1 66) h (nI (pen (wy c a h) (tw2 a b a && tog c S a b a h))) := by rw [n4 66 (by decide), u3, n2 66 (by decide), n1 66 (by decide)]
  have q67 : σ4.1 67 = upd (σ.1 67) h (nI (pen (wy c b h) (tw2 a b b && tog c S a b b h))) := by rw [u4, n3 67 (by decide), n2 67 (by decide), n1 67 (by decide)]
  rw [q63, q64, q66, q67]
  by_cases ex : x = h
  · subst ex
    rw [pk_us, pk_us, pk_us, pk_us, tw2_a, tw2_b, Bool.true_and, Bool.true_and, Bool.true_and, Bool.true_and]
    exact ⟨rfl, rfl, rfl, rfl⟩
  · rw [pk_un ex, pk_un ex, pk_un ex, pk_un ex]
    exact gwi x (by omega)
theorem bits_tw2 {a b : Nat} (ha : a < 6) (hb : b < 6) : (1 <<< (nI a &&& 31)) ||| (1 <<< (nI b &&& 31)) = bits (tw2 a b) 6 := by
  rw [bits_one a ha, bits_one b hb, bits_or (by decide)]
  rfl
set_option maxHeartbeats 800000 in
theorem s_weigh {N t a b h : Nat} {c : CDat} {S : SDat} {σ : St} (hN : 20000 ≤ N) (ht : isT t) (wf : WfC c) (rc : RepC t c σ) (rs : RepS 41 c S σ) (gwi : GW c S a b h σ) (ha : a < ns c) (hb : b < ns c) (hh : h < nh c) :
    Ok (f_X3_weigh N (RR t) 61 t 41 (nI h) (nI a) (nI b) σ) (fun _ σ' => GW c S a b (h + 1) σ' ∧ RepC t c σ' ∧ RepS 41 c S σ' ∧ Ai (G9 t) σ σ') := by
  have hns := wf.2.1
  have hnh := wf.1
  have tl := isT_le ht
  have d2 := (wf.2.2.1 h hh).2.2.2.1
  unfold f_X3_weigh f_X3_weigh_46 f_X3_weigh_47
  rw [bits_tw2 (by omega) (by omega), rt2 rfl ht, nI_clamp (show h < 2 ^ 31 by omega)]
  refine ok_nmd (ok_call (s_bearing (m := 1) hN rfl ht q41 wf rc rs hh (show ns c ≤ 6 by omega) (by decide) (by decide) (Or.inl (by decide))) (fun r σ1 h1 => ok_gd (ib_nI (by omega) (by decide)) ?_))
  obtain ⟨h11, a1⟩ := h1
  have rc1 := RepC_sc rc a1
  have rs1 := RepS_sc ht q41 rs a1
  have g1 := GW_cg gwi (fun p h1 h2 => (a1 p (by unfold Sc; omega)).1)
  have e61 : Ai (G9 t) σ σ1 := ai_mono (ai_of a1) (fun p hp => Or.inl hp)
  rw [h11, show σ1.1 (t + 3) h = nI (dt c 2 h) from rc1.2.2.2.2.2.1 2 h (by decide) hh]
  have fin0 : ∀ σ2 : St, RepC t c σ2 → RepS 41 c S σ2 → GW c S a b h σ2 → Ai (G9 t) σ σ2 → (∀ s, tog c S a b s h = false) → Ok (f_X3_weigh_68 N (RR t) 61 t 41 (nI h) (nI a) (nI b) (bits (fun s => tw2 a b s && decide (ld c S s h 1 0 ≤ nI (S 0 s))) (ns c)) 0 σ2) (fun _ σ' => GW c S a b (h + 1) σ' ∧ RepC t c σ' ∧ RepS 41 c S σ' ∧ Ai (G9 t) σ σ') := by
    intro σ2 rc2 rs2 g2 e2 ht0
    have := s_weigh68 (N := N) ht wf rc2 rs2 g2 ha hb hh
    rw [bits_0 (p := fun s => tw2 a b s && tog c S a b s h) (fun k _ => by rw [ht0 k, Bool.and_false])] at this
    exact ok_mono this (fun _ σ' hp => ⟨hp.1, hp.2.1, hp.2.2.1, ai_tr e2 hp.2.2.2⟩)
  by_cases hr : 2 ≤ dt c 2 h
  · refine ok_neg (show ¬ nI (dt c 2 h) < nI 2 from nI_nlt hr (by omega)) (ok_bnd (s_quarrelIn hN rfl ht wf rc1 (show ns c ≤ 6 by omega) (by decide)) ?_)
    by_cases hq : qn (dt c 6) (tw2 a b) (ns c) = true
    · rw [if_pos hq]
      exact ok_neg (by decide) (ok_pos rfl (fin0 σ1 rc1 rs1 g1 e61 (fun s => by simp [tog, hq])))
    · rw [if_neg hq]
      refine ok_pos rfl (ok_neg (by decide) (ok_call (s_bearing (m := 2) hN rfl ht q41 wf rc1 rs1 hh (show ns c ≤ 6 by omega) (by decide) (by decide) (Or.inl (by decide))) (fun r2 σ2 h2 => ?_)))
      obtain ⟨h21, a2⟩ := h2
      have g2 := GW_cg g1 (fun p h1 h2 => (a2 p (by unfold Sc; omega)).1)
      have := s_weigh68 (N := N) ht wf (RepC_sc rc1 a2) (RepS_sc ht q41 rs1 a2) g2 ha hb hh
      rw [h21]
      rw [bits_cg (p := fun s => tw2 a b s && tog c S a b s h) (q := fun s => tw2 a b s && decide (ld c S s h 2 0 ≤ nI (S 0 s))) (fun k _ => by simp [tog, hr, hq])] at this
      exact ok_mono this (fun _ σ' hp => ⟨hp.1, hp.2.1, hp.2.2.1, ai_tr (ai_tr e61 (ai_mono (ai_of a2) (fun p hp => Or.inl hp))) hp.2.2.2⟩)
  · exact ok_pos (show nI (dt c 2 h) < nI 2 from nI_lt (by omega) (by decide)) (ok_pos rfl (fin0 σ1 rc1 rs1 g1 e61 (fun s => by simp [tog, hr])))
/-- worth at: side 0 is a, 1 is b -/
theorem s_worthAt {N t a b x y i : Nat} {c : CDat} {S : SDat} {σ : St} (g : GW c S a b (nh c) σ) (hnh : nh c ≤ 6) (hx : x < nh c) (hy : y < nh c) (hi : i < 2) : f_X3_worthAt N (RR t) 61 (nI i) (nI x) (nI y) σ = some (nI (gw c S a b (if i = 0 then a else b) x y), σ) := by
  unfold f_X3_worthAt f_X3_worthAt_24
  rw [r_61_0 rfl, r_61_1 rfl, nI_clamp (show i < 2 ^ 31 by omega), nI_clamp (show x < 2 ^ 31 by omega), r_62 rfl, r_65 rfl]
  have g1 := g x hx
  by_cases e : x = y
  · subst e
    rw [if_pos rfl, gd_t (ib_nI hi (by decide)), gd_t (ib_nI (by omega) (by decide)), gw_e]
    rcases (show i = 0 ∨ i = 1 by omega) with rfl | rfl
    · rw [if_pos rfl]; exact congrArg (fun z => some (z, σ)) g1.2.2.1
    · rw [if_neg (by decide)]; exact congrArg (fun z => some (z, σ)) g1.2.2.2
  · rw [if_neg (fun z => e ((nI_eq (by omega) (by omega)).mp z)), gd_t (ib_nI hi (by decide)), gd_t (ib_nI (by omega) (by decide)), gw_n e]
    rcases (show i = 0 ∨ i = 1 by omega) with rfl | rfl
    · rw [if_pos rfl]; exact congrArg (fun z => some (z, σ)) g1.1
    · rw [if_neg (by decide)]; exact congrArg (fun z => some (z, σ)) g1.2.1
theorem gw_le {c : CDat} {S : SDat} {a b s x y : Nat} (wf : WfC c) (hs : s < ns c) (hx : x < nh c) : gw c S a b s x y ≤ 1099 := pen_le (wy_le wf hs hx)
theorem s_staysAt {N t a b x y i : Nat} {c : CDat} {S : SDat} {σ : St} (hN : 20000 ≤ N) (wf : WfC c) (g : GW c S a b (nh c) σ) (ha : a < ns c) (hb : b < ns c) (hx : x < nh c) (hy : y < nh c) (hi : i < 2) : f_X3_staysAt N (RR t) 61 (nI i) (nI x) (nI y) (nI (nh c)) σ = some (if al (fun z => decide (gw c S a b (if i = 0 then a else b) x y ≤ gw c S a b (if i = 0 then a else b) z y)) (nh c) = true then 1 else 0, σ) := by
  have hnh := wf.1
  have hs : (if i = 0 then a else b) < ns c := by split <;> omega
  refine ok_is ?_
  unfold f_X3_staysAt
  refine ok_bnd (s_worthAt g hnh hx hy hi) ?_
  refine lp (β := Unit) (F := fun n z _ => f_X3_staysAt_12 N (RR t) 61 (nI i) (nI x) (nI y) (nI (nh c)) n (nI (gw c S a b (if i = 0 then a else b) x y)) (nI z) σ) (nh c) (fun z _ => al (fun z => decide (gw c S a b (if i = 0 then a else b) x y ≤ gw c S a b (if i = 0 then a else b) z y)) z = true) ?_ ?_ N 0 () (Nat.zero_le _) (by omega) rfl
  · intro n z _ hz hal kk
    show Ok (b_X3_staysAt_12 _ _ _ _ _ _ _ _ _ _ _) _
    unfold b_X3_staysAt_12
    rw [nI_1 z]
    have b1 := gw_le (S := S) (a := a) (b := b) (y := y) wf hs hx
    have b2 := gw_le (S := S) (a := a) (b := b) (y := y) wf hs hz
    refine ok_neg (nI_ge hz (by omega)) (ok_bnd (s_worthAt g hnh hz hy hi) ?_)
    by_cases h : gw c S a b (if i = 0 then a else b) x y ≤ gw c S a b (if i = 0 then a else b) z y
    · refine ok_pos (nI_le h (by omega)) (kk () ?_)
      simp only [al, hal, Bool.true_and]
      simpa using h
    · refine ok_neg (nI_ge (by omega) (by omega)) (ok_ret ⟨?_, rfl⟩)
      rw [if_neg (al_f hz (by simpa using h))]
  · intro n _ hal
    show Ok (b_X3_staysAt_12 _ _ _ _ _ _ _ _ _ _ _) _
    unfold b_X3_staysAt_12
    exact ok_pos (Int32.le_refl _) (ok_ret ⟨by rw [if_pos hal], rfl⟩)
def GF (st : ChT) (σ : St) : Prop := ∀ q, st.2 = some q → σ.1 61 2 = nI q.1 ∧ σ.1 61 3 = nI q.2
set_option maxHeartbeats 800000 in
theorem s_findRests {N t a b : Nat} {c : CDat} {S : SDat} {σ : St} (hN : 20000 ≤ N) (ht : isT t) (wf : WfC c) (rc : RepC t c σ) (rs : RepS 41 c S σ) (ha : a < ns c) (hb : b < ns c) :
    Ok (f_X3_findRests N (RR t) 61 t 41 (nI a) (nI b) σ) (fun r σ' => r = nI (grO c S a b (nh c)).1 ∧ GF (grO c S a b (nh c)) σ' ∧ grB' 36 (grO c S a b (nh c)) ∧ Ai (G9 t) σ σ') := by
  have hns := wf.2.1
  have hnh := wf.1
  have tl := isT_le ht
  refine lp (F := fun n i σ' => f_X3_findRests_3 N (RR t) 61 t 41 (nI a) (nI b) n (nI i) σ') (nh c) (fun i σ' => GW c S a b i σ' ∧ RepC t c σ' ∧ RepS 41 c S σ' ∧ Ai (G9 t) σ σ') ?_ ?_ N 0 σ (Nat.zero_le _) (by omega) ⟨fun x hx => absurd hx (by omega), rc, rs, ai_refl⟩
  · rintro n i σ1 hi ⟨g1, rc1, rs1, ai1⟩ kk
    show Ok (b_X3_findRests_3 _ _ _ _ _ _ _ _ _ _) _
    unfold b_X3_findRests_3
    rw [rc1.1, nI_1 i]
    exact ok_neg (nI_ge hi (by omega)) (ok_call (s_weigh hN ht wf rc1 rs1 g1 ha hb hi) (fun _ σ2 h2 => kk σ2 ⟨h2.1, h2.2.1, h2.2.2.1, ai_tr ai1 h2.2.2.2⟩))
  · rintro n σ1 ⟨g1, rc1, rs1, ai1⟩
    show Ok (b_X3_findRests_3 _ _ _ _ _ _ _ _ _ _) _
    unfold b_X3_findRests_3
    rw [rc1.1]
    refine ok_pos (Int32.le_refl _) ?_
    refine lp (F := fun n i σ' => f_X3_findRests_35 N (RR t) 61 t 41 (nI a) (nI b) n (nI (grO c S a b i).1) (nI i) σ') (nh c) (fun i σ' => GW c S a b (nh c) σ' ∧ RepC t c σ' ∧ GF (grO c S a b i) σ' ∧ grB' (6 * i) (grO c S a b i) ∧ Ai (G9 t) σ σ') ?_ ?_ N 0 σ1 (Nat.zero_le _) (by omega) ⟨g1, rc1, (fun q hq => by cases hq), ⟨Nat.le_refl _, ⟨fun _ => rfl, fun _ => rfl⟩, (fun q hq => by cases hq)⟩, ai1⟩
    · rintro n i σ2 hi ⟨g2, rc2, gf2, b2, ai2⟩ kk
      show Ok (b_X3_findRests_35 _ _ _ _ _ _ _ _ _ _ _) _
      unfold b_X3_findRests_35
      rw [rc2.1]
      refine ok_neg (nI_ge hi (by omega)) ?_
      generalize hst : grO c S a b i = st at gf2 b2 ⊢
      refine lp (F := fun n' j σ' => f_X3_findRests_47 N (RR t) 61 t 41 (nI a) (nI b) (f_X3_findRests_35 N (RR t) 61 t 41 (nI a) (nI b) n) n' (nI (grI c S a b i st j).1) (nI i) (nI j) σ') (nh c) (fun j σ' => GW c S a b (nh c) σ' ∧ RepC t c σ' ∧ GF (grI c S a b i st j) σ' ∧ grB' (6 * i + j) (grI c S a b i st j) ∧ Ai (G9 t) σ σ') ?_ ?_ N 0 σ2 (Nat.zero_le _) (by omega) ⟨g2, rc2, gf2, b2, ai2⟩
      · rintro n' j σ3 hj ⟨g3, rc3, gf3, b3, ai3⟩ k2
        show Ok (b_X3_findRests_47 _ _ _ _ _ _ _ _ _ _ _ _ _) _
        unfold b_X3_findRests_47 f_X3_findRests_105 f_X3_findRests_108
        rw [rc3.1, nI_1 j]
        have hB := grS_B (c := c) (S := S) (a := a) (b := b) b3 (show i < 6 by omega) (show j < 6 by omega)
        have e1 : grI c S a b i st (j + 1) = grS c S a b (grI c S a b i st j) i j := rfl
        generalize hu : grI c S a b i st j = u at *
        refine ok_neg (nI_ge hj (by omega)) (ok_bnd (s_staysAt (i := 0) hN wf g3 ha hb hi hj (by decide)) ?_)
        have eA : al (fun z => decide (gw c S a b (if 0 = 0 then a else b) i j ≤ gw c S a b (if 0 = 0 then a else b) z j)) (nh c) = al (grA c S a b i j) (nh c) := rfl
        rw [eA]
        by_cases hA : al (grA c S a b i j) (nh c) = true
        · rw [if_pos hA]
          refine ok_neg (by decide) ?_
          rw [rc3.1]
          refine ok_bnd (s_staysAt (i := 1) hN wf g3 ha hb hj hi (by decide)) ?_
          have eB : al (fun z => decide (gw c S a b (if 1 = 0 then a else b) j i ≤ gw c S a b (if 1 = 0 then a else b) z i)) (nh c) = al (grB c S a b i j) (nh c) := rfl
          rw [eB]
          by_cases hBb : al (grB c S a b i j) (nh c) = true
          · rw [if_pos hBb]
            have hR : grR c S a b i j = true := by unfold grR; rw [hA, hBb]; rfl
            obtain ⟨nn, o⟩ := u
            have b31 : nn ≤ 6 * i + j := b3.1
            refine ok_neg (by decide) ?_
            cases o with
            | none =>
              have n0 : nn = 0 := b3.2.1.mpr rfl
              subst n0
              refine ok_pos rfl (ok_sI fun σ4 n4 u4 => ok_sI fun σ5 n5 u5 => ?_)
              have k3 := k2 σ5 ⟨GW_cg g3 (fun p h1 h2 => by rw [n5 p (by omega), n4 p (by omega)]), RepC_cg rc3 (fun p _ _ _ => by rw [n5 p (by omega), n4 p (by omega)]), by
                rw [e1]; unfold grS; rw [if_pos hR]
                intro q hq
                cases hq
                rw [u5, pk_un (by decide), u4, pk_us, pk_us]
                exact ⟨rfl, rfl⟩, by rw [e1]; exact hB, ai_tr ai3 (ai_tr (ai_w n4 (by unfold G9; omega)) (ai_w n5 (by unfold G9; omega)))⟩
              rw [e1] at k3
              unfold grS at k3
              rw [if_pos hR] at k3
              exact k3
            | some q0 =>
              have n0 : nn ≠ 0 := fun z => by cases (b3.2.1.mp z)
              refine ok_neg (nI_ne0 (by show 0 < nn; omega) (by show nn < _; omega)) ?_
              have k3 := k2 σ3 ⟨g3, rc3, by
                rw [e1]; unfold grS; rw [if_pos hR]
                exact gf3, by rw [e1]; exact hB, ai3⟩
              rw [e1] at k3
              unfold grS at k3
              rw [if_pos hR] at k3
              show Ok (f_X3_findRests_47 N (RR t) 61 t 41 (nI a) (nI b) (f_X3_findRests_35 N (RR t) 61 t 41 (nI a) (nI b) n) n' (nI nn + 1) (nI i) (nI (j + 1)) σ3) _
              rw [nI_1 nn]
              exact k3
          · rw [if_neg hBb]
            have hR : ¬ grR c S a b i j = true := by unfold grR; rw [Bool.and_eq_true]; exact fun z => hBb z.2
            have k3 := k2 σ3 ⟨g3, rc3, by rw [e1]; unfold grS; rw [if_neg hR]; exact gf3, by rw [e1]; exact hB, ai3⟩
            rw [e1] at k3
            unfold grS at k3
            rw [if_neg hR] at k3
            exact ok_pos rfl k3
        · rw [if_neg hA]
          have hR : ¬ grR c S a b i j = true := by unfold grR; rw [Bool.and_eq_true]; exact fun z => hA z.1
          have k3 := k2 σ3 ⟨g3, rc3, by rw [e1]; unfold grS; rw [if_neg hR]; exact gf3, by rw [e1]; exact hB, ai3⟩
          rw [e1] at k3
          unfold grS at k3
          rw [if_neg hR] at k3
          exact ok_pos rfl k3
      · rintro n' σ3 ⟨g3, rc3, gf3, b3, ai3⟩
        show Ok (b_X3_findRests_47 _ _ _ _ _ _ _ _ _ _ _ _ _) _
        unfold b_X3_findRests_47
        rw [rc3.1, nI_1 i]
        have ee : grO c S a b (i + 1) = grI c S a b i st (nh c) := by rw [grO, hst]
        have k3 := kk σ3 ⟨g3, rc3, by rw [ee]; exact gf3, by rw [ee]; exact ⟨by have := b3.1; omega, b3.2⟩, ai3⟩
        rw [ee] at k3
        exact ok_pos (Int32.le_refl _) k3
    · rintro n σ2 ⟨g2, rc2, gf2, b2, ai2⟩
      show Ok (b_X3_findRests_35 _ _ _ _ _ _ _ _ _ _ _) _
      unfold b_X3_findRests_35
      rw [rc2.1]
      exact ok_pos (Int32.le_refl _) (ok_ret ⟨rfl, gf2, ⟨by have := b2.1; omega, b2.2⟩, ai2⟩)
