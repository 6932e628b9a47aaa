/-! LOOPS BY NUMBER; WALK, LAW, SCHISMS, PILGRIM, NEAREST -/
theorem lp {β : Type} {F : Nat → Nat → β → Option (Int32 × St)} {Q : Int32 → St → Prop} (m : Nat) (I : Nat → β → Prop)
    (st : ∀ n i b, i < m → I i b → (∀ b', I (i + 1) b' → Ok (F n (i + 1) b') Q) → Ok (F (n + 1) i b) Q)
    (en : ∀ n b, I m b → Ok (F (n + 1) m b) Q) : ∀ n i b, i ≤ m → m - i < n → I i b → Ok (F n i b) Q := by
  intro n
  induction n with
  | zero => intro i b _ h; omega
  | succ n ih =>
    intro i b hi hn h
    by_cases e : i = m
    · subst e; exact en n b h
    · exact st n i b (by omega) h (fun b' h' => ih (i + 1) b' (by omega) (by omega) h')
theorem ok_cast {a b : Option (Int32 × St)} {Q : Int32 → St → Prop} (e : a = b) (h : Ok b Q) : Ok a Q := e ▸ h
def wy (c : CDat) (s h : Nat) : Nat := (dt c 4 s - dt c 0 h) + (dt c 0 h - dt c 4 s)
theorem mabs_nI {a b : Nat} (ha : a < 2 ^ 30) (hb : b < 2 ^ 30) : mabs (nI a - nI b) = nI ((a - b) + (b - a)) := by
  unfold mabs
  by_cases h : b ≤ a
  · rw [pk_sub h, if_pos (nI_pos' (by omega)), show a - b + (b - a) = a - b by omega]
  · have := pk_sneg hb (show a < b by omega)
    rw [if_neg (i_nle.mpr this), Int32.zero_sub, Int32.neg_sub, pk_sub (by omega), show a - b + (b - a) = b - a by omega]
theorem s_plain {N a b : Nat} {ρ : Nat → Nat → Nat} {σ : St} (ha : a < 2 ^ 30) (hb : b < 2 ^ 30) : f_X12_plain N ρ (nI a - nI b) σ = some (nI ((a - b) + (b - a)), σ) := by
  unfold f_X12_plain f_X12_plain_10
  by_cases h : b ≤ a
  · rw [pk_sub h, if_pos (nI_pos' (by omega)), show a - b + (b - a) = a - b by omega]
  · have := pk_sneg hb (show a < b by omega)
    rw [if_neg (i_nle.mpr this), Int32.neg_sub, pk_sub (by omega), show a - b + (b - a) = b - a by omega]
theorem s_wayC {N t u s h : Nat} {ρ : Nat → Nat → Nat} {c : CDat} {σ : St} (hρ : ρ = RR u) (ht : isT t) (wf : WfC c) (rc : RepC t c σ) (hs : s < ns c) (hh : h < nh c) : f_X0_wayOf N ρ t (nI s) (nI h) σ = some (nI (wy c s h), σ) := by
  have hns := wf.2.1
  have hnh := wf.1
  have d0 := (wf.2.2.1 h hh).1
  have d4 := (wf.2.2.2.1 s hs).1
  unfold f_X0_wayOf f_X0_wayOf_36
  rw [rt4 hρ ht, rt0 hρ ht, bnd_e (hasS_y rc.2.1 hns hs), if_neg (by decide), bnd_e (hasH_y rc.1 hnh hh), if_neg (by decide), gd_t (ib_nI (by omega) (by decide)), gd_t (ib_nI (by omega) (by decide)), nI_clamp (by omega), nI_clamp (by omega), show σ.1 (t + 5) s = nI (dt c 4 s) from rc.2.2.2.2.2.2.1 4 s (by decide) (by decide) hs, show σ.1 (t + 1) h = nI (dt c 0 h) from rc.2.2.2.2.2.1 0 h (by decide) hh, mabs_nI (by omega) (by omega)]
  rfl
theorem s_wayM {N u s h : Nat} {ρ : Nat → Nat → Nat} {c : CDat} {σ : St} (hρ : ρ = RR u) (wf : WfC c) (rm : RepM c σ) (hs : s < ns c) (hh : h < nh c) : f_X12_wayOf N ρ 90 (nI s) (nI h) σ = some (nI (wy c s h), σ) := by
  have hns := wf.2.1
  have hnh := wf.1
  have d0 := (wf.2.2.1 h hh).1
  have d4 := (wf.2.2.2.1 s hs).1
  unfold f_X12_wayOf f_X12_wayOf_24
  rw [r_90_40 hρ, r_90_36 hρ, if_pos (nI_pos' (by omega)), gd_t (ib_nI (by omega) (by decide)), gd_t (ib_nI (by omega) (by decide)), nI_clamp (by omega), nI_clamp (by omega), show σ.1 115 s = nI (dt c 4 s) from rm.2.2.2.2.2.2.1 4 s (by decide) (by decide) hs, show σ.1 111 h = nI (dt c 0 h) from rm.2.2.2.2.2.1 0 h (by decide) hh, bnd_e (s_plain (by omega) (by omega))]
  rfl
theorem s_wayM0 {N : Nat} {ρ : Nat → Nat → Nat} {x : Int32} {σ : St} : f_X12_wayOf N ρ 90 x (-1) σ = some (0, σ) := by
  unfold f_X12_wayOf
  rw [if_neg (by decide)]
  rfl
def wyv (c : CDat) (s v : Nat) : Nat := if v = 0 then 0 else wy c s (v - 1)
def wlk (c : CDat) (V : Nat → Nat) : Nat → Nat
  | 0 => 0
  | i + 1 => wlk c V i + wyv c i (V i)
theorem s_walkOf {N t : Nat} {ρ : Nat → Nat → Nat} {c : CDat} {S : SDat} {σ : St} (hN : 20000 ≤ N) (hρ : ρ = RR t) (wf : WfC c) (ws : WfS c S) (rm : RepM c σ) (ra : RepA 120 c S σ) : f_X12_walkOf N ρ 90 σ = some (nI (wlk c (S 3) (ns c)), σ) := by
  have hns := wf.2.1
  have hnh := wf.1
  refine ok_is ?_
  refine lp (β := Unit) (F := fun n i _ => f_X12_walkOf_4 N ρ 90 n (nI (wlk c (S 3) i)) (nI i) σ) (ns c) (fun _ _ => True) ?_ ?_ N 0 () (Nat.zero_le _) (by omega) trivial
  · intro n i _ hi _ kk
    have h3 := (ws.1 i hi).2.2.2
    show Ok (b_X12_walkOf_4 _ _ _ _ _ _ _) _
    unfold b_X12_walkOf_4
    rw [rm.2.1, n15, r_90_57 hρ, nI_clamp (show 15 + i < 2 ^ 31 by omega), (ra.1 i hi).2.2.2, nI_1 i]
    refine ok_neg (nI_ge hi (by omega)) (ok_gd (ib_nI (by omega) (by decide)) ?_)
    refine ok_bnd (r := nI (wyv c i (S 3 i))) (σ := σ) ?_ (ok_nmd ?_)
    · unfold wyv
      by_cases e : S 3 i = 0
      · rw [e]; exact s_wayM0
      · rw [if_neg e, sv_nz e]; exact s_wayM hρ wf rm hi (by omega)
    · rw [nI_add]; exact kk () trivial
  · intro n _ _
    show Ok (b_X12_walkOf_4 _ _ _ _ _ _ _) _
    unfold b_X12_walkOf_4
    rw [rm.2.1]
    exact ok_pos (Int32.le_refl _) (ok_ret ⟨rfl, rfl⟩)
theorem api_walk {N : Nat} (hN : 20000 ≤ N) : Api Inv (fun ρ σ => f_X11_walk N ρ 0 σ) (fun ρ σ => f_X12_walk N ρ 90 σ) := by
  refine api_v (fun c S wf ws hd => ⟨nI (wlk c (S 3) (ns c)), fun t σ ht rc rs => ?_, fun t σ rm ra hx => ?_⟩)
  · have hns := wf.2.1
    have hnh := wf.1
    refine lp (β := Unit) (F := fun n i _ => f_X11_walk_4 N (RR t) 0 n (nI (wlk c (S 3) i)) (nI i) σ) (ns c) (fun _ _ => True) ?_ ?_ N 0 () (Nat.zero_le _) (by omega) trivial
    · intro n i _ hi _ kk
      have h3 := (ws.1 i hi).2.2.2
      show Ok (b_X11_walk_4 _ _ _ _ _ _ _) _
      unfold b_X11_walk_4 f_X11_walk_43
      rw [r_0_2 rfl, r_0_4 rfl, rc.2.1, nI_1 i, rq3 rfl q41, nI_clamp (show i < 2 ^ 31 by omega)]
      refine ok_neg (nI_ge hi (by omega)) ?_
      by_cases e : S 3 i = 0
      · refine ok_bnd (s_isSent_n ht wf rc rs (Or.inr ⟨i, hi, rfl, e⟩)) (ok_pos rfl ?_)
        have hw : wlk c (S 3) i = wlk c (S 3) (i + 1) := by simp [wlk, wyv, e]
        rw [hw]; exact kk () trivial
      · refine ok_bnd (s_isSent_y ht wf ws rc rs hi e) (ok_neg (by decide) (ok_gd (ib_nI (by omega) (by decide)) ?_))
        rw [(rs.1 i hi).2.2.2, sv_nz e]
        refine ok_bnd (s_wayC rfl ht wf rc hi (by omega)) (ok_nmd ?_)
        rw [nI_add]
        have hw : wlk c (S 3) i + wy c i (S 3 i - 1) = wlk c (S 3) (i + 1) := by simp [wlk, wyv, e]
        rw [hw]; exact kk () trivial
    · intro n _ _
      show Ok (b_X11_walk_4 _ _ _ _ _ _ _) _
      unfold b_X11_walk_4
      rw [r_0_2 rfl, rc.2.1]
      exact ok_pos (Int32.le_refl _) (ok_ret ⟨rfl, ag_refl⟩)
  · show Ok (f_X12_walk N (RR t) 90 σ) _
    unfold f_X12_walk
    exact m_fill hN rfl wf rm ra hx (fun _ σ1 a1 rm1 ra1 _ _ hx1 => ok_bnd (s_walkOf hN rfl wf ws rm1 ra1) (ok_ret ⟨rfl, a120 a1⟩))
theorem sI_2 {σ : St} {b k : Nat} {x : Int32} : (sI σ b k x).2 = σ.2 := rfl
theorem api_law {N : Nat} (hN : 20000 ≤ N) (a1 : Int32) : Api Inv (fun ρ σ => f_X11_law N ρ 0 a1 σ) (fun ρ σ => f_X12_law N ρ 90 a1 σ) := by
  refine api_v (fun c S wf ws hd => ?_)
  have hns := wf.2.1
  by_cases hn : a1 < -99 ∨ 99 < a1
  · refine ⟨-1, fun t σ ht rc rs => ?_, fun t σ rm ra hx => ?_⟩
    · show Ok (f_X11_law N (RR t) 0 a1 σ) _
      unfold f_X11_law f_X11_law_12
      exact ok_ite (fun _ => ok_ret ⟨rfl, ag_refl⟩) (fun h1 => ok_neg (fun h2 => hn.elim h1 (fun h3 => i_nlt.mpr h2 h3)) (ok_ret ⟨rfl, ag_refl⟩))
    · show Ok (f_X12_law N (RR t) 90 a1 σ) _
      unfold f_X12_law
      refine ok_bnd isIn_eq ?_
      rw [if_pos hn]
      exact ok_pos rfl (ok_ret ⟨rfl, ag_refl⟩)
  · refine ⟨nI (cnt (fun s => decide (fare c S a1 s = 1)) (ns c)), fun t σ ht rc rs => ?_, fun t σ rm ra hx => ?_⟩
    · show Ok (f_X11_law N (RR t) 0 a1 σ) _
      unfold f_X11_law
      rw [r_0_2 rfl, r_0_4 rfl]
      refine ok_neg (fun h => hn (Or.inl h)) (ok_pos (i_nlt.mp (fun h => hn (Or.inr h))) ?_)
      refine ok_call (s_counting hN rfl ht q41 wf ws rc rs) (fun r σ1 h1 => ?_)
      rw [h1.1]
      exact ok_bnd (s_bitCount (by omega)) (ok_ret ⟨rfl, sc_x h1.2⟩)
    · show Ok (f_X12_law N (RR t) 90 a1 σ) _
      unfold f_X12_law
      refine ok_bnd isIn_eq ?_
      rw [if_neg hn]
      refine ok_neg (by decide) (m_fill hN rfl wf rm ra hx (fun _ σ1 b1 rm1 ra1 _ e90 hx1 => ok_nmd ?_))
      have rm2 : RepM c (sI σ1 90 27 a1) := RepM_cg2 rm1 (fun k hk => by rw [sI_up, pk_un (by omega)]) (fun p hp => sI_ne (by omega))
      have ra2 : RepA 120 c S (sI σ1 90 27 a1) := RepA_cg ra1 (sI_ne (by decide))
      refine ok_call (s_whoFares (w := 1) (x := a1) hN rfl wf ws rm2 ra2 (by rw [sI_up, pk_us]) (by decide)) (fun r σ3 h3 => ?_)
      rw [h3.1]
      refine ok_bnd (s_members hN (by omega)) (ok_nmd (ok_ret ⟨rfl, ?_⟩))
      intro p hp
      by_cases e : p = 90
      · subst e
        refine ⟨?_, ?_⟩
        · rw [sI_up, sm_90 h3.2, sI_up, e90]
          funext k
          by_cases ek : k = 27
          · subst ek; rw [pk_us, hx]
          · rw [pk_un ek, pk_un ek]
        · rw [sI_2, (h3.2 90 (by unfold Sm; omega)).2, sI_2, (b1 90 (by decide)).2]
      · have hs : ¬ Sm p := fun z => hp (by unfold Sm at z; unfold ScM; omega)
        have h120 : ¬ p = 120 := fun z => hp (by unfold ScM; omega)
        refine ⟨?_, ?_⟩
        · rw [sI_ne e, (h3.2 p hs).1, sI_ne e, (b1 p h120).1]
        · rw [sI_2, (h3.2 p hs).2, sI_2, (b1 p h120).2]
/-- twos of unlike creeds -/
def sch (cr : Nat → Nat) (n : Nat) : Nat → Nat
  | 0 => 0
  | i + 1 => sch cr n i + cnt (fun k => decide (i < k) && decide (cr i ≠ cr k)) n
def scm (cr : Nat → Nat) : Nat → Nat
  | 0 => 0
  | a + 1 => scm cr a + cnt (fun b => decide (cr a ≠ cr b)) a
theorem sch_eq {cr : Nat → Nat} {n : Nat} (h : n ≤ 5) : sch cr n n = scm cr n := by
  have k : ∀ a b, (cr b = cr a) = (cr a = cr b) := fun a b => propext ⟨fun h => h.symm, fun h => h.symm⟩
  rcases (show n = 0 ∨ n = 1 ∨ n = 2 ∨ n = 3 ∨ n = 4 ∨ n = 5 by omega) with rfl | rfl | rfl | rfl | rfl | rfl <;> simp [sch, scm, cnt, k 0 1, k 0 2, k 0 3, k 0 4, k 1 2, k 1 3, k 1 4, k 2 3, k 2 4, k 3 4] <;> omega
theorem cnt_s {p : Nat → Bool} {n : Nat} : cnt p (n + 1) = cnt p n + (if p n = true then 1 else 0) := rfl
theorem api_schisms {N : Nat} (hN : 20000 ≤ N) : Api Inv (fun ρ σ => f_X11_schisms N ρ 0 σ) (fun ρ σ => f_X12_schisms N ρ 90 σ) := by
  refine api_v (fun c S wf ws hd => ⟨nI (scm (dt c 6) (ns c)), fun t σ ht rc rs => ?_, fun t σ rm ra hx => ?_⟩)
  · have hns := wf.2.1
    rw [← sch_eq hns]
    refine lp (β := Unit) (F := fun n i _ => f_X11_schisms_4 N (RR t) 0 n (nI (sch (dt c 6) (ns c) i)) (nI i) σ) (ns c) (fun _ _ => True) ?_ ?_ N 0 () (Nat.zero_le _) (by omega) trivial
    · intro n i _ hi _ kk
      show Ok (b_X11_schisms_4 _ _ _ _ _ _ _) _
      unfold b_X11_schisms_4
      rw [r_0_2 rfl, rc.2.1, nI_1 i]
      refine ok_neg (nI_ge hi (by omega)) (ok_nmd ?_)
      refine ok_cast (b := f_X11_schisms_19 N (RR t) 0 (f_X11_schisms_4 N (RR t) 0 n) N (nI (sch (dt c 6) (ns c) i + cnt (fun k => decide (i < k) && decide (dt c 6 i ≠ dt c 6 k)) (i + 1))) (nI i) (nI (i + 1)) σ) (by rw [show cnt (fun k => decide (i < k) && decide (dt c 6 i ≠ dt c 6 k)) (i + 1) = 0 from cnt_ext (n := 0) (Nat.zero_le _) (fun k _ hk => by simp; omega)]; rfl) ?_
      refine lp (β := Unit) (F := fun n' j _ => f_X11_schisms_19 N (RR t) 0 (f_X11_schisms_4 N (RR t) 0 n) n' (nI (sch (dt c 6) (ns c) i + cnt (fun k => decide (i < k) && decide (dt c 6 i ≠ dt c 6 k)) j)) (nI i) (nI j) σ) (ns c) (fun j _ => i < j) ?_ ?_ N (i + 1) () (by omega) (by omega) (by omega)
      · intro n' j _ hj hij k2
        show Ok (b_X11_schisms_19 _ _ _ _ _ _ _ _ _) _
        unfold b_X11_schisms_19 f_X11_schisms_54
        have c1 := (wf.2.2.2.1 i hi).2.2.1
        have c2 := (wf.2.2.2.1 j hj).2.2.1
        rw [r_0_2 rfl, rt6 rfl ht, rc.2.1, nI_1 j, nI_clamp (show i < 2 ^ 31 by omega), nI_clamp (show j < 2 ^ 31 by omega), show σ.1 (t + 7) i = nI (dt c 6 i) from rc.2.2.2.2.2.2.1 6 i (by decide) (by decide) hi, show σ.1 (t + 7) j = nI (dt c 6 j) from rc.2.2.2.2.2.2.1 6 j (by decide) (by decide) hj]
        refine ok_neg (nI_ge hj (by omega)) (ok_gd (ib_nI (by omega) (by decide)) (ok_gd (ib_nI (by omega) (by decide)) ?_))
        have k3 := k2 () (by omega)
        by_cases e : dt c 6 i = dt c 6 j
        · refine ok_pos (by rw [e]) ?_
          rw [cnt_s, if_neg (by simp [e]), Nat.add_zero] at k3
          exact k3
        · refine ok_neg (fun z => e ((nI_eq (by omega) (by omega)).mp z)) ?_
          rw [cnt_s, if_pos (by simp [e, hij]), ← Nat.add_assoc, ← nI_1] at k3
          exact k3
      · intro n' _ _
        show Ok (b_X11_schisms_19 _ _ _ _ _ _ _ _ _) _
        unfold b_X11_schisms_19
        rw [r_0_2 rfl, rc.2.1, nI_1 i]
        exact ok_pos (Int32.le_refl _) (kk () trivial)
    · intro n _ _
      show Ok (b_X11_schisms_4 _ _ _ _ _ _ _) _
      unfold b_X11_schisms_4
      rw [r_0_2 rfl, rc.2.1]
      exact ok_pos (Int32.le_refl _) (ok_ret ⟨rfl, ag_refl⟩)
  · have hns := wf.2.1
    refine lp (β := Unit) (F := fun n i _ => f_X12_schisms_4 N (RR t) 90 n (nI (scm (dt c 6) i)) (nI i) σ) (ns c) (fun _ _ => True) ?_ ?_ N 0 () (Nat.zero_le _) (by omega) trivial
    · intro n i _ hi _ kk
      show Ok (b_X12_schisms_4 _ _ _ _ _ _ _) _
      unfold b_X12_schisms_4
      rw [rm.2.1]
      refine ok_neg (nI_ge hi (by omega)) ?_
      refine lp (β := Unit) (F := fun n' j _ => f_X12_schisms_14 N (RR t) 90 (f_X12_schisms_4 N (RR t) 90 n) n' (nI (scm (dt c 6) i + cnt (fun b => decide (dt c 6 i ≠ dt c 6 b)) j)) (nI i) (nI j) σ) i (fun _ _ => True) ?_ ?_ N 0 () (Nat.zero_le _) (by omega) trivial
      · intro n' j _ hj _ k2
        show Ok (b_X12_schisms_14 _ _ _ _ _ _ _ _ _) _
        unfold b_X12_schisms_14 f_X12_schisms_40
        have hjn : j < ns c := by omega
        have c1 := (wf.2.2.2.1 i hi).2.2.1
        have c2 := (wf.2.2.2.1 j hjn).2.2.1
        rw [r_90_42 rfl, nI_1 j, nI_clamp (show i < 2 ^ 31 by omega), nI_clamp (show j < 2 ^ 31 by omega), show σ.1 117 i = nI (dt c 6 i) from rm.2.2.2.2.2.2.1 6 i (by decide) (by decide) hi, show σ.1 117 j = nI (dt c 6 j) from rm.2.2.2.2.2.2.1 6 j (by decide) (by decide) hjn]
        refine ok_neg (nI_ge hj (by omega)) (ok_gd (ib_nI (by omega) (by decide)) (ok_gd (ib_nI (by omega) (by decide)) ?_))
        have k3 := k2 () trivial
        by_cases e : dt c 6 i = dt c 6 j
        · refine ok_pos (by rw [e]) (ok_bnd s_truth (ok_nmd ?_))
          rw [cnt_s, if_neg (by simp [e]), Nat.add_zero] at k3
          rw [show (if (0 : Int32) = 0 then (0 : Int32) else 1) = 0 from rfl, Int32.add_zero]
          exact k3
        · refine ok_neg (fun z => e ((nI_eq (by omega) (by omega)).mp z)) (ok_bnd s_truth (ok_nmd ?_))
          rw [cnt_s, if_pos (by simp [e]), ← Nat.add_assoc, ← nI_1] at k3
          exact k3
      · intro n' _ _
        show Ok (b_X12_schisms_14 _ _ _ _ _ _ _ _ _) _
        unfold b_X12_schisms_14
        rw [nI_1 i]
        exact ok_pos (Int32.le_refl _) (kk () trivial)
    · intro n _ _
      show Ok (b_X12_schisms_4 _ _ _ _ _ _ _) _
      unfold b_X12_schisms_4
      rw [rm.2.1]
      exact ok_pos (Int32.le_refl _) (ok_ret ⟨rfl, ag_refl⟩)
