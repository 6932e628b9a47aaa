/-! NEAREST, PILGRIM -/
def bst (ok : Nat → Bool) (f : Nat → Int32) : Nat → Option Nat
  | 0 => none
  | i + 1 => if ok i = true then (match bst ok f i with
    | none => some i
    | some b => if f b ≤ f i then some b else some i) else bst ok f i
def oI (o : Option Nat) : Int32 := match o with
  | none => -1
  | some k => nI k
theorem bst_n {ok : Nat → Bool} {f : Nat → Int32} {i : Nat} (h : ¬ ok i = true) : bst ok f (i + 1) = bst ok f i := by
  rw [bst, if_neg h]
theorem bst_0 {ok : Nat → Bool} {f : Nat → Int32} {i : Nat} (h : ok i = true) (e : bst ok f i = none) : bst ok f (i + 1) = some i := by
  rw [bst, if_pos h, e]
theorem bst_1 {ok : Nat → Bool} {f : Nat → Int32} {i b : Nat} (h : ok i = true) (e : bst ok f i = some b) (hb : f b ≤ f i) : bst ok f (i + 1) = some b := by
  rw [bst, if_pos h, e]
  exact if_pos hb
theorem bst_2 {ok : Nat → Bool} {f : Nat → Int32} {i b : Nat} (h : ok i = true) (e : bst ok f i = some b) (hb : ¬ f b ≤ f i) : bst ok f (i + 1) = some i := by
  rw [bst, if_pos h, e]
  exact if_neg hb
theorem bst_lt {ok : Nat → Bool} {f : Nat → Int32} : ∀ {i b : Nat}, bst ok f i = some b → b < i ∧ ok b = true := by
  intro i
  induction i with
  | zero => intro b h; cases h
  | succ i ih =>
    intro b h
    by_cases ho : ok i = true
    · cases e : bst ok f i with
      | none =>
        rw [bst_0 ho e] at h
        cases h
        exact ⟨by omega, ho⟩
      | some d =>
        by_cases hb : f d ≤ f i
        · rw [bst_1 ho e hb] at h
          cases h
          exact ⟨by have := (ih e).1; omega, (ih e).2⟩
        · rw [bst_2 ho e hb] at h
          cases h
          exact ⟨by omega, ho⟩
    · rw [bst_n ho] at h
      exact ⟨by have := (ih h).1; omega, (ih h).2⟩
theorem nI_nm1 {b : Nat} (h : b < 2 ^ 31) : ¬ nI b = -1 := by
  intro z
  have := congrArg Int32.toInt z
  rw [nI_toInt h] at this
  have e1 : (-1 : Int32).toInt = -1 := rfl
  omega
theorem api_nearest {N : Nat} (hN : 20000 ≤ N) (a1 : Int32) : Api Inv (fun ρ σ => f_X11_nearest N ρ 0 a1 σ) (fun ρ σ => f_X12_nearest N ρ 90 a1 σ) := by
  refine api_v (fun c S wf ws hd => ?_)
  have hns := wf.2.1
  have hnh := wf.1
  rcases ix_of a1 (show ns c < 2 ^ 31 by omega) with ⟨s, hs, rfl⟩ | hn
  · have wyb : ∀ h, h < nh c → wy c s h ≤ 99 := fun h hh => by
      have := (wf.2.2.1 h hh).1
      have := (wf.2.2.2.1 s hs).1
      unfold wy
      omega
    refine ⟨oI (bst (fun h => decide (mny c S h < dt c 2 h)) (fun h => nI (wy c s h)) (nh c)), fun t σ ht rc rs => ?_, fun t σ rm ra hx => ?_⟩
    · show Ok (f_X11_nearest N (RR t) 0 (nI s) σ) _
      unfold f_X11_nearest
      rw [r_0_2 rfl]
      refine ok_bnd (hasS_y rc.2.1 hns hs) (ok_neg (by decide) ?_)
      refine lp (β := Unit) (F := fun n i _ => f_X11_nearest_17 N (RR t) 0 (nI s) n (oI (bst (fun h => decide (mny c S h < dt c 2 h)) (fun h => nI (wy c s h)) i)) (nI i) σ) (nh c) (fun _ _ => True) ?_ ?_ N 0 () (Nat.zero_le _) (by omega) trivial
      · intro n i _ hi _ kk
        have k3 := kk () trivial
        show Ok (b_X11_nearest_17 _ _ _ _ _ _ _ _) _
        unfold b_X11_nearest_17 f_X11_nearest_54 f_X11_nearest_59 f_X11_nearest_76
        rw [r_0_2 rfl, rc.1, nI_1 i]
        refine ok_neg (nI_ge hi (by omega)) ?_
        cases e : bst (fun h => decide (mny c S h < dt c 2 h)) (fun h => nI (wy c s h)) i with
        | none =>
          refine ok_pos rfl (ok_neg (by decide) (ok_bnd (s_roomC hN ht wf ws rc rs hi) ?_))
          by_cases hr : mny c S i < dt c 2 i
          · rw [if_pos hr]
            rw [bst_0 (by simpa using hr) e] at k3
            exact ok_neg (by decide) k3
          · rw [if_neg hr]
            rw [bst_n (by simpa using hr), e] at k3
            exact ok_pos rfl k3
        | some b =>
          have hb := (bst_lt e).1
          refine ok_neg (nI_nm1 (by omega)) (ok_bnd (s_wayC rfl ht wf rc hs hi) (ok_bnd (s_wayC rfl ht wf rc hs (show b < nh c by omega)) ?_))
          by_cases hw : nI (wy c s b) ≤ nI (wy c s i)
          · refine ok_pos hw (ok_pos rfl ?_)
            by_cases hr : mny c S i < dt c 2 i
            · rw [bst_1 (by simpa using hr) e hw] at k3
              exact k3
            · rw [bst_n (by simpa using hr), e] at k3
              exact k3
          · refine ok_neg hw (ok_neg (by decide) (ok_bnd (s_roomC hN ht wf ws rc rs hi) ?_))
            by_cases hr : mny c S i < dt c 2 i
            · rw [if_pos hr]
              rw [bst_2 (by simpa using hr) e hw] at k3
              exact ok_neg (by decide) k3
            · rw [if_neg hr]
              rw [bst_n (by simpa using hr), e] at k3
              exact ok_pos rfl k3
      · intro n _ _
        show Ok (b_X11_nearest_17 _ _ _ _ _ _ _ _) _
        unfold b_X11_nearest_17
        rw [r_0_2 rfl, rc.1]
        exact ok_pos (Int32.le_refl _) (ok_ret ⟨rfl, ag_refl⟩)
    · show Ok (f_X12_nearest N (RR t) 90 (nI s) σ) _
      unfold f_X12_nearest
      refine ok_bnd (isS_y wf rm hs) (ok_neg (by decide) (m_fill hN rfl wf rm ra hx (fun _ σ1 b1 rm1 ra1 _ _ hx1 => ?_)))
      refine lp (β := Unit) (F := fun n i _ => f_X12_nearest_18 N (RR t) 90 (nI s) n (oI (bst (fun h => decide (mny c S h < dt c 2 h)) (fun h => nI (wy c s h)) i)) (nI i) σ1) (nh c) (fun _ _ => True) ?_ ?_ N 0 () (Nat.zero_le _) (by omega) trivial
      · intro n i _ hi _ kk
        have k3 := kk () trivial
        show Ok (b_X12_nearest_18 _ _ _ _ _ _ _ _) _
        unfold b_X12_nearest_18 f_X12_nearest_53 f_X12_nearest_55
        rw [rm1.1, nI_1 i]
        refine ok_neg (nI_ge hi (by omega)) (ok_bnd (s_roomM hN wf ws rm1 ra1 hi) ?_)
        by_cases hr : mny c S i < dt c 2 i
        · rw [if_pos hr]
          refine ok_neg (by decide) ?_
          cases e : bst (fun h => decide (mny c S h < dt c 2 h)) (fun h => nI (wy c s h)) i with
          | none =>
            rw [bst_0 (by simpa using hr) e] at k3
            exact ok_pos (show (-1 : Int32) < 0 by decide) k3
          | some b =>
            have hb := (bst_lt e).1
            refine ok_neg (nI_pos (by omega)) (ok_bnd (s_wayM rfl wf rm1 hs hi) (ok_bnd (s_wayM rfl wf rm1 hs (show b < nh c by omega)) ?_))
            by_cases hw : nI (wy c s b) ≤ nI (wy c s i)
            · rw [bst_1 (by simpa using hr) e hw] at k3
              exact ok_pos hw k3
            · rw [bst_2 (by simpa using hr) e hw] at k3
              exact ok_neg hw k3
        · rw [if_neg hr]
          rw [bst_n (by simpa using hr)] at k3
          exact ok_pos rfl k3
      · intro n _ _
        show Ok (b_X12_nearest_18 _ _ _ _ _ _ _ _) _
        unfold b_X12_nearest_18
        rw [rm1.1]
        exact ok_pos (Int32.le_refl _) (ok_ret ⟨rfl, a120 b1⟩)
  · refine ⟨-1, fun t σ ht rc rs => ?_, fun t σ rm ra hx => ?_⟩
    · show Ok (f_X11_nearest N (RR t) 0 a1 σ) _
      unfold f_X11_nearest
      rw [r_0_2 rfl]
      exact ok_bnd (hasS_n rc.2.1 hn) (ok_pos rfl (ok_ret ⟨rfl, ag_refl⟩))
    · show Ok (f_X12_nearest N (RR t) 90 a1 σ) _
      unfold f_X12_nearest
      exact ok_bnd (isS_n wf rm hn) (ok_pos rfl (ok_ret ⟨rfl, ag_refl⟩))
def mn (f : Nat → Nat) : Nat → Nat
  | 0 => 99
  | i + 1 => min (mn f i) (f i)
def mx (f : Nat → Nat) : Nat → Nat
  | 0 => 0
  | i + 1 => max (mx f i) (f i)
theorem mn_le (f : Nat → Nat) : ∀ i, mn f i ≤ 99
  | 0 => Nat.le_refl _
  | i + 1 => Nat.le_trans (Nat.min_le_left _ _) (mn_le f i)
theorem mx_le {f : Nat → Nat} {n : Nat} (h : ∀ k, k < n → f k ≤ 99) : ∀ i, i ≤ n → mx f i ≤ 99
  | 0, _ => Nat.zero_le _
  | i + 1, hi => by
    have := mx_le h i (by omega)
    have := h i (by omega)
    simp only [mx]
    omega
theorem mn_mx {f : Nat → Nat} {n : Nat} (h : ∀ k, k < n → f k ≤ 99) : ∀ i, 0 < i → i ≤ n → mn f i ≤ mx f i
  | 0, h0, _ => by omega
  | i + 1, _, hi => by
    simp only [mn, mx]
    omega
theorem mmax_nI {a b : Nat} (ha : a < 2 ^ 31) (hb : b < 2 ^ 31) : mmax (nI a) (nI b) = nI (max a b) := by
  unfold mmax
  by_cases h : a < b
  · rw [if_pos (nI_lt h hb), Nat.max_eq_right (by omega)]
  · rw [if_neg (nI_nlt (by omega) ha), Nat.max_eq_left (by omega)]
def pil (a lo hi : Nat) : Nat := min ((a - lo) + (lo - a)) ((a - hi) + (hi - a)) + (hi - lo)
theorem api_pilgrim {N : Nat} (hN : 20000 ≤ N) (a1 : Int32) : Api Inv (fun ρ σ => f_X11_pilgrim N ρ 0 a1 σ) (fun ρ σ => f_X12_pilgrim N ρ 90 a1 σ) := by
  refine api_v (fun c S wf ws hd => ?_)
  have hns := wf.2.1
  have hnh := wf.1
  have hb : ∀ k, k < nh c → dt c 0 k ≤ 99 := fun k hk => (wf.2.2.1 k hk).1
  rcases ix_of a1 (show ns c < 2 ^ 31 by omega) with ⟨s, hs, rfl⟩ | hn
  · have h4 := (wf.2.2.2.1 s hs).1
    by_cases h0 : nh c = 0
    · refine ⟨0, fun t σ ht rc rs => ?_, fun t σ rm ra hx => ?_⟩
      · show Ok (f_X11_pilgrim N (RR t) 0 (nI s) σ) _
        unfold f_X11_pilgrim
        rw [r_0_2 rfl]
        refine ok_bnd (hasS_y rc.2.1 hns hs) (ok_neg (by decide) (ok_pos ?_ (ok_ret ⟨rfl, ag_refl⟩)))
        rw [rc.1, h0]; rfl
      · show Ok (f_X12_pilgrim N (RR t) 90 (nI s) σ) _
        unfold f_X12_pilgrim
        refine ok_bnd (isS_y wf rm hs) (ok_neg (by decide) (ok_pos ?_ (ok_ret ⟨rfl, ag_refl⟩)))
        rw [rm.1, h0]; rfl
    · have l1 := mn_le (dt c 0) (nh c)
      have l2 := mx_le hb (nh c) (Nat.le_refl _)
      have l3 := mn_mx hb (nh c) (by omega) (Nat.le_refl _)
      refine ⟨nI (pil (dt c 4 s) (mn (dt c 0) (nh c)) (mx (dt c 0) (nh c))), fun t σ ht rc rs => ?_, fun t σ rm ra hx => ?_⟩
      · have e0 : ∀ k, k < nh c → σ.1 (t + 1) k = nI (dt c 0 k) := fun k hk => rc.2.2.2.2.2.1 0 k (by decide) hk
        show Ok (f_X11_pilgrim N (RR t) 0 (nI s) σ) _
        unfold f_X11_pilgrim
        rw [r_0_2 rfl, rt0 rfl ht]
        refine ok_bnd (hasS_y rc.2.1 hns hs) (ok_neg (by decide) (ok_neg ?_ (ok_gd rfl (ok_nmd (ok_gd rfl (ok_nmd ?_))))))
        · rw [rc.1]; exact nI_ne0 (by omega) (by omega)
        have e1 : σ.1 (t + 1) (0 : Int32).toNatClampNeg = nI (mn (dt c 0) 1) := by
          rw [show (0 : Int32).toNatClampNeg = 0 from rfl, e0 0 (by omega)]
          have := hb 0 (by omega)
          simp only [mn]
          rw [Nat.min_eq_right (by omega)]
        have e2 : nI (mn (dt c 0) 1) = nI (mx (dt c 0) 1) := by
          have := hb 0 (by omega)
          simp only [mn, mx]
          rw [Nat.min_eq_right (by omega), Nat.max_eq_right (by omega)]
        rw [e1]
        refine ok_cast (b := f_X11_pilgrim_48 N (RR t) 0 (nI s) N (nI (mn (dt c 0) 1)) (nI (mx (dt c 0) 1)) (nI 1) σ) (by rw [← e2]; rfl) ?_
        refine lp (β := Unit) (F := fun n i _ => f_X11_pilgrim_48 N (RR t) 0 (nI s) n (nI (mn (dt c 0) i)) (nI (mx (dt c 0) i)) (nI i) σ) (nh c) (fun _ _ => True) ?_ ?_ N 1 () (by omega) (by omega) trivial
        · intro n i _ hi _ kk
          show Ok (b_X11_pilgrim_48 _ _ _ _ _ _ _ _ _) _
          unfold b_X11_pilgrim_48
          have b1 := mn_le (dt c 0) i
          have b2 := mx_le hb i (by omega)
          have b3 := hb i hi
          rw [r_0_2 rfl, rt0 rfl ht, rc.1, nI_1 i, nI_clamp (show i < 2 ^ 31 by omega), e0 i hi, mmin_nI (by omega) (by omega), mmax_nI (by omega) (by omega)]
          exact ok_neg (nI_ge hi (by omega)) (ok_gd (ib_nI (by omega) (by decide)) (ok_nmd (ok_gd (ib_nI (by omega) (by decide)) (ok_nmd (kk () trivial)))))
        · intro n _ _
          show Ok (b_X11_pilgrim_48 _ _ _ _ _ _ _ _ _) _
          unfold b_X11_pilgrim_48
          rw [r_0_2 rfl, rt4 rfl ht, rc.1, nI_clamp (show s < 2 ^ 31 by omega), show σ.1 (t + 5) s = nI (dt c 4 s) from rc.2.2.2.2.2.2.1 4 s (by decide) (by decide) hs]
          refine ok_pos (Int32.le_refl _) (ok_gd (ib_nI (by omega) (by decide)) (ok_nmd (ok_ret ⟨?_, ag_refl⟩)))
          rw [mabs_nI (by omega) (by omega), mabs_nI (by omega) (by omega), mmin_nI (by omega) (by omega), nI_add, pk_sub (by omega)]
          unfold pil
          rw [Nat.add_sub_assoc l3]
      · have e0 : ∀ k, k < nh c → σ.1 111 k = nI (dt c 0 k) := fun k hk => rm.2.2.2.2.2.1 0 k (by decide) hk
        have e4 : σ.1 115 s = nI (dt c 4 s) := rm.2.2.2.2.2.2.1 4 s (by decide) (by decide) hs
        show Ok (f_X12_pilgrim N (RR t) 90 (nI s) σ) _
        unfold f_X12_pilgrim
        refine ok_bnd (isS_y wf rm hs) (ok_neg (by decide) (ok_neg (by rw [rm.1]; exact nI_ne0 (by omega) (by omega)) ?_))
        refine lp (β := Unit) (F := fun n i _ => f_X12_pilgrim_27 N (RR t) 90 (nI s) n (nI (mn (dt c 0) i)) (nI (mx (dt c 0) i)) (nI i) σ) (nh c) (fun _ _ => True) ?_ ?_ N 0 () (by omega) (by omega) trivial
        · intro n i _ hi _ kk
          have k3 := kk () trivial
          show Ok (b_X12_pilgrim_27 _ _ _ _ _ _ _ _ _) _
          unfold b_X12_pilgrim_27 f_X12_pilgrim_58 f_X12_pilgrim_81
          have b1 := mn_le (dt c 0) i
          have b2 := mx_le hb i (by omega)
          have b3 := hb i hi
          have i6 : ib (nI i) 6 = true := ib_nI (by omega) (by decide)
          rw [r_90_36 rfl, rm.1, nI_1 i, nI_clamp (show i < 2 ^ 31 by omega), e0 i hi]
          have fin : ∀ x, x = nI (mn (dt c 0) (i + 1)) → Ok (gd (ib (nI i) 6) <| if nI (dt c 0 i) ≤ nI (mx (dt c 0) i) then f_X12_pilgrim_27 N (RR t) 90 (nI s) n x (nI (mx (dt c 0) i)) (nI (i + 1)) σ else gd (ib (nI i) 6) <| f_X12_pilgrim_27 N (RR t) 90 (nI s) n x (nI (dt c 0 i)) (nI (i + 1)) σ) (fun r σ' => r = nI (pil (dt c 4 s) (mn (dt c 0) (nh c)) (mx (dt c 0) (nh c))) ∧ Ag ScM σ σ') := by
            intro x hx'
            subst hx'
            refine ok_gd i6 ?_
            by_cases h : dt c 0 i ≤ mx (dt c 0) i
            · refine ok_pos (nI_le h (by omega)) ?_
              rw [show mx (dt c 0) (i + 1) = mx (dt c 0) i by simp only [mx]; exact Nat.max_eq_left h] at k3
              exact k3
            · refine ok_neg (nI_ge (by omega) (by omega)) (ok_gd i6 ?_)
              rw [show mx (dt c 0) (i + 1) = dt c 0 i by simp only [mx]; exact Nat.max_eq_right (by omega)] at k3
              exact k3
          refine ok_neg (nI_ge hi (by omega)) (ok_gd i6 ?_)
          by_cases h : mn (dt c 0) i ≤ dt c 0 i
          · exact ok_pos (nI_le h (by omega)) (fin _ (by simp only [mn]; rw [Nat.min_eq_left h]))
          · exact ok_neg (nI_ge (by omega) (by omega)) (ok_gd i6 (fin _ (by simp only [mn]; rw [Nat.min_eq_right (by omega)])))
        · intro n _ _
          show Ok (b_X12_pilgrim_27 _ _ _ _ _ _ _ _ _) _
          unfold b_X12_pilgrim_27 f_X12_pilgrim_131
          rw [r_90_40 rfl, rm.1, nI_clamp (show s < 2 ^ 31 by omega), e4]
          refine ok_pos (Int32.le_refl _) (ok_gd (ib_nI (by omega) (by decide)) (ok_bnd (s_plain (by omega) (by omega)) (ok_gd (ib_nI (by omega) (by decide)) ?_)))
          rw [e4]
          refine ok_bnd (s_plain (by omega) (by omega)) ?_
          rw [pk_sub l3]
          unfold pil
          by_cases h : (dt c 4 s - mx (dt c 0) (nh c) + (mx (dt c 0) (nh c) - dt c 4 s)) ≤ (dt c 4 s - mn (dt c 0) (nh c) + (mn (dt c 0) (nh c) - dt c 4 s))
          · refine ok_pos (nI_le h (by omega)) (ok_ret ⟨?_, ag_refl⟩)
            rw [nI_add, Nat.min_eq_right h, Nat.add_comm]
          · refine ok_neg (nI_ge (by omega) (by omega)) (ok_ret ⟨?_, ag_refl⟩)
            rw [nI_add, Nat.min_eq_left (by omega), Nat.add_comm]
  · refine ⟨-1, fun t σ ht rc rs => ?_, fun t σ rm ra hx => ?_⟩
    · show Ok (f_X11_pilgrim N (RR t) 0 a1 σ) _
      unfold f_X11_pilgrim
      rw [r_0_2 rfl]
      exact ok_bnd (hasS_n rc.2.1 hn) (ok_pos rfl (ok_ret ⟨rfl, ag_refl⟩))
    · show Ok (f_X12_pilgrim N (RR t) 90 a1 σ) _
      unfold f_X12_pilgrim
      exact ok_bnd (isS_n wf rm hn) (ok_pos rfl (ok_ret ⟨rfl, ag_refl⟩))
