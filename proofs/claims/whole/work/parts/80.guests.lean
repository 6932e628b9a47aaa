/-! GUESTS, by the model -/
theorem s_callAll {N t : Nat} {ρ : Nat → Nat → Nat} {c : CDat} {S : SDat} {σ : St} (hN : 20000 ≤ N) (hρ : ρ = RR t) (wf : WfC c) (rm : RepM c σ) (ra : RepA 120 c S σ) :
    Ok (f_X12_callAll N ρ 90 σ) (fun _ σ' => RepA 120 c (jst S (fun _ => false) 0) σ' ∧ Ag (fun p => p = 120) σ σ') := by
  have hns := wf.2.1
  refine ok_ag ?_ (fun r σ' e => by have := m_X12_callAll e; rw [r_90_57 hρ] at this; exact this)
  refine lp (F := fun n i σ' => f_X12_callAll_2 N ρ 90 n (nI i) σ') (ns c) (fun i σ' => RepA 120 c (jsI S (fun _ => false) 0 i) σ' ∧ σ'.1 90 = σ.1 90) ?_ ?_ N 0 σ (Nat.zero_le _) (by omega) ⟨RepA_pt ra (fun r s _ _ => by simp [jsI]) (by simp [jsI]) (by simp [jsI]), rfl⟩
  · rintro n i σ1 hi ⟨ra1, e90⟩ kk
    show Ok (b_X12_callAll_2 _ _ _ _ _ _) _
    unfold b_X12_callAll_2
    rw [e90, rm.2.1, n15, nI_clamp (show 15 + i < 2 ^ 31 by omega), r_90_57 hρ, nI_1 i]
    refine ok_neg (nI_ge hi (by omega)) (ok_gd (ib_nI (by omega) (by decide)) (ok_sI fun σ2 n2 u2 => ?_))
    refine kk σ2 ⟨?_, by rw [n2 90 (by decide)]; exact e90⟩
    have := RepA_w3 (v := 0) ra1 hns (show i < 5 by omega) rfl u2 rfl
    have e := jsI_s (S := S) (p := fun _ => false) (v := 0) (i := i)
    rw [show (if (fun _ => false : Nat → Bool) i = true then 0 else 0) = 0 from rfl] at e
    rw [e] at this
    exact this
  · rintro n σ1 ⟨ra1, e90⟩
    show Ok (b_X12_callAll_2 _ _ _ _ _ _) _
    unfold b_X12_callAll_2
    rw [e90, rm.2.1]
    exact ok_pos (Int32.le_refl _) (ok_ret (RepA_pt ra1 (fun r s _ hs => by simp [jst, jsI, hs]) (by simp [jst, jsI]) (by simp [jst, jsI])))
theorem tw2_c {a b : Nat} : tw2 b a = tw2 a b := by
  funext k
  unfold tw2
  exact Bool.or_comm _ _
theorem tog_c {c : CDat} {S : SDat} {a b s x : Nat} : tog c S b a s x = tog c S a b s x := by
  unfold tog
  rw [tw2_c]
theorem gcn_c {c : CDat} {S : SDat} {a b s x y : Nat} : gcn c S b a s x y = gcn c S a b s x y := by
  unfold gcn
  rw [tog_c]
theorem fareG {c : CDat} {S U : SDat} {s o x y : Nat} (hso : s ≠ o) (hs : s < ns c) (ho : o < ns c) (eU : ∀ r k, r ≠ 3 → U r k = S r k) (us : U 3 s = x + 1) (uo : U 3 o = y + 1) (ur : ∀ k, k ≠ s → k ≠ o → U 3 k = 0) (hm : x = y → 2 ≤ dt c 2 x) : fare c U 0 s = 1 ↔ gcn c S s o s x y = true := by
  have hl : ∀ m, ld c U s x m 0 = ld c S s x m 0 := fun m => ld_cg (eU 0 s (by decide)) (eU 1 s (by decide)) (eU 4 0 (by decide))
  unfold fare lod gcn
  rw [us, if_neg (by omega), show x + 1 - 1 = x from rfl, hl, eU 0 s (by decide)]
  by_cases e : x = y
  · have eat : atH U x = tw2 s o := by
      funext k
      unfold atH tw2
      by_cases k1 : k = s
      · subst k1; simp [us]
      · by_cases k2 : k = o
        · subst k2; simp [uo, e]
        · simp [ur k k1 k2, k1, k2]
    have em : mny c U x = 2 := by unfold mny; rw [eat]; exact cnt_tw2 hso hs ho
    have eq : qrl c U x = qn (dt c 6) (tw2 s o) (ns c) := by unfold qrl; rw [eat]
    rw [em, eq, if_pos e]
    unfold tog
    have h2 := hm e
    by_cases hq : qn (dt c 6) (tw2 s o) (ns c) = true
    · simp [hq]
    · by_cases hd : ld c S s x 2 0 ≤ nI (S 0 s) <;> simp [hq, hd, h2]
  · have eat : atH U x = fun k => decide (k = s) := by
      funext k
      unfold atH
      by_cases k1 : k = s
      · subst k1; simp [us]
      · by_cases k2 : k = o
        · subst k2
          have : ¬ (y = x) := fun z => e z.symm
          simp [uo, k1, this]
        · simp [ur k k1 k2, k1]
    have em : mny c U x = 1 := by unfold mny; rw [eat]; exact cnt_one hs
    have eq : ¬ qrl c U x = true := by unfold qrl; rw [eat]; exact qn_one
    rw [em, if_neg eq, if_neg e]
    unfold ca
    by_cases hd : ld c S s x 1 0 ≤ nI (S 0 s) <;> simp [hd]
def gvv (b1 b2 : Bool) : Int32 := nI ((if b1 = true then 1 else 0) + 2 * (if b2 = true then 1 else 0))
def fl (b : Bool) : Int32 := if b = true then 1 else 0
theorem gv_1 {α : Type} {b1 b2 : Bool} {X : Int32 → α} : (if gvv b1 b2 &&& 1 = 1 then X 1 else X 0) = X (fl b1) := by
  cases b1 <;> cases b2 <;> rfl
theorem gv_2 {α : Type} {b1 b2 : Bool} {X : Int32 → α} : (if gvv b1 b2 &&& 2 = 2 then X 1 else X 0) = X (fl b2) := by
  cases b1 <;> cases b2 <;> rfl
def gdv (w : Nat) (b : Bool) : Int32 := (if b = true then nI 1000 else nI 0) - nI w
theorem gdv_int {w : Nat} {b : Bool} (h : w ≤ 99) : (gdv w b).toInt = 1000 - (pen w b : Int) := by
  unfold gdv pen
  cases b
  · rw [if_neg (by decide), if_neg (by decide), pk_sub_toInt (by decide) (by omega)]
    omega
  · rw [if_pos rfl, if_pos rfl, pk_sub_toInt (by decide) (by omega)]
    omega
theorem gdv_lt {w v : Nat} {b d : Bool} (hw : w ≤ 99) (hv : v ≤ 99) : gdv w b < gdv v d ↔ ¬ pen w b ≤ pen v d := by
  rw [Int32.lt_iff_toInt_lt, gdv_int hw, gdv_int hv]
  omega
theorem s_goodOf {N t s h : Nat} {c : CDat} {b : Bool} {σ : St} (wf : WfC c) (rm : RepM c σ) (hs : s < ns c) (hh : h < nh c) : f_X12_goodOf N (RR t) 90 (nI s) (nI h) (fl b) σ = some (gdv (wy c s h) b, σ) := by
  unfold f_X12_goodOf f_X12_goodOf_11
  cases b
  · rw [if_pos (show fl false = 0 from rfl), bnd_e (s_wayM rfl wf rm hs hh)]
    rfl
  · rw [if_neg (show ¬ fl true = 0 by decide), bnd_e (s_wayM rfl wf rm hs hh)]
    rfl
def GM (c : CDat) (S : SDat) (a b i j : Nat) (σ : St) : Prop := ∀ x y, x < nh c → y < nh c → (x < i ∨ (x = i ∧ y < j)) → σ.1 126 (6 * x + y) = gvv (gcn c S a b a x y) (gcn c S a b b y x)
theorem GM_cg {c : CDat} {S : SDat} {a b i j : Nat} {σ σ' : St} (h : GM c S a b i j σ) (e : σ'.1 126 = σ.1 126) : GM c S a b i j σ' := by
  unfold GM
  rw [e]
  exact h
theorem al_and {p q : Nat → Bool} : ∀ n, al (fun z => p z && q z) n = (al p n && al q n)
  | 0 => rfl
  | n + 1 => by
    simp only [al, al_and n]
    cases al p n <;> cases al q n <;> cases p n <;> cases q n <;> rfl
theorem m6 (x y : Nat) : (6 : Int32) * nI x + nI y = nI (6 * x + y) := by
  rw [show (6 : Int32) * nI x = nI (6 * x) from pk_mul 6 x, nI_add]
set_option maxHeartbeats 800000 in
theorem s_isRest {N t a b x y : Nat} {c : CDat} {S : SDat} {σ : St} (hN : 20000 ≤ N) (wf : WfC c) (rm : RepM c σ) (gm : GM c S a b (nh c) 0 σ) (ha : a < ns c) (hb : b < ns c) (hx : x < nh c) (hy : y < nh c) : f_X12_isRest N (RR t) 90 (nI a) (nI b) (nI x) (nI y) σ = some (if grR c S a b x y = true then 1 else 0, σ) := by
  have hnh := wf.1
  refine ok_is ?_
  unfold f_X12_isRest
  rw [m6]
  refine ok_nmd ?_
  refine lp (β := Unit) (F := fun n z _ => f_X12_isRest_15 N (RR t) 90 (nI a) (nI b) (nI x) (nI y) n (fl (al (fun z => grA c S a b x y z && grB c S a b x y z) z)) (nI (6 * x + y)) (nI z) σ) (nh c) (fun _ _ => True) ?_ ?_ N 0 () (Nat.zero_le _) (by omega) trivial
  · intro n z _ hz _ kk
    have k3 := kk () trivial
    show Ok (b_X12_isRest_15 _ _ _ _ _ _ _ _ _ _ _ _) _
    unfold b_X12_isRest_15 f_X12_isRest_91
    rw [rm.1, m6]
    refine ok_neg (nI_ge hz (by omega)) ?_
    have gk : σ.1 126 (6 * x + y) = _ := gm x y hx hy (Or.inl hx)
    have gz : σ.1 126 (6 * z + y) = _ := gm z y hz hy (Or.inl hz)
    have gx : σ.1 126 (6 * x + z) = _ := gm x z hx hz (Or.inl hx)
    have wax := wy_le wf ha hx
    have waz := wy_le wf ha hz
    have wby := wy_le wf hb hy
    have wbz := wy_le wf hb hz
    have last : ∀ v : Bool, v = al (fun z => grA c S a b x y z && grB c S a b x y z) (z + 1) → Ok (f_X12_isRest_162 N (RR t) 90 (nI a) (nI b) (nI x) (nI y) (f_X12_isRest_15 N (RR t) 90 (nI a) (nI b) (nI x) (nI y) n) (nI (6 * x + y)) (nI z) (fl v) σ) (fun r' σ' => r' = (if grR c S a b x y = true then 1 else 0) ∧ σ' = σ) := by
      intro v hv
      unfold f_X12_isRest_162
      rw [nI_1 z, hv]
      exact k3
    have e1 : al (fun z => grA c S a b x y z && grB c S a b x y z) (z + 1) = (al (fun z => grA c S a b x y z && grB c S a b x y z) z && (grA c S a b x y z && grB c S a b x y z)) := rfl
    have mid : ∀ v : Bool, v = (al (fun z => grA c S a b x y z && grB c S a b x y z) z && grA c S a b x y z) → Ok (f_X12_isRest_92 N (RR t) 90 (nI a) (nI b) (nI x) (nI y) (f_X12_isRest_15 N (RR t) 90 (nI a) (nI b) (nI x) (nI y) n) (nI (6 * x + y)) (nI z) (fl v) σ) (fun r' σ' => r' = (if grR c S a b x y = true then 1 else 0) ∧ σ' = σ) := by
      intro v hv
      unfold f_X12_isRest_92 f_X12_isRest_161
      cases v with
      | false =>
        refine ok_pos rfl (last false ?_)
        rw [e1, ← Bool.and_assoc, ← hv]
        rfl
      | true =>
        refine ok_neg (by decide) ?_
        rw [m6, r_90_66 rfl, nI_clamp (show 6 * x + z < 2 ^ 31 by omega), gx]
        refine ok_gd (ib_nI (by omega) (by decide)) ?_
        rw [gv_2 (X := fun f => f_X12_isRest_126 N (RR t) 90 (nI a) (nI b) (nI x) (nI y) (f_X12_isRest_15 N (RR t) 90 (nI a) (nI b) (nI x) (nI y) n) (nI (6 * x + y)) (nI z) f (nI z) (nI b) σ)]
        unfold f_X12_isRest_126
        refine ok_bnd (s_goodOf wf rm hb hz) ?_
        rw [r_90_66 rfl, nI_clamp (show 6 * x + y < 2 ^ 31 by omega), gk]
        refine ok_gd (ib_nI (by omega) (by decide)) ?_
        rw [gv_2 (X := fun f => f_X12_isRest_151 N (RR t) 90 (nI a) (nI b) (nI x) (nI y) (f_X12_isRest_15 N (RR t) 90 (nI a) (nI b) (nI x) (nI y) n) (nI (6 * x + y)) (nI z) f (nI y) (nI b) (gdv (wy c b z) (gcn c S a b b z x)) σ)]
        unfold f_X12_isRest_151 f_X12_isRest_161
        refine ok_bnd (s_goodOf wf rm hb hy) ?_
        have hlt := gdv_lt (b := gcn c S a b b y x) (d := gcn c S a b b z x) wby wbz
        by_cases hB : grB c S a b x y z = true
        · refine ok_neg (fun zz => hlt.mp zz (of_decide_eq_true hB)) (last true ?_)
          rw [e1, ← Bool.and_assoc, ← hv, hB]
          rfl
        · refine ok_pos (hlt.mpr (fun zz => hB (decide_eq_true zz))) (last false ?_)
          rw [e1, ← Bool.and_assoc, ← hv]
          simpa using hB
    by_cases hA0 : al (fun z => grA c S a b x y z && grB c S a b x y z) z = true
    · rw [show fl (al (fun z => grA c S a b x y z && grB c S a b x y z) z) = 1 by rw [hA0]; rfl]
      refine ok_neg (by decide) ?_
      rw [r_90_66 rfl, nI_clamp (show 6 * z + y < 2 ^ 31 by omega), gz]
      refine ok_gd (ib_nI (by omega) (by decide)) ?_
      rw [gv_1 (X := fun f => f_X12_isRest_57 N (RR t) 90 (nI a) (nI b) (nI x) (nI y) (f_X12_isRest_15 N (RR t) 90 (nI a) (nI b) (nI x) (nI y) n) (nI (6 * x + y)) (nI z) f (nI z) (nI a) σ)]
      unfold f_X12_isRest_57
      refine ok_bnd (s_goodOf wf rm ha hz) ?_
      rw [r_90_66 rfl, nI_clamp (show 6 * x + y < 2 ^ 31 by omega), gk]
      refine ok_gd (ib_nI (by omega) (by decide)) ?_
      rw [gv_1 (X := fun f => f_X12_isRest_81 N (RR t) 90 (nI a) (nI b) (nI x) (nI y) (f_X12_isRest_15 N (RR t) 90 (nI a) (nI b) (nI x) (nI y) n) (nI (6 * x + y)) (nI z) f (nI x) (nI a) (gdv (wy c a z) (gcn c S a b a z y)) σ)]
      unfold f_X12_isRest_81 f_X12_isRest_91
      refine ok_bnd (s_goodOf wf rm ha hx) ?_
      have hlt := gdv_lt (b := gcn c S a b a x y) (d := gcn c S a b a z y) wax waz
      by_cases hA : grA c S a b x y z = true
      · exact ok_neg (fun zz => hlt.mp zz (of_decide_eq_true hA)) (mid true (by rw [hA0, hA]; rfl))
      · exact ok_pos (hlt.mpr (fun zz => hA (decide_eq_true zz))) (mid false (by rw [hA0]; simpa using hA))
    · have hA1 : al (fun z => grA c S a b x y z && grB c S a b x y z) z = false := by simpa using hA0
      rw [show fl (al (fun z => grA c S a b x y z && grB c S a b x y z) z) = 0 by rw [hA1]; rfl]
      exact ok_pos rfl (mid false (by rw [hA1]; rfl))
  · intro n _ _
    show Ok (b_X12_isRest_15 _ _ _ _ _ _ _ _ _ _ _ _) _
    unfold b_X12_isRest_15
    rw [rm.1, al_and]
    have : fl (al (grA c S a b x y) (nh c) && al (grB c S a b x y) (nh c)) = if grR c S a b x y = true then 1 else 0 := rfl
    refine ok_pos (Int32.le_refl _) (ok_gd ?_ (ok_ret ⟨this, rfl⟩))
    unfold fl
    split <;> rfl
