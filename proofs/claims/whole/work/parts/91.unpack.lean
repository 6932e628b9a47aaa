/-! SENDINGS: found and unpacked -/
theorem dig_at {d : Nat → Nat} (h : ∀ s, d s ≤ 6) : ∀ n, n ≤ 5 → ∀ s, s < n → sumN (fun s => d s * Wt s) n / Wt s % 7 = d s := by
  intro n hn s hs
  have h0 := h 0
  have h1 := h 1
  have h2 := h 2
  have h3 := h 3
  have h4 := h 4
  rcases (show n = 0 ∨ n = 1 ∨ n = 2 ∨ n = 3 ∨ n = 4 ∨ n = 5 by omega) with rfl | rfl | rfl | rfl | rfl | rfl
  · omega
  · rcases (show s = 0 by omega) with rfl
    simp [sumN, Wt]; omega
  · rcases (show s = 0 ∨ s = 1 by omega) with rfl | rfl <;> simp [sumN, Wt] <;> omega
  · rcases (show s = 0 ∨ s = 1 ∨ s = 2 by omega) with rfl | rfl | rfl <;> simp [sumN, Wt] <;> omega
  · rcases (show s = 0 ∨ s = 1 ∨ s = 2 ∨ s = 3 by omega) with rfl | rfl | rfl | rfl <;> simp [sumN, Wt] <;> omega
  · rcases (show s = 0 ∨ s = 1 ∨ s = 2 ∨ s = 3 ∨ s = 4 by omega) with rfl | rfl | rfl | rfl | rfl <;> simp [sumN, Wt] <;> omega
theorem Wt_pos : ∀ s, s < 5 → 0 < Wt s ∧ Wt s ≤ 2401 := by decide +kernel
def pv (c : CDat) (V : Nat → Nat) (s : Nat) : Nat := if V s < nh c then V s + 1 else 0
set_option maxHeartbeats 800000 in
theorem s_unpack {N t q : Nat} {c : CDat} {V : Nat → Nat} {σ : St} (hN : 20000 ≤ N) (ht : isT t) (wf : WfC c) (rc : RepC t c σ) (hq : q ≤ 5) :
    Ok (f_X8_unpack N (RR t) 55 t (iI (((Wk c V * 16807 + Ord c V : Nat) : Int) - 8403500 * (q : Int))) σ) (fun _ σ' => RepC t c σ' ∧ σ'.1 55 5 = nI q ∧ σ'.1 55 6 = nI (Wk c V) ∧ ∀ s, s < ns c → σ'.1 60 s = sv (pv c V s)) := by
  have hns := wf.2.1
  have hnh := wf.1
  have tl := isT_le ht
  have h1 := Wk_le (V := V) wf
  have h2 := Ord_le (V := V) wf
  obtain ⟨f1, f2⟩ := s_floor (N := N) (ρ := RR t) (R := Wk c V * 16807 + Ord c V) (q := q) (σ := σ) (by omega) hq
  unfold f_X8_unpack
  refine ok_bnd f1 (ok_bnd f2 (ok_sI fun σ1 n1 u1 => ok_sI fun σ2 n2 u2 => ok_nmd ?_))
  have eneg : -iI (-(q : Int)) = nI q := by
    rw [show -iI (-(q : Int)) = iI (-(-(q : Int))) from (Int32.ofInt_neg _).symm, Int.neg_neg, iI_n]
  rw [eneg] at u1
  rw [show nI (Wk c V * 16807 + Ord c V) / 16807 = nI ((Wk c V * 16807 + Ord c V) / 16807) from pk_div (d := 16807) (by omega) (by decide) (by decide), show (Wk c V * 16807 + Ord c V) / 16807 = Wk c V by omega] at u2
  rw [show irem (nI (Wk c V * 16807 + Ord c V)) 16807 = nI ((Wk c V * 16807 + Ord c V) % 16807) from pk_rem (d := 16807) (by omega) (by decide) (by decide), show (Wk c V * 16807 + Ord c V) % 16807 = Ord c V by omega]
  have rc2 : RepC t c σ2 := RepC_cg rc (fun p _ _ _ => by rw [n2 p (by omega), n1 p (by omega)])
  refine lp (F := fun n s σ' => f_X8_unpack_37 N (RR t) 55 t (iI (((Wk c V * 16807 + Ord c V : Nat) : Int) - 8403500 * (q : Int))) n (nI (Ord c V)) (nI s) σ') (ns c) (fun s σ' => RepC t c σ' ∧ σ'.1 55 = σ2.1 55 ∧ ∀ i, i < s → σ'.1 60 i = sv (pv c V i)) ?_ ?_ N 0 σ2 (Nat.zero_le _) (by omega) ⟨rc2, rfl, fun i hi => absurd hi (by omega)⟩
  · rintro n s σ3 hs ⟨rc3, e3, p3⟩ kk
    have wp := Wt_pos s (by omega)
    show Ok (b_X8_unpack_37 _ _ _ _ _ _ _ _ _) _
    unfold b_X8_unpack_37 f_X8_unpack_90
    rw [rc3.2.1, r_55_4 rfl, nI_clamp (show s < 2 ^ 31 by omega), rom_W s (by omega), nI_1 s, pk_div (by omega) wp.1 (by omega)]
    have hdig : Ord c V / Wt s % 7 = dV c V s := dig_at (fun s => Nat.le_trans dV_le hnh) (ns c) hns s hs
    rw [show irem (nI (Ord c V / Wt s)) 7 = nI (Ord c V / Wt s % 7) from pk_rem (d := 7) (by have := Nat.div_le_self (Ord c V) (Wt s); omega) (by decide) (by decide), hdig]
    have i5 : ib (nI s) 5 = true := ib_nI (by omega) (by decide)
    refine ok_neg (nI_ge hs (by omega)) (ok_neg (show ¬ nI 5 ≤ nI s from nI_ge (by omega) (by decide)) (ok_gd i5 (ok_gd (nz_t (nI_ne0 wp.1 (by omega))) (ok_nmd ?_))))
    rw [rc3.1]
    have fin : ∀ x : Int32, x = sv (pv c V s) → Ok (gd (ib (nI s) 5) <| nmd (sI σ3 60 s x) fun σ2' => f_X8_unpack_37 N (RR t) 55 t (iI (((Wk c V * 16807 + Ord c V : Nat) : Int) - 8403500 * (q : Int))) n (nI (Ord c V)) (nI (s + 1)) σ2') (fun _ σ' => RepC t c σ' ∧ σ'.1 55 5 = nI q ∧ σ'.1 55 6 = nI (Wk c V) ∧ ∀ s, s < ns c → σ'.1 60 s = sv (pv c V s)) := by
      intro x hx
      refine ok_gd i5 (ok_sI fun σ4 n4 u4 => kk σ4 ⟨RepC_cg rc3 (fun p _ _ _ => n4 p (by omega)), by rw [n4 55 (by decide)]; exact e3, fun i hi => ?_⟩)
      rw [u4]
      by_cases ei : i = s
      · subst ei; rw [pk_us, hx]
      · rw [pk_un ei]; exact p3 i (by omega)
    unfold dV
    by_cases hv : V s < nh c
    · rw [if_pos hv]
      refine ok_neg (nI_ge hv (by omega)) (fin _ ?_)
      unfold pv
      rw [if_pos hv]
      rfl
    · rw [if_neg hv]
      refine ok_pos (Int32.le_refl _) (fin _ ?_)
      unfold pv
      rw [if_neg hv]
      rfl
  · rintro n σ3 ⟨rc3, e3, p3⟩
    show Ok (b_X8_unpack_37 _ _ _ _ _ _ _ _ _) _
    unfold b_X8_unpack_37 f_X8_unpack_97
    rw [rc3.2.1]
    refine ok_pos (Int32.le_refl _) (ok_ret ⟨rc3, ?_, ?_, p3⟩)
    · rw [e3, u2, pk_un (by decide), u1, pk_us]
    · rw [e3, u2, pk_us]
def qOf (c : CDat) (S : SDat) (sv : Bool) (V : Nat → Nat) : Nat := if sv = true then 0 else Cn c S V
theorem PT_q {c : CDat} {S : SDat} {sv : Bool} {V : Nat → Nat} : PT c S (gOf sv) V = ((Wk c V * 16807 + Ord c V : Nat) : Int) - 8403500 * (qOf c S sv V : Int) := by
  rw [PT_eq]
  unfold qOf gOf
  cases sv
  · simp only [Bool.false_eq_true, if_false]; omega
  · simp only [if_true]; omega
def Found (c : CDat) (S : SDat) (sv' : Bool) (V : Nat → Nat) : Prop := VV c S sv' (nh c) V ∧ ∀ V', VV c S sv' (nh c) V' → PT c S (gOf sv') V ≤ PT c S (gOf sv') V'
set_option maxHeartbeats 1600000 in
theorem s_find {N t : Nat} {c : CDat} {S : SDat} {sv' : Bool} {σ : St} (hN : 20000 ≤ N) (ht : isT t) (wf : WfC c) (rc : RepC t c σ) (rs : RepS 41 c S σ) :
    Ok (f_X8_find N (RR t) 55 t 41 (fl sv') σ) (fun r σ' => RepC t c σ' ∧ ((r = 0 ∧ ∀ V, ¬ VV c S sv' (nh c) V) ∨ (r = 1 ∧ ∃ V, Found c S sv' V ∧ σ'.1 55 5 = nI (qOf c S sv' V) ∧ σ'.1 55 6 = nI (Wk c V) ∧ ∀ s, s < ns c → σ'.1 60 s = sv (pv c V s)))) := by
  have hns := wf.2.1
  have hnh := wf.1
  have tl := isT_le ht
  have pm := pow_mono hns
  unfold f_X8_find
  rw [rc.2.1, pow_bits _ (by omega), show mmin 32 (nI (2 ^ ns c)) = nI (min 32 (2 ^ ns c)) from mmin_nI (a := 32) (by decide) (by omega), Nat.min_eq_right (by omega), r_55_0 rfl]
  refine ok_nmd (ok_call (s_fillJ hN (by decide)) (fun _ σ1 h1 => ok_gd rfl (ok_sI fun σ2 n2 u2 => ?_)))
  have n1 : ∀ p, p ≠ 56 → σ1.1 p = σ.1 p := fun p hp => (h1.2 p hp).1
  have rc2 : RepC t c σ2 := RepC_cg rc (fun p _ _ _ => by rw [n2 p (by omega), n1 p (by omega)])
  have rs2 : RepS 41 c S σ2 := RepS_cg rs (fun p _ _ => by rw [n2 p (by omega), n1 p (by omega)])
  have d2 : Dvs c S sv' 0 (σ2.1 56) := by
    intro X hX
    rw [u2]
    by_cases hX0 : X = 0
    · subst hX0
      refine Or.inr ⟨0, by rw [show upd (σ1.1 56) (0 : Int32).toNatClampNeg 0 0 = 0 from pk_us]; decide, ⟨fun _ => 0, fun s hs => by simp, fun k hk => absurd hk (by omega), rfl⟩, ?_⟩
      rintro z' ⟨V, _, _, rfl⟩
      exact Int.le_refl _
    · refine Or.inl ⟨?_, ?_⟩
      · rw [show upd (σ1.1 56) (0 : Int32).toNatClampNeg 0 X = σ1.1 56 X from pk_un hX0]
        exact h1.1 X (by omega)
      · rintro z ⟨V, hV, _, _⟩
        apply hX0
        refine tb_0 hX (fun k hk => ?_)
        have := hV k hk
        simpa using this.symm
  refine lp (F := fun n h σ' => f_X8_find_32 N (RR t) 55 t 41 (fl sv') n (nI (2 ^ ns c)) (nI h) σ') (nh c) (fun h σ' => RepC t c σ' ∧ RepS 41 c S σ' ∧ Dvs c S sv' h (σ'.1 56)) ?_ ?_ N 0 σ2 (Nat.zero_le _) (by omega) ⟨rc2, rs2, d2⟩
  · rintro n h σ3 hh ⟨rc3, rs3, d3⟩ kk
    show Ok (b_X8_find_32 _ _ _ _ _ _ _ _ _ _) _
    unfold b_X8_find_32
    rw [rc3.1, nI_1 h]
    refine ok_neg (nI_ge hh (by omega)) (ok_call (s_priceSets hN ht wf rc3 rs3 hh) (fun _ σ4 h4 => ?_))
    obtain ⟨rc4, rs4, p4, e4⟩ := h4
    exact ok_call (s_goOn hN ht wf rc4 rs4 hh p4 (by rw [e4]; exact d3)) (fun _ σ5 h5 => kk σ5 h5)
  · rintro n σ3 ⟨rc3, rs3, d3⟩
    show Ok (b_X8_find_32 _ _ _ _ _ _ _ _ _ _) _
    unfold b_X8_find_32
    rw [rc3.1]
    refine ok_pos (Int32.le_refl _) ?_
    refine lp (β := Int32) (F := fun n X w => f_X8_find_71 N (RR t) 55 t 41 (fl sv') n (nI (2 ^ ns c)) w (nI X) σ3) (2 ^ ns c) (fun X w => MinOf (CFn c S sv' X) w) ?_ ?_ N 0 1000000000 (Nat.zero_le _) (by omega) (Or.inl ⟨rfl, fun z hz => by obtain ⟨Z, hZ, _⟩ := hz; omega⟩)
    · intro n X w hX hm kk
      have X32 : X < 32 := by omega
      show Ok (b_X8_find_71 _ _ _ _ _ _ _ _ _ _ _) _
      unfold b_X8_find_71 f_X8_find_120
      rw [r_55_0 rfl, nI_clamp (show X < 2 ^ 31 by omega), nI_1 X, rc3.1, rc3.2.1]
      refine ok_neg (nI_ge hX (by omega)) (ok_gd (ib_nI (by omega) (by decide)) ?_)
      have dv := d3 X hX
      by_cases hnv : σ3.1 56 X = 1000000000
      · refine ok_pos hnv (kk w (mn_cg hm (fun z => ?_)))
        constructor
        · rintro ⟨Z, hZ, r⟩
          exact ⟨Z, by omega, r⟩
        · rintro ⟨Z, hZ, z0, q1, q2⟩
          by_cases eZ : Z = X
          · subst eZ
            exact absurd q1 (mn_nv dv (CV_B wf gOf_ok (Nat.le_refl _)) hnv z0)
          · exact ⟨Z, by omega, z0, q1, q2⟩
      · obtain ⟨z0, q1, q2, q3⟩ := mn_some dv hnv
        have cb := CV_bd wf (gOf_ok (sv := sv')) (Nat.le_refl _) z0 q2
        have ob := od_le (p := fun s => !X.testBit s) wf hnh
        refine ok_neg hnv (ok_gd (ib_nI (by omega) (by decide)) (ok_bnd (s_orderOf (p := fun s => !X.testBit s) hN hns (fun k hk => neg_bit X X32 k (by omega))) (ok_nmd ?_)))
        have eo : nI (sumN (fun s => if (!X.testBit s) = true then nh c * Wt s else 0) (ns c)) = iI (od c (nh c) (fun s => !X.testBit s) : Int) := (iI_n _).symm
        rw [eo, q1, iI_add]
        have bC : BdC (CFn c S sv' X) := by
          rintro z ⟨Z, hZ, z1, g1, _, rfl⟩
          have a1 := CV_bd wf (gOf_ok (sv := sv')) (Nat.le_refl _) z1 g1
          have a2 := od_le (p := fun s => !Z.testBit s) wf hnh
          omega
        refine kk _ (mn_cg (mn_add hm bC (z1 := z0 + (od c (nh c) (fun s => !X.testBit s) : Int)) (by omega) (by omega)) (fun z => ?_))
        constructor
        · rintro (⟨Z, hZ, r⟩ | rfl)
          · exact ⟨Z, by omega, r⟩
          · exact ⟨X, by omega, z0, q2, q3, rfl⟩
        · rintro ⟨Z, hZ, z1, g3, g4, g5⟩
          by_cases eZ : Z = X
          · subst eZ
            right
            have : z1 = z0 := by
              have a := g4 z0 q2
              have b := q3 z1 g3
              omega
            rw [g5, this]
          · exact Or.inl ⟨Z, by omega, z1, g3, g4, g5⟩
    · intro n w hm
      have hT := fin_all wf d3 hm
      show Ok (b_X8_find_71 _ _ _ _ _ _ _ _ _ _ _) _
      unfold b_X8_find_71
      refine ok_pos (Int32.le_refl _) ?_
      by_cases hw : w = 1000000000
      · refine ok_pos hw (ok_ret ⟨rc3, Or.inl ⟨rfl, fun V hV => ?_⟩⟩)
        exact mn_nv hT (fun z hz => by have := CT_B wf z hz; omega) hw _ ⟨V, hV, rfl⟩
      · obtain ⟨z, q1, ⟨V, hV, rfl⟩, q3⟩ := mn_some hT hw
        have hcn := Cn_le (S := S) (V := V) wf
        refine ok_neg hw ?_
        rw [q1, PT_q]
        refine ok_call (s_unpack hN ht wf rc3 (by unfold qOf; split <;> omega)) (fun _ σ4 h4 => ok_ret ⟨h4.1, Or.inr ⟨rfl, V, ⟨hV, fun V' hV' => q3 _ ⟨V', hV', rfl⟩⟩, h4.2.1, h4.2.2.1, h4.2.2.2⟩⟩)
