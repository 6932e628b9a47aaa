/-! A HEARTH's or A STOOL's LINE in the class -/
def vf (a b c d : Nat) : Nat → Nat := fun j => ([a, b, c, d] : List Nat).getD j 0
def recP (τ : Tape) (p n : Nat) (nm : Nat → List Nat) (k2 k3 lo3 hi3 k4 hi4 : Nat) : (Nat × (Nat → Nat)) ⊕ Flt :=
  obn (nmP τ (tn τ p) n nm) fun p1 => obn (tdP τ p1 11 0 99) fun q2 => obn (tdP τ q2.1 k2 0 99) fun q3 => obn (opP τ q3.1 k3 lo3 hi3) fun q4 => obn (opP τ q4.1 k4 0 hi4) fun q5 => .inl (q5.1, vf q2.2 q3.2 q4.2 q5.2)
def gL2 (N : Nat) (ρ : Nat → Nat → Nat) (this a1 fld n1 A3 : Nat) (y : Int32) (σ : St) : Option (Int32 × St) :=
  gd (ib y n1) <|
  nmd (sI σ A3 y.toNatClampNeg (σ.1 this 5)) fun σ6 =>
  nmd (sI σ6 a1 fld (y + 1)) fun σ7 =>
  some (1, σ7)
def gL1 (N : Nat) (ρ : Nat → Nat → Nat) (this a1 fld n1 A2 A3 : Nat) (k4 hi4 : Int32) (y : Int32) (σ : St) : Option (Int32 × St) :=
  gd (ib y n1) <|
  nmd (sI σ A2 y.toNatClampNeg (σ.1 this 5)) fun σ9 =>
  nmd (sI σ9 this 5 0) fun σ10 =>
  if (σ10.1 (ρ this 1) 4 : Int32) = k4 then
    bnd (f_X7_told N ρ this k4 0 hi4 σ10) fun r12 σ13 =>
    if (r12 : Int32) = 0 then
      some (0, σ13)
    else
      gL2 N ρ this a1 fld n1 A3 y σ13
  else
    gL2 N ρ this a1 fld n1 A3 y σ10
def gLn (N : Nat) (ρ : Nat → Nat → Nat) (this a1 fld : Nat) (lim : Int32) (nm n1 A0 A1 A2 A3 : Nat) (k2 k3 lo3 hi3 k4 hi4 : Int32) (σ : St) : Option (Int32 × St) :=
  nmd (σ.1 a1 fld) fun y16 =>
  if (y16 : Int32) < 0 then
    (bnd (f_X5_refuse N ρ (ρ this 1) 2 σ) fun r1 σ2 => gd (bb r1) <| some (r1, σ2))
  else
    if (y16 : Int32) < lim then
      bnd (f_X5_advance N ρ (ρ this 1) σ) fun _ σ20 =>
      bnd (f_X7_newName N ρ this nm n1 y16 σ20) fun r22 σ23 =>
      if (r22 : Int32) = 0 then
        some (0, σ23)
      else
        bnd (f_X7_told N ρ this 11 0 99 σ23) fun r26 σ27 =>
        if (r26 : Int32) = 0 then
          some (0, σ27)
        else
          gd (ib y16 n1) <|
          nmd (sI σ27 A0 y16.toNatClampNeg (σ27.1 this 5)) fun σ31 =>
          bnd (f_X7_told N ρ this k2 0 99 σ31) fun r32 σ33 =>
          if (r32 : Int32) = 0 then
            some (0, σ33)
          else
            gd (ib y16 n1) <|
            nmd (sI σ33 A1 y16.toNatClampNeg (σ33.1 this 5)) fun σ37 =>
            nmd (sI σ37 this 5 lo3) fun σ38 =>
            if (σ38.1 (ρ this 1) 4 : Int32) = k3 then
              bnd (f_X7_told N ρ this k3 lo3 hi3 σ38) fun r40 σ41 =>
              if (r40 : Int32) = 0 then
                some (0, σ41)
              else
                gL1 N ρ this a1 fld n1 A2 A3 k4 hi4 y16 σ41
            else
              gL1 N ρ this a1 fld n1 A2 A3 k4 hi4 y16 σ38
    else
      (bnd (f_X5_refuse N ρ (ρ this 1) 2 σ) fun r1 σ2 => gd (bb r1) <| some (r1, σ2))
theorem gL_h {N : Nat} {ρ : Nat → Nat → Nat} {this a1 : Nat} {σ : St} : f_X7_hearthLine N ρ this a1 σ = gLn N ρ this a1 11 6 (ρ this 2) 6 (ρ a1 0) (ρ a1 1) (ρ a1 2) (ρ a1 3) 1 12 1 5 3 9 σ := rfl
theorem gL_s {N : Nat} {ρ : Nat → Nat → Nat} {this a1 : Nat} {σ : St} : f_X7_stoolLine N ρ this a1 σ = gLn N ρ this a1 12 5 (ρ this 3) 5 (ρ a1 4) (ρ a1 5) (ρ a1 6) (ρ a1 7) 5 14 0 3 4 99 σ := rfl
theorem told_k {N t p k lo hi : Nat} {τ : Tape} {a1 a2 a3 : Int32} {σ : St} {G : St → Option (Int32 × St)} {Q : Int32 → St → Prop} (hN : 20000 ≤ N) (hb : ∀ j, j < τ.1 → τ.2 j < 256) (hk : k < 104) (hlo : lo < 10000) (hhi : hi < 10000) (e1 : a1 = nI k) (e2 : a2 = nI lo) (e3 : a3 = nI hi) (h : LXs τ p σ)
    (ok : ∀ p' v σ', tdP τ p k lo hi = .inl (p', v) → LXs τ p' σ' → σ'.1 1 5 = nI v → σ'.1 1 4 = σ.1 1 4 → Ag A13 σ σ' → Ok (G σ') Q) (bad : ∀ e σ', tdP τ p k lo hi = .inr e → FXs τ e σ' → Q 0 σ') :
    Ok (bnd (f_X7_told N (RR t) 1 a1 a2 a3 σ) fun r σ' => if (r : Int32) = 0 then some (0, σ') else G σ') Q := by
  refine ok_call (s_toldX hN hb hk hlo hhi e1 e2 e3 h) (fun r σ' z => ?_)
  obtain ⟨z1, z2, z3⟩ := z
  revert z1 ok bad
  cases tdP τ p k lo hi with
  | inl q =>
    obtain ⟨p', v⟩ := q
    intro ok _ z1
    obtain ⟨rfl, z4, z5⟩ := z1
    exact ok_neg (by decide) (ok p' v σ' rfl z4 z5 z2 z3)
  | inr e =>
    intro _ bad z1
    obtain ⟨rfl, z4⟩ := z1
    exact ok_pos rfl (ok_ret (bad e σ' rfl z4))
theorem opt_k {N t p k lo hi : Nat} {τ : Tape} {a1 a2 a3 : Int32} {σ : St} {G : St → Option (Int32 × St)} {Q : Int32 → St → Prop} (hN : 20000 ≤ N) (hb : ∀ j, j < τ.1 → τ.2 j < 256) (hk : k < 104) (hlo : lo < 10000) (hhi : hi < 10000) (e1 : a1 = nI k) (e2 : a2 = nI lo) (e3 : a3 = nI hi) (h : LXs τ p σ) (h5 : σ.1 1 5 = nI lo)
    (ok : ∀ p' v σ', opP τ p k lo hi = .inl (p', v) → LXs τ p' σ' → σ'.1 1 5 = nI v → σ'.1 1 4 = σ.1 1 4 → Ag A13 σ σ' → Ok (G σ') Q) (bad : ∀ e σ', opP τ p k lo hi = .inr e → FXs τ e σ' → Q 0 σ') :
    Ok (if (σ.1 3 4 : Int32) = a1 then bnd (f_X7_told N (RR t) 1 a1 a2 a3 σ) fun r σ' => if (r : Int32) = 0 then some (0, σ') else G σ' else G σ) Q := by
  have hk0 := tk_lt (p := p) hb
  rw [h.2.2.1.2.1]
  by_cases c : tk τ p = k
  · refine ok_pos (by rw [c, e1]) (told_k hN hb hk hlo hhi e1 e2 e3 h (fun p' v σ' e => ok p' v σ' ?_) (fun e σ' e' => bad e σ' ?_))
    · unfold opP; rw [if_pos c]; exact e
    · unfold opP; rw [if_pos c]; exact e'
  · refine ok_neg (by rw [e1]; exact tk_ne hk0 hk c) (ok p lo σ ?_ h h5 rfl ag_refl)
    unfold opP; rw [if_neg c]
theorem mid_v {d b n : Nat} {D : Dr} {w : List Nat} {v v' : Nat → Nat} {σ : St} (h : MidX d b D w n v σ) (e : ∀ j, j < n → v' j = v j) : MidX d b D w n v' σ := ⟨h.1, h.2.1, fun j hj => by rw [e j hj]; exact h.2.2 j hj⟩
def RcX (τ : Tape) (d b p : Nat) (D : Dr) (w : List Nat) (o : (Nat × (Nat → Nat)) ⊕ Flt) (r : Int32) (σ' : St) : Prop := match o with
  | .inl (p', v) => r = 1 ∧ LXs τ p' σ' ∧ DX d (upR D b w v) σ' ∧ okW w ∧ rcOk b v ∧ p < p'
  | .inr e => r = 0 ∧ FXs τ e σ'
theorem lx_o {τ : Tape} {p : Nat} {σ σ' : St} {a : Nat} (h : LXs τ p σ) (ha : a < 3 ∨ 6 < a) (n : ∀ q, q ≠ a → σ'.1 q = σ.1 q) (f : σ'.2 = σ.2) : LXs τ p σ' := LX_cg h (fun q q1 q2 => ⟨n q (by omega), by rw [f]⟩)
set_option maxHeartbeats 1000000 in
theorem s_recX {N t p d b n1 k2 k3 lo3 hi3 k4 hi4 : Nat} {τ : Tape} {D : Dr} {lim x2 x3 y3 z3 x4 z4 : Int32} {σ : St} (hN : 20000 ≤ N) (hb : ∀ j, j < τ.1 → τ.2 j < 256) (hd : 9 ≤ d) (hb2 : b < 2) (hn1 : n1 = 6 - b) (el : lim = nI n1) (hk2 : k2 < 20) (hk3 : k3 < 20) (hk4 : k4 < 20) (hlo3 : lo3 ≤ hi3) (hhi3 : hi3 < 10000) (hhi4 : hi4 < 10000) (e2 : x2 = nI k2) (e3 : x3 = nI k3) (f3 : y3 = nI lo3) (g3 : z3 = nI hi3) (e4 : x4 = nI k4) (g4 : z4 = nI hi4)
    (hv : ∀ a b' c d', a ≤ 99 → b' ≤ 99 → lo3 ≤ c → c ≤ hi3 → d' ≤ hi4 → rcOk b (vf a b' c d')) (wf : WfD D) (h : LXs τ p σ) (hx : DX d D σ) (hc : cn (dc D) b < n1) :
    Ok (gLn N (RR t) 1 d (11 + b) lim (7 + b) n1 (d + 1 + (4 * b + 0)) (d + 1 + (4 * b + 1)) (d + 1 + (4 * b + 2)) (d + 1 + (4 * b + 3)) x2 x3 y3 z3 x4 z4 σ) (RcX τ d b p D (tw τ (tn τ p)) (recP τ p (cn (dc D) b) (dn D b) k2 k3 lo3 hi3 k4 hi4)) := by
  have y16 : σ.1 d (11 + b) = nI (cn (dc D) b) := (rc_to hx.1).1 b hb2
  have hc6 : cn (dc D) b < 6 := by omega
  unfold gLn
  rw [y16, nmd_e, el, r_1_1 rfl]
  refine ok_neg (nI_pos (by omega)) (ok_pos (nI_lt hc (by omega)) (ok_call (lx_adv hN h) (fun _ σ1 z1 => ?_)))
  obtain ⟨h1, a1⟩ := z1
  have hx1 : DX d D σ1 := DX_cg hx (fun q q1 q2 => (a1 q (by omega)).1) (fun x i hx _ => by rw [(a1 (7 + x) (by omega)).2]) (by rw [(a1 1 (by decide)).1])
  refine ok_call (s_newNameX (q := 7 + b) (n := cn (dc D) b) (n1 := n1) (nm := dn D b) hN hb (by omega) hc (by omega) (fun i hi => ⟨wf.2.2 b i hb2 hi, hx1.2.2.2.1 b i hb2 hi⟩) h1) (fun r2 σ2 z2 => ?_)
  obtain ⟨z2, nm2, a2, -⟩ := z2
  unfold recP
  revert z2
  cases hnm : nmP τ (tn τ p) (cn (dc D) b) (dn D b) with
  | inr e =>
    intro z2
    obtain ⟨rfl, fx⟩ := z2
    exact ok_pos rfl (ok_ret ⟨rfl, fx⟩)
  | inl p1 =>
    intro z2
    obtain ⟨rfl, h2⟩ := z2
    obtain ⟨hw, u2⟩ := nm2 rfl
    have hp1 : p < p1 := by
      obtain ⟨e, c⟩ := nmP_ge hnm
      have := tn_gt (τ := τ) (p := tn τ p) (by omega)
      have := tn_ge (τ := τ) (p := p)
      omega
    rw [obn_l]
    have m0 : MidX d b D (tw τ (tn τ p)) 0 (vf 0 0 0 0) σ2 := by
      refine ⟨DX_cg hx1 (fun q q1 q2 => (a2 q (by omega)).1) (fun x i hx hi => ?_) (by rw [(a2 1 (by omega)).1]), by rw [u2, if_pos rfl], fun j hj => absurd hj (Nat.not_lt_zero _)⟩
      by_cases e : x = b
      · subst e
        rw [u2, if_neg (by omega)]
      · rw [(a2 (7 + x) (by omega)).2]
    refine ok_neg (by decide) (told_k (k := 11) (lo := 0) (hi := 99) hN hb (by decide) (by decide) (by decide) rfl rfl rfl h2 (fun p2 v0 σ3 t3 h3 w3 k3' a3 => ?_) (fun e σ3 t3 fx => ?_))
    rotate_left
    · rw [t3, obn_r]; exact ⟨rfl, fx⟩
    rw [t3, obn_l]
    have m3 := mid_told hd hb2 (by decide) m0 a3 k3'
    refine ok_gd (ib_nI hc (by omega)) (ok_sI2 fun σ4 n4 u4 f4 => ?_)
    rw [nI_clamp (by omega), w3] at u4
    have m4 : MidX d b D (tw τ (tn τ p)) 1 (vf v0 0 0 0) σ4 := mid_wr hd hb2 (by decide) (mid_v m3 (fun j hj => absurd hj (Nat.not_lt_zero _))) n4 u4 f4
    have h4 : LXs τ p2 σ4 := lx_o h3 (by omega) n4 f4
    refine told_k (k := k2) (lo := 0) (hi := 99) hN hb (by omega) (by decide) (by decide) e2 rfl rfl h4 (fun p3 v1 σ5 t5 h5 w5 k5 a5 => ?_) (fun e σ5 t5 fx => ?_)
    rotate_left
    · rw [t5, obn_r]; exact ⟨rfl, fx⟩
    rw [t5, obn_l]
    have m5 := mid_told hd hb2 (by decide) m4 a5 k5
    refine ok_gd (ib_nI hc (by omega)) (ok_sI2 fun σ6 n6 u6 f6 => ok_sI2 fun σ7 n7 u7 f7 => ?_)
    rw [nI_clamp (by omega), w5] at u6
    have m6 : MidX d b D (tw τ (tn τ p)) 2 (vf v0 v1 0 0) σ6 := mid_wr hd hb2 (by decide) (mid_v m5 (fun j hj => by rw [show j = 0 by omega]; rfl)) n6 u6 f6
    have s7 : Ag A13 σ6 σ7 := fun q hq => ⟨n7 q (fun z => hq (Or.inl z)), by rw [f7]⟩
    have m7 := mid_told hd hb2 (by decide) m6 s7 (by rw [u7, pk_un (by decide)])
    have h7 : LXs τ p3 σ7 := lx_o (lx_o h5 (by omega) n6 f6) (by omega) n7 f7
    refine opt_k (k := k3) (lo := lo3) (hi := hi3) hN hb (by omega) (by omega) (by omega) e3 f3 g3 h7 (by rw [u7, pk_us, f3]) (fun p4 v2 σ8 t8 h8 w8 k8 a8 => ?_) (fun e σ8 t8 fx => ?_)
    rotate_left
    · rw [t8, obn_r]; exact ⟨rfl, fx⟩
    rw [t8, obn_l]
    have m8 := mid_told hd hb2 (by decide) m7 a8 k8
    unfold gL1
    rw [r_1_1 rfl]
    refine ok_gd (ib_nI hc (by omega)) (ok_sI2 fun σ9 n9 u9 f9 => ok_sI2 fun σ10 n10 u10 f10 => ?_)
    rw [nI_clamp (by omega), w8] at u9
    have m9 : MidX d b D (tw τ (tn τ p)) 3 (vf v0 v1 v2 0) σ9 := mid_wr hd hb2 (by decide) (mid_v m8 (fun j hj => by rcases (show j = 0 ∨ j = 1 by omega) with rfl | rfl <;> rfl)) n9 u9 f9
    have s10 : Ag A13 σ9 σ10 := fun q hq => ⟨n10 q (fun z => hq (Or.inl z)), by rw [f10]⟩
    have m10 := mid_told hd hb2 (by decide) m9 s10 (by rw [u10, pk_un (by decide)])
    have h10 : LXs τ p4 σ10 := lx_o (lx_o h8 (by omega) n9 f9) (by omega) n10 f10
    refine opt_k (k := k4) (lo := 0) (hi := hi4) hN hb (by omega) (by decide) (by omega) e4 rfl g4 h10 (by rw [u10, pk_us]; rfl) (fun p5 v3 σ11 t11 h11 w11 k11 a11 => ?_) (fun e σ11 t11 fx => ?_)
    rotate_left
    · rw [t11, obn_r]; exact ⟨rfl, fx⟩
    rw [t11, obn_l]
    have m11 := mid_told hd hb2 (by decide) m10 a11 k11
    unfold gL2
    refine ok_gd (ib_nI hc (by omega)) (ok_sI2 fun σ12 n12 u12 f12 => ok_sI2 fun σ13 n13 u13 f13 => ok_ret ?_)
    rw [nI_clamp (by omega), w11] at u12
    rw [nI_1] at u13
    have m12 : MidX d b D (tw τ (tn τ p)) 4 (vf v0 v1 v2 v3) σ12 := mid_wr hd hb2 (by decide) (mid_v m11 (fun j hj => by rcases (show j = 0 ∨ j = 1 ∨ j = 2 by omega) with rfl | rfl | rfl <;> rfl)) n12 u12 f12
    obtain ⟨g1, -, -, g2⟩ := tdP_ge t3
    obtain ⟨g4', -, -, g5⟩ := tdP_ge t5
    obtain ⟨g6, g7⟩ := opP_ge t8 hlo3
    obtain ⟨g8, g9⟩ := opP_ge t11 (Nat.zero_le _)
    exact ⟨rfl, lx_o (lx_o h11 (by omega) n12 f12) (by omega) n13 f13, mid_end hd hb2 m12 n13 u13 f13, hw, hv _ _ _ _ g2 g5 g7.1 g7.2 g9.2, by omega⟩
