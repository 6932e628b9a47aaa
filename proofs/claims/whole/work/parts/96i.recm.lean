/-! A HEARTH's or A STOOL's LINE in the model -/
def nG (k : Nat) : Prop := nF k ∨ (44 ≤ k ∧ k ≤ 48) ∨ (53 ≤ k ∧ k ≤ 55)
def KG (σ σ' : St) : Prop := ∀ k, ¬ nG k → σ'.1 90 k = σ.1 90 k
theorem kg_trans {a b c : St} (h : KG a b) (g : KG b c) : KG a c := fun k hk => (g k hk).trans (h k hk)
theorem kg_kt {a b : St} (h : KT a b) : KG a b := fun k hk => h.1 k (fun z => hk (by unfold nT at z; unfold nG nF; omega))
theorem kg_o {a b : St} (h : b.1 90 = a.1 90) : KG a b := fun k _ => by rw [h]
theorem DM_cg {D : Dr} {σ σ' : St} (h : DM D σ) (e90 : ∀ k, (44 ≤ k ∧ k ≤ 48) ∨ (53 ≤ k ∧ k ≤ 55) ∨ k = 22 → σ'.1 90 k = σ.1 90 k) (e : ∀ q, (93 ≤ q ∧ q ≤ 95) ∨ q = 101 ∨ (103 ≤ q ∧ q ≤ 110) → σ'.1 q = σ.1 q) (e92 : ∀ b i, b < 2 → i < cn (dc D) b → σ'.2 92 (6 * b + i) = σ.2 92 (6 * b + i)) : DM D σ' := by
  obtain ⟨⟨h1, h2, h3, h4⟩, ⟨h5, h6⟩, h7, h8, h9, h10⟩ := h
  exact ⟨⟨fun b hb => by rw [e90 _ (by omega)]; exact h1 b hb, fun j hj => by rw [e90 _ (by omega)]; exact h2 j hj, fun j hj => by rw [e90 _ (by omega)]; exact h3 j hj, by rw [e90 22 (by omega)]; exact h4⟩, ⟨by rw [e 101 (by omega)]; exact h5, by rw [e 101 (by omega)]; exact h6⟩, fun k i hk hi => by rw [e (103 + k) (by omega)]; exact h7 k i hk hi, fun b i hb hi => by rw [e92 b i hb hi]; exact h8 b i hb hi, fun z => em_cg (h9 z) (fun q a b => e q (by omega)), fun z => em_cg (h10 z) (fun q a b => e q (by omega))⟩
theorem DM_wr {k i : Nat} {D : Dr} {x : Int32} {σ σ' : St} (h : DM D σ) (hk : k < 8) (hi : cn (dc D) (k / 4) ≤ i) (n : ∀ q, q ≠ 103 + k → σ'.1 q = σ.1 q) (u : σ'.1 (103 + k) = upd (σ.1 (103 + k)) i x) (f : σ'.2 = σ.2) : DM D σ' := by
  obtain ⟨⟨h1, h2, h3, h4⟩, ⟨h5, h6⟩, h7, h8, h9, h10⟩ := h
  refine ⟨⟨fun b hb => by rw [n 90 (by omega)]; exact h1 b hb, fun j hj => by rw [n 90 (by omega)]; exact h2 j hj, fun j hj => by rw [n 90 (by omega)]; exact h3 j hj, by rw [n 90 (by omega)]; exact h4⟩, ⟨by rw [n 101 (by omega)]; exact h5, by rw [n 101 (by omega)]; exact h6⟩, fun k' i' hk' hi' => ?_, fun b i hb hi => by rw [f]; exact h8 b i hb hi, fun z => em_cg (h9 z) (fun q a b => n q (by omega)), fun z => em_cg (h10 z) (fun q a b => n q (by omega))⟩
  by_cases e : k' = k
  · subst e
    rw [u, pk_un (by omega)]
    exact h7 k' i' hk' hi'
  · rw [n _ (by omega)]
    exact h7 k' i' hk' hi'
def MidM (b : Nat) (D : Dr) (w : List Nat) (n : Nat) (v : Nat → Nat) (σ : St) : Prop := DM D σ ∧ σ.2 92 (6 * b + cn (dc D) b) = lO (vM w) ∧ ∀ j, j < n → σ.1 (103 + (4 * b + j)) (cn (dc D) b) = nI (v j)
theorem nT_n {k : Nat} (h : 9 ≤ k) : ¬ nT k := by unfold nT; omega
theorem midM_kt {b n : Nat} {D : Dr} {w : List Nat} {v : Nat → Nat} {σ σ' : St} (h : MidM b D w n v σ) (a : KT σ σ') : MidM b D w n v σ' :=
  ⟨DM_cg h.1 (fun k hk => a.1 k (nT_n (by omega))) (fun q hq => (a.2 q (by unfold A90; omega)).1) (fun b i _ _ => by rw [(a.2 92 (by unfold A90; decide)).2]), by rw [(a.2 92 (by unfold A90; decide)).2]; exact h.2.1, fun j hj => by rw [(a.2 (103 + (4 * b + j)) (by unfold A90; omega)).1]; exact h.2.2 j hj⟩
theorem midM_wr {b n : Nat} {D : Dr} {w : List Nat} {v : Nat → Nat} {σ σ' : St} (hb : b < 2) (hn : n < 4) (h : MidM b D w n v σ) (ne : ∀ q, q ≠ 103 + (4 * b + n) → σ'.1 q = σ.1 q) (u : σ'.1 (103 + (4 * b + n)) = upd (σ.1 (103 + (4 * b + n))) (cn (dc D) b) (nI (v n))) (f : σ'.2 = σ.2) : MidM b D w (n + 1) v σ' := by
  refine ⟨DM_wr h.1 (by omega) (by rw [show (4 * b + n) / 4 = b by omega]; exact Nat.le_refl _) ne u f, by rw [f]; exact h.2.1, fun j hj => ?_⟩
  by_cases e : j = n
  · subst e
    rw [u, pk_us]
  · rw [ne _ (by omega)]
    exact h.2.2 j (by omega)
theorem midM_v {b n : Nat} {D : Dr} {w : List Nat} {v v' : Nat → Nat} {σ : St} (h : MidM b D w n v σ) (e : ∀ j, j < n → v' j = v j) : MidM b D w n v' σ := ⟨h.1, h.2.1, fun j hj => by rw [e j hj]; exact h.2.2 j hj⟩
theorem midM_end {b : Nat} {D : Dr} {w : List Nat} {v : Nat → Nat} {σ σ' : St} (hb : b < 2) (h : MidM b D w 4 v σ) (ne : ∀ q, q ≠ 90 → σ'.1 q = σ.1 q) (u : σ'.1 90 = upd (σ.1 90) (44 + b) (nI (cn (dc D) b + 1))) (f : σ'.2 = σ.2) : DM (upR D b w v) σ' := by
  obtain ⟨⟨⟨h1, h2, h3, h4⟩, ⟨h5, h6⟩, h7, h8, h9, h10⟩, g6, g7⟩ := h
  refine ⟨⟨fun x hx => ?_, fun j hj => ?_, fun j hj => ?_, ?_⟩, ⟨by rw [ne 101 (by omega)]; exact h5, by rw [ne 101 (by omega)]; exact h6⟩, fun k i hk hi => ?_, fun x i hx hi => ?_, fun z => em_cg (h9 z) (fun q a b => ne q (by omega)), fun z => em_cg (h10 z) (fun q a b => ne q (by omega))⟩
  · rw [cn_up hb hx, u]
    by_cases e : x = b
    · subst e; rw [pk_us, if_pos rfl]
    · rw [pk_un (by omega), if_neg e]; exact h1 x hx
  · rw [u, pk_un (by omega)]
    show σ.1 90 (46 + j) = nI (if 8 / 4 = b ∧ j = cn (dc D) b then v (8 % 4) else dt (dc D) 8 j)
    rw [if_neg (by omega)]
    exact h2 j hj
  · rw [u, pk_un (by omega)]; exact h3 j hj
  · rw [u, pk_un (by omega)]; exact h4
  · rw [ne _ (by omega)]
    rw [cn_up hb (by omega)] at hi
    show σ.1 (103 + k) i = nI (if k / 4 = b ∧ i = cn (dc D) b then v (k % 4) else dt (dc D) k i)
    by_cases e : k / 4 = b ∧ i = cn (dc D) b
    · rw [if_pos e, e.2, ← g7 (k % 4) (by omega), show 4 * b + k % 4 = k by omega]
    · rw [if_neg e]
      refine h7 k i hk ?_
      by_cases ex : k / 4 = b
      · rw [if_pos ex] at hi
        have : i ≠ cn (dc D) b := fun z => e ⟨ex, z⟩
        rw [ex]
        omega
      · rw [if_neg ex] at hi
        exact hi
  · rw [cn_up hb hx] at hi
    rw [f]
    show σ.2 92 (6 * x + i) = lO (vM (if x = b ∧ i = cn (dc D) b then w else dn D x i))
    by_cases e : x = b ∧ i = cn (dc D) b
    · rw [if_pos e, e.1, e.2]; exact g6
    · rw [if_neg e]
      refine h8 x i hx ?_
      by_cases ex : x = b
      · rw [if_pos ex] at hi
        have : i ≠ cn (dc D) b := fun z => e ⟨ex, z⟩
        rw [ex]
        omega
      · rw [if_neg ex] at hi
        exact hi
def gR4 (fld : Nat) (σ : St) : Option (Int32 × St) :=
  if (σ.1 90 2 : Int32) = 0 then
    nmd (sI σ 90 fld ((σ.1 90 fld) + 1)) fun σ26 => some (0, σ26)
  else
    some (0, σ)
def gR3 (N : Nat) (ρ : Nat → Nat → Nat) (fld n1 A3 : Nat) (x4 : Int64) (hi4 y : Int32) (σ : St) : Option (Int32 × St) :=
  bnd (f_X12_option N ρ 90 x4 0 hi4 σ) fun r20 σ21 => gd (ib y n1) <| nmd (sI σ21 A3 y.toNatClampNeg r20) fun σ24 => gR4 fld σ24
def gR2 (N : Nat) (ρ : Nat → Nat → Nat) (fld n1 A2 A3 : Nat) (x3 : Int64) (lo3 hi3 : Int32) (x4 : Int64) (hi4 y : Int32) (σ : St) : Option (Int32 × St) :=
  bnd (f_X12_option N ρ 90 x3 lo3 hi3 σ) fun r15 σ16 => gd (ib y n1) <| nmd (sI σ16 A2 y.toNatClampNeg r15) fun σ19 => gR3 N ρ fld n1 A3 x4 hi4 y σ19
def gR1 (N : Nat) (ρ : Nat → Nat → Nat) (fld n1 A1 A2 A3 : Nat) (x2 x3 : Int64) (lo3 hi3 : Int32) (x4 : Int64) (hi4 y : Int32) (σ : St) : Option (Int32 × St) :=
  bnd (f_X12_told N ρ 90 x2 0 99 σ) fun r10 σ11 => gd (ib y n1) <| nmd (sI σ11 A1 y.toNatClampNeg r10) fun σ14 => gR2 N ρ fld n1 A2 A3 x3 lo3 hi3 x4 hi4 y σ14
def gR0 (N : Nat) (ρ : Nat → Nat → Nat) (fld n1 A0 A1 A2 A3 : Nat) (x2 x3 : Int64) (lo3 hi3 : Int32) (x4 : Int64) (hi4 y : Int32) (σ : St) : Option (Int32 × St) :=
  bnd (f_X12_told N ρ 90 (24948) 0 99 σ) fun r5 σ6 => gd (ib y n1) <| nmd (sI σ6 A0 y.toNatClampNeg r5) fun σ9 => gR1 N ρ fld n1 A1 A2 A3 x2 x3 lo3 hi3 x4 hi4 y σ9
def gR (N : Nat) (ρ : Nat → Nat → Nat) (frm : Int32) (fld n1 A0 A1 A2 A3 : Nat) (x2 x3 : Int64) (lo3 hi3 : Int32) (x4 : Int64) (hi4 : Int32) (σ : St) : Option (Int32 × St) :=
  bnd (f_X12_newName N ρ 90 frm (σ.1 90 fld) σ) fun _ σ2 => nmd (σ2.1 90 fld) fun y4 => gR0 N ρ fld n1 A0 A1 A2 A3 x2 x3 lo3 hi3 x4 hi4 y4 σ2
theorem gR_h {N : Nat} {ρ : Nat → Nat → Nat} {σ : St} : f_X12_readHearth N ρ 90 σ = gR N ρ 0 44 6 (ρ 90 28) (ρ 90 29) (ρ 90 30) (ρ 90 31) 448377484921 1919905645 1 5 2002874989 9 σ := rfl
theorem gR_s {N : Nat} {ρ : Nat → Nat → Nat} {σ : St} : f_X12_readStool N ρ 90 σ = gR N ρ 6 45 5 (ρ 90 32) (ρ 90 33) (ρ 90 34) (ρ 90 35) 126943973305959 427121010020 0 3 1684369012 99 σ := rfl
def FQ (τ : Tape) (e : Flt) (σ : St) (_ : Int32) (σ' : St) : Prop := FMd τ e σ' ∧ KG σ σ'
theorem fq_tr {τ : Tape} {e : Flt} {σ σ1 : St} {o : Option (Int32 × St)} (h : Ok o (FQ τ e σ1)) (k : KG σ σ1) : Ok o (FQ τ e σ) := ok_mono h (fun _ _ z => ⟨z.1, kg_trans k z.2⟩)
/-- behind a fault -/
theorem gR4_f {fld : Nat} {τ : Tape} {e : Flt} {σ : St} (h : FMd τ e σ) : Ok (gR4 fld σ) (FQ τ e σ) := by
  unfold gR4
  exact ok_neg (fm_nz h).1 (ok_ret ⟨h, fun _ _ => rfl⟩)
theorem wr_f {τ : Tape} {e : Flt} {A n1 : Nat} {y r : Int32} {σ : St} {G : St → Option (Int32 × St)} (hy : ib y n1 = true) (hA : A ≠ 90) (h : FMd τ e σ) (hG : ∀ σ', FMd τ e σ' → Ok (G σ') (FQ τ e σ')) : Ok (gd (ib y n1) <| nmd (sI σ A y.toNatClampNeg r) fun σ24 => G σ24) (FQ τ e σ) := by
  refine ok_gd hy (ok_sI2 fun σ1 n1 u1 f1 => ?_)
  have e90 : σ1.1 90 = σ.1 90 := n1 90 (fun z => hA z.symm)
  exact fq_tr (hG σ1 (FMd_cg h (by rw [e90]) (by rw [e90]))) (kg_o e90)
theorem gR3_f {N : Nat} {ρ : Nat → Nat → Nat} {fld n1 A3 : Nat} {x4 : Int64} {hi4 y : Int32} {τ : Tape} {e : Flt} {σ : St} (hy : ib y n1 = true) (h3 : A3 ≠ 90) (h : FMd τ e σ) : Ok (gR3 N ρ fld n1 A3 x4 hi4 y σ) (FQ τ e σ) := by
  unfold gR3
  rw [bnd_e (opt_f (fm_nz h).1)]
  exact wr_f hy h3 h (fun σ' h' => gR4_f h')
theorem gR2_f {N : Nat} {ρ : Nat → Nat → Nat} {fld n1 A2 A3 : Nat} {x3 x4 : Int64} {lo3 hi3 hi4 y : Int32} {τ : Tape} {e : Flt} {σ : St} (hy : ib y n1 = true) (h2 : A2 ≠ 90) (h3 : A3 ≠ 90) (h : FMd τ e σ) : Ok (gR2 N ρ fld n1 A2 A3 x3 lo3 hi3 x4 hi4 y σ) (FQ τ e σ) := by
  unfold gR2
  rw [bnd_e (opt_f (fm_nz h).1)]
  exact wr_f hy h2 h (fun σ' h' => gR3_f hy h3 h')
theorem gR1_f {N : Nat} {ρ : Nat → Nat → Nat} {fld n1 A1 A2 A3 : Nat} {x2 x3 x4 : Int64} {lo3 hi3 hi4 y : Int32} {τ : Tape} {e : Flt} {σ : St} (hy : ib y n1 = true) (h1 : A1 ≠ 90) (h2 : A2 ≠ 90) (h3 : A3 ≠ 90) (h : FMd τ e σ) : Ok (gR1 N ρ fld n1 A1 A2 A3 x2 x3 lo3 hi3 x4 hi4 y σ) (FQ τ e σ) := by
  unfold gR1
  rw [bnd_e (told_f (fm_nz h).2)]
  exact wr_f hy h1 h (fun σ' h' => gR2_f hy h2 h3 h')
theorem gR0_f {N : Nat} {ρ : Nat → Nat → Nat} {fld n1 A0 A1 A2 A3 : Nat} {x2 x3 x4 : Int64} {lo3 hi3 hi4 y : Int32} {τ : Tape} {e : Flt} {σ : St} (hy : ib y n1 = true) (h0 : A0 ≠ 90) (h1 : A1 ≠ 90) (h2 : A2 ≠ 90) (h3 : A3 ≠ 90) (h : FMd τ e σ) : Ok (gR0 N ρ fld n1 A0 A1 A2 A3 x2 x3 lo3 hi3 x4 hi4 y σ) (FQ τ e σ) := by
  unfold gR0
  rw [bnd_e (told_f (fm_nz h).2)]
  exact wr_f hy h0 h (fun σ' h' => gR1_f hy h1 h2 h3 h')
def RcM (τ : Tape) (b : Nat) (D : Dr) (w : List Nat) (σ : St) (o : (Nat × (Nat → Nat)) ⊕ Flt) (_ : Int32) (σ' : St) : Prop := (match o with
  | .inl (p', v) => LMd τ p' σ' ∧ DM (upR D b w v) σ'
  | .inr e => FMd τ e σ') ∧ KG σ σ'
theorem rcM_tr {τ : Tape} {b : Nat} {D : Dr} {w : List Nat} {σ σ1 : St} {r : (Nat × (Nat → Nat)) ⊕ Flt} {o : Option (Int32 × St)} (h : Ok o (RcM τ b D w σ1 r)) (k : KG σ σ1) : Ok o (RcM τ b D w σ r) := ok_mono h (fun _ _ z => ⟨z.1, kg_trans k z.2⟩)
theorem rcM_f {τ : Tape} {b : Nat} {D : Dr} {w : List Nat} {σ σ1 : St} {e : Flt} {o : Option (Int32 × St)} (h : Ok o (FQ τ e σ1)) (k : KG σ σ1) : Ok o (RcM τ b D w σ (.inr e)) := ok_mono h (fun _ _ z => ⟨z.1, kg_trans k z.2⟩)
theorem toldM_k {N t p k lo hi : Nat} {τ : Tape} {x : Int64} {a b : Int32} {σ : St} {G : Int32 → St → Option (Int32 × St)} {Q : Int32 → St → Prop} (hN : 20000 ≤ N) (hb : ∀ j, j < τ.1 → τ.2 j < 256) (hk1 : 1 ≤ k) (hk2 : k ≤ 19) (hx : x = lO (vM (WL k))) (hlo : lo < 10000) (hhi : hi < 10000) (ea : a = nI lo) (eb : b = nI hi) (h : LMd τ p σ)
    (ok : ∀ p' v σ', tdP τ p k lo hi = .inl (p', v) → LMd τ p' σ' → KT σ σ' → Ok (G (nI v) σ') Q) (bad : ∀ e r σ', tdP τ p k lo hi = .inr e → FMd τ e σ' → KT σ σ' → Ok (G r σ') Q) : Ok (bnd (f_X12_told N (RR t) 90 x a b σ) fun r σ' => G r σ') Q := by
  refine ok_call (s_toldM hN hb hk1 hk2 hx hlo hhi ea eb h) (fun r σ' z => ?_)
  obtain ⟨z1, z2⟩ := z
  revert z1 ok bad
  cases tdP τ p k lo hi with
  | inl q =>
    obtain ⟨p', v⟩ := q
    intro ok _ z1
    obtain ⟨z3, rfl⟩ := z1
    exact ok p' v σ' rfl z3 z2
  | inr e =>
    intro _ bad z1
    exact bad e r σ' rfl z1 z2
theorem optM_k {N t p k lo hi : Nat} {τ : Tape} {x : Int64} {a b : Int32} {σ : St} {G : Int32 → St → Option (Int32 × St)} {Q : Int32 → St → Prop} (hN : 20000 ≤ N) (hb : ∀ j, j < τ.1 → τ.2 j < 256) (hk1 : 1 ≤ k) (hk2 : k ≤ 19) (hx : x = lO (vM (WL k))) (hlo : lo < 10000) (hhi : hi < 10000) (ea : a = nI lo) (eb : b = nI hi) (h : LMd τ p σ)
    (ok : ∀ p' v σ', opP τ p k lo hi = .inl (p', v) → LMd τ p' σ' → KT σ σ' → Ok (G (nI v) σ') Q) (bad : ∀ e r σ', opP τ p k lo hi = .inr e → FMd τ e σ' → KT σ σ' → Ok (G r σ') Q) : Ok (bnd (f_X12_option N (RR t) 90 x a b σ) fun r σ' => G r σ') Q := by
  refine ok_call (s_optM hN hb hk1 hk2 hx hlo hhi ea eb h) (fun r σ' z => ?_)
  obtain ⟨z1, z2⟩ := z
  revert z1 ok bad
  cases opP τ p k lo hi with
  | inl q =>
    obtain ⟨p', v⟩ := q
    intro ok _ z1
    obtain ⟨z3, rfl⟩ := z1
    exact ok p' v σ' rfl z3 z2
  | inr e =>
    intro _ bad z1
    exact bad e r σ' rfl z1 z2
theorem lmd_o {τ : Tape} {p : Nat} {σ σ' : St} {a : Nat} (h : LMd τ p σ) (ha : a ≠ 90 ∧ a ≠ 91) (n : ∀ q, q ≠ a → σ'.1 q = σ.1 q) (f : σ'.2 = σ.2) : LMd τ p σ' := LMd_cg h (fun k _ => by rw [n 90 (fun z => ha.1 z.symm)]) (n 91 (fun z => ha.2 z.symm)) (by rw [f])
