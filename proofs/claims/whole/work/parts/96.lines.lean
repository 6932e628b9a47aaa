/-! LINES: what is told, and the class's small ones -/
abbrev Flt : Type := Nat × Nat
def obn {α β : Type} (x : α ⊕ Flt) (f : α → β ⊕ Flt) : β ⊕ Flt := match x with
  | .inl a => f a
  | .inr e => .inr e
theorem obn_l {α β : Type} {a : α} {f : α → β ⊕ Flt} : obn (.inl a) f = f a := rfl
theorem obn_r {α β : Type} {e : Flt} {f : α → β ⊕ Flt} : obn (.inr e) f = .inr e := rfl
def tdP (τ : Tape) (p k lo hi : Nat) : (Nat × Nat) ⊕ Flt :=
  if tk τ p = k then
    (if tk τ (tn τ p) = 100 then (if lo ≤ tv τ (tn τ p) ∧ tv τ (tn τ p) ≤ hi then .inl (tn τ (tn τ p), tv τ (tn τ p)) else .inr (4, tn τ p)) else .inr (2, tn τ p))
  else .inr (2, p)
def opP (τ : Tape) (p k lo hi : Nat) : (Nat × Nat) ⊕ Flt := if tk τ p = k then tdP τ p k lo hi else .inl (p, lo)
def hasN (nm : Nat → List Nat) (w : List Nat) : Nat → Bool
  | 0 => false
  | n + 1 => decide (nm n = w) || hasN nm w n
theorem hasN_y {nm : Nat → List Nat} {w : List Nat} {i : Nat} (e : nm i = w) : ∀ n, i < n → hasN nm w n = true
  | 0, h => absurd h (Nat.not_lt_zero _)
  | n + 1, h => by
    unfold hasN
    by_cases c : i = n
    · subst c; simp [e]
    · rw [hasN_y e n (by omega), Bool.or_true]
theorem hasN_n {nm : Nat → List Nat} {w : List Nat} : ∀ n, (∀ i, i < n → nm i ≠ w) → hasN nm w n = false
  | 0, _ => rfl
  | n + 1, h => by
    unfold hasN
    rw [hasN_n n (fun i hi => h i (by omega)), Bool.or_false]
    exact decide_eq_false (h n (by omega))
def nmP (τ : Tape) (p n : Nat) (nm : Nat → List Nat) : Nat ⊕ Flt := if tk τ p = 101 then (if hasN nm (tw τ p) n = true then .inr (3, p) else .inl (tn τ p)) else .inr (2, p)
theorem tn_ge {τ : Tape} {p : Nat} : p ≤ tn τ p := by
  have h1 : p ≤ tq τ p := rnP_ge
  unfold tn
  split
  · split
    · omega
    · split <;> omega
  · exact h1
theorem tdP_ge {τ : Tape} {p k lo hi p' v : Nat} (h : tdP τ p k lo hi = .inl (p', v)) : p ≤ p' ∧ p' = tn τ (tn τ p) ∧ lo ≤ v ∧ v ≤ hi := by
  unfold tdP at h
  split at h
  · split at h
    · split at h
      · rename_i c
        cases h
        exact ⟨Nat.le_trans tn_ge tn_ge, rfl, c⟩
      · cases h
    · cases h
  · cases h
theorem opP_ge {τ : Tape} {p k lo hi p' v : Nat} (h : opP τ p k lo hi = .inl (p', v)) (hl : lo ≤ hi) : p ≤ p' ∧ lo ≤ v ∧ v ≤ hi := by
  unfold opP at h
  split at h
  · exact ⟨(tdP_ge h).1, (tdP_ge h).2.2⟩
  · cases h
    exact ⟨Nat.le_refl _, Nat.le_refl _, hl⟩
theorem nmP_ge {τ : Tape} {p n p' : Nat} {nm : Nat → List Nat} (h : nmP τ p n nm = .inl p') : p' = tn τ p ∧ tk τ p = 101 := by
  unfold nmP at h
  split at h
  · rename_i c
    split at h
    · cases h
    · cases h; exact ⟨rfl, c⟩
  · cases h
/-- a fault is one of four -/
theorem tdP_f {τ : Tape} {p k lo hi : Nat} {e : Flt} (h : tdP τ p k lo hi = .inr e) : 1 ≤ e.1 ∧ e.1 ≤ 4 := by
  unfold tdP at h
  split at h
  · split at h
    · split at h
      · cases h
      · cases h; exact ⟨Nat.le_of_ble_eq_true rfl, Nat.le_of_ble_eq_true rfl⟩
    · cases h; exact ⟨Nat.le_of_ble_eq_true rfl, Nat.le_of_ble_eq_true rfl⟩
  · cases h; exact ⟨Nat.le_of_ble_eq_true rfl, Nat.le_of_ble_eq_true rfl⟩
theorem nmP_f {τ : Tape} {p n : Nat} {nm : Nat → List Nat} {e : Flt} (h : nmP τ p n nm = .inr e) : 1 ≤ e.1 ∧ e.1 ≤ 4 := by
  unfold nmP at h
  split at h
  · split at h
    · cases h; exact ⟨Nat.le_of_ble_eq_true rfl, Nat.le_of_ble_eq_true rfl⟩
    · cases h
  · cases h; exact ⟨Nat.le_of_ble_eq_true rfl, Nat.le_of_ble_eq_true rfl⟩
/-- the class's lexer stands at the token from p, no fault yet -/
def LXs (τ : Tape) (p : Nat) (σ : St) : Prop := TapX τ σ ∧ WrdI σ ∧ LexX τ p σ ∧ p ≤ τ.1 ∧ σ.1 3 7 = 0 ∧ σ.1 3 8 = -1
def FXs (τ : Tape) (e : Flt) (σ : St) : Prop := σ.1 3 7 = nI (if tk τ e.2 = 103 then 1 else e.1) ∧ σ.1 3 8 = nI (tq τ e.2)
theorem LX_cg {τ : Tape} {p : Nat} {σ σ' : St} (h : LXs τ p σ) (e : ∀ q, 3 ≤ q → q ≤ 6 → σ'.1 q = σ.1 q ∧ σ'.2 q = σ.2 q) : LXs τ p σ' := by
  obtain ⟨tx, wd, lx, hp, h7, h8⟩ := h
  have e3 := e 3 (by decide) (by decide)
  exact ⟨TapX_cg tx (e 4 (by decide) (by decide)).1 (e 5 (by decide) (by decide)).1, WrdI_cg wd (e 6 (by decide) (by decide)).2, LexX_cg lx e3.1 e3.2, hp, by rw [e3.1]; exact h7, by rw [e3.1]; exact h8⟩
theorem FX_cg {τ : Tape} {e : Flt} {σ σ' : St} (h : FXs τ e σ) (e3 : σ'.1 3 = σ.1 3) : FXs τ e σ' := by
  unfold FXs
  rw [e3]
  exact h
theorem lx_adv {N t p : Nat} {τ : Tape} {σ : St} (hN : 20000 ≤ N) (h : LXs τ p σ) : Ok (f_X5_advance N (RR t) 3 σ) (fun _ σ' => LXs τ (tn τ p) σ' ∧ Ag (fun q => q = 3) σ σ') := by
  obtain ⟨tx, wd, lx, hp, h7, h8⟩ := h
  refine ok_mono (s_advance hN tx wd (tn_le hp) lx.2.2.2.2) (fun r σ' z => ?_)
  obtain ⟨⟨l, e7, e8⟩, a⟩ := z
  exact ⟨⟨TapX_cg tx (a 4 (by decide)).1 (a 5 (by decide)).1, WrdI_cg wd (a 6 (by decide)).2, l, tn_le hp, e7.trans h7, e8.trans h8⟩, a⟩
theorem lx_ref {N t p c : Nat} {τ : Tape} {x : Int32} {σ : St} (hx : x = nI c) (hb : ∀ j, j < τ.1 → τ.2 j < 256) (h : LXs τ p σ) : Ok (f_X5_refuse N (RR t) 3 x σ) (fun r σ' => r = 0 ∧ FXs τ (c, p) σ' ∧ Ag (fun q => q = 3) σ σ') := by
  subst hx
  have hk := tk_lt (p := p) hb
  have lx := h.2.2.1
  unfold f_X5_refuse f_X5_refuse_15
  rw [lx.2.1]
  by_cases h : tk τ p = 103
  · refine ok_pos (by rw [h]; rfl) (ok_sI2 fun σ1 n1 u1 f1 => ok_sI2 fun σ2 n2 u2 f2 => ok_ret ⟨rfl, ⟨?_, ?_⟩, fun q hq => ⟨by rw [n2 q hq, n1 q hq], by rw [f2, f1]⟩⟩)
    · rw [u2, pk_un (by decide), u1, pk_us, if_pos h]; rfl
    · rw [u2, pk_us, u1, pk_un (by decide)]; exact lx.1
  · refine ok_neg (fun z => h ((nI_eq (b := 103) (by omega) (by decide)).mp z)) (ok_sI2 fun σ1 n1 u1 f1 => ok_sI2 fun σ2 n2 u2 f2 => ok_ret ⟨rfl, ⟨?_, ?_⟩, fun q hq => ⟨by rw [n2 q hq, n1 q hq], by rw [f2, f1]⟩⟩)
    · rw [u2, pk_un (by decide), u1, pk_us, if_neg h]
    · rw [u2, pk_us, u1, pk_un (by decide)]; exact lx.1
/-- refused, as a method ends -/
theorem lx_no {N t p c : Nat} {τ : Tape} {x : Int32} {σ : St} {Q : Int32 → St → Prop} (hx : x = nI c) (hb : ∀ j, j < τ.1 → τ.2 j < 256) (h : LXs τ p σ) (k : ∀ σ', FXs τ (c, p) σ' → Ag (fun q => q = 3) σ σ' → Q 0 σ') : Ok (bnd (f_X5_refuse N (RR t) 3 x σ) fun r1 σ2 => gd (bb r1) (some (r1, σ2))) Q := by
  refine ok_call (lx_ref hx hb h) (fun r σ1 z => ?_)
  obtain ⟨rfl, fx, a⟩ := z
  exact ok_gd rfl (ok_ret (k σ1 fx a))
def TdX (τ : Tape) (o : (Nat × Nat) ⊕ Flt) (r : Int32) (σ' : St) : Prop := match o with
  | .inl (p', v) => r = 1 ∧ LXs τ p' σ' ∧ σ'.1 1 5 = nI v
  | .inr e => r = 0 ∧ FXs τ e σ'
def A13 (q : Nat) : Prop := q = 1 ∨ q = 3
theorem s_toldX {N t p k lo hi : Nat} {τ : Tape} {a1 a2 a3 : Int32} {σ : St} (hN : 20000 ≤ N) (hb : ∀ j, j < τ.1 → τ.2 j < 256) (hk : k < 104) (hlo : lo < 10000) (hhi : hi < 10000) (e1 : a1 = nI k) (e2 : a2 = nI lo) (e3 : a3 = nI hi) (h : LXs τ p σ) :
    Ok (f_X7_told N (RR t) 1 a1 a2 a3 σ) (fun r σ' => TdX τ (tdP τ p k lo hi) r σ' ∧ σ'.1 1 4 = σ.1 1 4 ∧ Ag A13 σ σ') := by
  subst e1 e2 e3
  have hk0 := tk_lt (p := p) hb
  have hk1 := tk_lt (p := tn τ p) hb
  unfold f_X7_told f_X7_told_75
  rw [r_1_1 rfl, h.2.2.1.2.1]
  unfold tdP
  by_cases c1 : tk τ p = k
  · rw [if_pos c1]
    refine ok_pos (by rw [c1]) (ok_call (lx_adv hN h) (fun _ σ1 z1 => ?_))
    obtain ⟨h1, ag1⟩ := z1
    rw [h1.2.2.1.2.1]
    have y4 : σ1.1 1 4 = σ.1 1 4 := by rw [(ag1 1 (by decide)).1]
    by_cases c2 : tk τ (tn τ p) = 100
    · rw [if_pos c2]
      refine ok_pos (by rw [c2]; rfl) (ok_sI2 fun σ2 n2 u2 f2 => ?_)
      have h2 : LXs τ (tn τ p) σ2 := LX_cg h1 (fun q q1 q2 => ⟨n2 q (by omega), by rw [f2]⟩)
      have v2 : σ2.1 1 5 = nI (tv τ (tn τ p)) := by rw [u2, pk_us]; exact h1.2.2.1.2.2.1 c2
      have hv := tv_lt c2
      have z4 : σ2.1 1 4 = σ.1 1 4 := by rw [u2, pk_un (by decide)]; exact y4
      have z : Ag A13 σ σ2 := fun q hq => ⟨by rw [n2 q (fun z => hq (Or.inl z))]; exact (ag1 q (fun z => hq (Or.inr z))).1, by rw [f2]; exact (ag1 q (fun z => hq (Or.inr z))).2⟩
      have fin : ∀ σ3, Ag (fun q => q = 3) σ2 σ3 → σ3.1 1 4 = σ.1 1 4 ∧ Ag A13 σ σ3 := fun σ3 a3 => ⟨by rw [(a3 1 (by decide)).1]; exact z4, ag_trans z (ag_mono a3 (fun _ hq => Or.inr hq))⟩
      rw [v2]
      by_cases c3 : lo ≤ tv τ (tn τ p)
      · refine ok_neg (nI_nlt c3 (by omega)) ?_
        by_cases c4 : tv τ (tn τ p) ≤ hi
        · rw [if_pos (show lo ≤ tv τ (tn τ p) ∧ tv τ (tn τ p) ≤ hi from ⟨c3, c4⟩)]
          refine ok_pos (nI_le c4 (by omega)) (ok_call (lx_adv hN h2) (fun _ σ3 z3 => ?_))
          obtain ⟨h3, a3⟩ := z3
          exact ok_ret ⟨⟨rfl, h3, by rw [(a3 1 (by decide)).1]; exact v2⟩, fin σ3 a3⟩
        · rw [if_neg (show ¬ (lo ≤ tv τ (tn τ p) ∧ tv τ (tn τ p) ≤ hi) from fun z => c4 z.2)]
          exact ok_neg (nI_ge (show hi < tv τ (tn τ p) by omega) (by omega)) (lx_no rfl hb h2 (fun σ3 fx a3 => ⟨⟨rfl, fx⟩, fin σ3 a3⟩))
      · rw [if_neg (show ¬ (lo ≤ tv τ (tn τ p) ∧ tv τ (tn τ p) ≤ hi) from fun z => c3 z.1)]
        exact ok_pos (nI_lt (by omega) (by omega)) (lx_no rfl hb h2 (fun σ3 fx a3 => ⟨⟨rfl, fx⟩, fin σ3 a3⟩))
    · rw [if_neg c2]
      refine ok_neg (tk_ne (a := 100) hk1 (by decide) c2) (lx_no rfl hb h1 (fun σ3 fx a3 => ⟨⟨rfl, fx⟩, by rw [(a3 1 (by decide)).1]; exact y4, ag_trans (ag_mono ag1 (fun _ hq => Or.inr hq)) (ag_mono a3 (fun _ hq => Or.inr hq))⟩))
  · rw [if_neg c1]
    exact ok_neg (tk_ne hk0 hk c1) (lx_no rfl hb h (fun σ3 fx a3 => ⟨⟨rfl, fx⟩, by rw [(a3 1 (by decide)).1], ag_mono a3 (fun _ hq => Or.inr hq)⟩))
/-- a new name -/
def NmX (τ : Tape) (o : Nat ⊕ Flt) (r : Int32) (σ' : St) : Prop := match o with
  | .inl p' => r = 1 ∧ LXs τ p' σ'
  | .inr e => r = 0 ∧ FXs τ e σ'
theorem nm_cmp {w w' : List Nat} {x y : Int64} (hw : okW w) (hw' : okW w') (ex : x = lO (vX w)) (ey : y = lO (vX w')) : lg_cmp x y = 0 ↔ w = w' := by
  rw [lg_0, ex, ey]
  constructor
  · intro e
    exact vX_inj hw.2 hw'.2 (lO_inj (Nat.lt_trans (vX_b hw) (by decide)) (Nat.lt_trans (vX_b hw') (by decide)) e)
  · intro e
    rw [e]
def NnQ (τ : Tape) (p q n : Nat) (o : Nat ⊕ Flt) (σ : St) (r : Int32) (σ' : St) : Prop := NmX τ o r σ' ∧ (r = 1 → okW (tw τ p) ∧ ∀ i, σ'.2 q i = if i = n then lO (vX (tw τ p)) else σ.2 q i) ∧ Ag (fun x => x = 3 ∨ x = q) σ σ' ∧ σ'.1 q = σ.1 q
theorem s_newNameX {N t p q n n1 : Nat} {τ : Tape} {nm : Nat → List Nat} {σ : St} (hN : 20000 ≤ N) (hb : ∀ j, j < τ.1 → τ.2 j < 256) (hq : q = 7 ∨ q = 8) (hn : n < n1) (hn1 : n1 ≤ 6) (hnm : ∀ i, i < n → okW (nm i) ∧ σ.2 q i = lO (vX (nm i))) (h : LXs τ p σ) :
    Ok (f_X7_newName N (RR t) 1 q n1 (nI n) σ) (NnQ τ p q n (nmP τ p n nm) σ) := by
  have hk0 := tk_lt (p := p) hb
  have no : ∀ c x, x = nI c → Ok (bnd (f_X5_refuse N (RR t) 3 x σ) fun r1 σ2 => gd (bb r1) (some (r1, σ2))) (NnQ τ p q n (.inr (c, p)) σ) := fun c x hx => lx_no hx hb h (fun σ3 fx a3 => ⟨⟨rfl, fx⟩, fun z => absurd z (by decide), ag_mono a3 (fun _ hx => Or.inl hx), (a3 q (by omega)).1⟩)
  unfold f_X7_newName f_X7_newName_18
  rw [r_1_1 rfl, h.2.2.1.2.1]
  unfold nmP
  by_cases c1 : tk τ p = 101
  · rw [if_pos c1]
    have hw := tw_ok (tk_word hb (Or.inr c1)).1
    have ew : σ.2 3 6 = lO (vX (tw τ p)) := h.2.2.1.2.2.2.1 (Or.inr c1)
    refine ok_pos (by rw [c1]; rfl) (ok_pos (nI_lt hn (by omega)) ?_)
    have loop : ∀ m i, n - i < m → i ≤ n → (∀ j, j < i → nm j ≠ tw τ p) → Ok (f_X7_newName_29 N (RR t) 1 q n1 (nI n) m (nI i) σ) (NnQ τ p q n (if hasN nm (tw τ p) n = true then .inr (3, p) else .inl (tn τ p)) σ) := by
      intro m
      induction m with
      | zero => intro i hi; exact absurd hi (Nat.not_lt_zero _)
      | succ m ih =>
        intro i hi hin hne
        show Ok (b_X7_newName_29 N (RR t) 1 q n1 (nI n) (f_X7_newName_29 N (RR t) 1 q n1 (nI n) m) (nI i) σ) _
        unfold b_X7_newName_29
        rw [r_1_1 rfl, nI_clamp (show i < 2 ^ 31 by omega), nI_clamp (show n < 2 ^ 31 by omega), nI_1 i]
        by_cases hi2 : i = n
        · subst hi2
          rw [hasN_n i hne, if_neg (show ¬ false = true by decide)]
          refine ok_pos (Int32.le_refl _) (ok_gd (ib_nI hn (by omega)) (ok_sJ fun σ1 e1 u1 n2 => ?_))
          have h1 : LXs τ p σ1 := LX_cg h (fun x x1 x2 => ⟨by rw [e1], n2 x (by omega)⟩)
          refine ok_call (lx_adv hN h1) (fun _ σ2 z2 => ?_)
          obtain ⟨h2, a2⟩ := z2
          refine ok_ret ⟨⟨rfl, h2⟩, fun _ => ⟨hw, fun j => ?_⟩, fun x hx => ⟨?_, ?_⟩, ?_⟩
          · rw [(a2 q (by omega)).2, u1, ew]
          · rw [(a2 x (fun z => hx (Or.inl z))).1, e1]
          · rw [(a2 x (fun z => hx (Or.inl z))).2, n2 x (fun z => hx (Or.inr z))]
          · rw [(a2 q (by omega)).1, e1]
        · have hil : i < n := by omega
          refine ok_neg (nI_ge hil (by omega)) (ok_gd (ib_nI (by omega) (by omega)) ?_)
          have hc := nm_cmp (hnm i hil).1 hw (hnm i hil).2 ew
          by_cases c2 : nm i = tw τ p
          · rw [hasN_y c2 n hil, if_pos (show true = true from rfl)]
            exact ok_pos (hc.mpr c2) (no 3 3 rfl)
          · refine ok_neg (fun z => c2 (hc.mp z)) (ih (i + 1) (by omega) (by omega) (fun j hj => ?_))
            by_cases e : j = i
            · subst e; exact c2
            · exact hne j (by omega)
    exact loop N 0 (by omega) (Nat.zero_le _) (fun j hj => absurd hj (Nat.not_lt_zero _))
  · rw [if_neg c1]
    exact ok_neg (tk_ne (a := 101) hk0 (by decide) c1) (no 2 2 rfl)
