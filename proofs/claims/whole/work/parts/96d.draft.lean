/-! THE DRAFT, as both hold it -/
abbrev Dr : Type := CDat × (Nat → Nat → List Nat) × (Nat × Nat) × (Nat → Bool)
abbrev dc (D : Dr) : CDat := D.1
abbrev dn (D : Dr) : Nat → Nat → List Nat := D.2.1
abbrev db (D : Dr) : Nat := D.2.2.1.1
abbrev dw (D : Dr) : Nat := D.2.2.1.2
abbrev dh (D : Dr) : Nat → Bool := D.2.2.2
def cn (c : CDat) (b : Nat) : Nat := if b = 0 then nh c else ns c
def twd (a b c : Bool) : Int32 := ((if a = true then 131072 else 0) ||| (if b = true then 262144 else 0)) ||| (if c = true then 524288 else 0)
def DX (d : Nat) (D : Dr) (σ : St) : Prop := RepC d (dc D) σ ∧ FrX (d + 9) (fb (dc D)) (db D) σ ∧ FrX (d + 12) (fw (dc D)) (dw D) σ ∧ (∀ b i, b < 2 → i < cn (dc D) b → σ.2 (7 + b) i = lO (vX (dn D b i))) ∧ σ.1 1 4 = twd (dh D 0) (dh D 1) (dh D 2)
def DM (D : Dr) (σ : St) : Prop :=
  ((∀ b, b < 2 → σ.1 90 (44 + b) = nI (cn (dc D) b)) ∧ (∀ j, j < 3 → σ.1 90 (46 + j) = nI (dt (dc D) 8 j)) ∧ (∀ j, j < 3 → σ.1 90 (53 + j) = fl (dh D j)) ∧ σ.1 90 22 = nI (db D + dw D)) ∧
  (σ.1 101 0 = fl (decide (fb (dc D) ≠ [])) ∧ σ.1 101 1 = fl (decide (fw (dc D) ≠ []))) ∧
  (∀ k i, k < 8 → i < cn (dc D) (k / 4) → σ.1 (103 + k) i = nI (dt (dc D) k i)) ∧
  (∀ b i, b < 2 → i < cn (dc D) b → σ.2 92 (6 * b + i) = lO (vM (dn D b i))) ∧
  (fb (dc D) ≠ [] → EmM 0 (fb (dc D)) σ) ∧ (fw (dc D) ≠ [] → EmM 1 (fw (dc D)) σ)
def WfD (D : Dr) : Prop := WfC (dc D) ∧ (db D ≤ 30 ∧ dw D ≤ 30 ∧ (fb (dc D) = [] → db D = 0) ∧ (fw (dc D) = [] → dw D = 0) ∧ dt (dc D) 8 3 = db D + dw D) ∧ ∀ b i, b < 2 → i < cn (dc D) b → okW (dn D b i)
/-- the counted arrays, alike -/
theorem rc_arr {t : Nat} {c : CDat} {σ : St} (h : RepC t c σ) {k i : Nat} (hk : k < 8) (hi : i < cn c (k / 4)) : σ.1 (t + 1 + k) i = nI (dt c k i) := by
  by_cases h4 : k < 4
  · rw [show k / 4 = 0 by omega] at hi
    exact h.2.2.2.2.2.1 k i h4 hi
  · rw [show k / 4 = 1 by omega] at hi
    exact h.2.2.2.2.2.2.1 k i (by omega) hk hi
theorem rc_of {t : Nat} {c : CDat} {σ : St} (h1 : ∀ b, b < 2 → σ.1 t (11 + b) = nI (cn c b)) (h2 : ∀ j, j < 3 → σ.1 t (13 + j) = nI (dt c 8 j)) (h3 : ∀ k i, k < 8 → i < cn c (k / 4) → σ.1 (t + 1 + k) i = nI (dt c k i)) (h4 : σ.1 (t + 9) 2 = nI (fb c).length ∧ (∀ j, j < (fb c).length → σ.1 (t + 10) j = encC ((fb c).getD j (.inl 0))) ∧ σ.1 (t + 12) 2 = nI (fw c).length ∧ (∀ j, j < (fw c).length → σ.1 (t + 13) j = encC ((fw c).getD j (.inl 0))) ∧ σ.1 (t + 9) 3 + σ.1 (t + 12) 3 = nI (dt c 8 3)) : RepC t c σ :=
  ⟨h1 0 (by decide), h1 1 (by decide), h2 0 (by decide), h2 1 (by decide), h2 2 (by decide), fun k i a b => h3 k i (by omega) (by rw [show k / 4 = 0 by omega]; exact b), fun k i a b e => h3 k i b (by rw [show k / 4 = 1 by omega]; exact e), h4⟩
theorem rc_to {t : Nat} {c : CDat} {σ : St} (h : RepC t c σ) : (∀ b, b < 2 → σ.1 t (11 + b) = nI (cn c b)) ∧ (∀ j, j < 3 → σ.1 t (13 + j) = nI (dt c 8 j)) ∧ (σ.1 (t + 9) 2 = nI (fb c).length ∧ (∀ j, j < (fb c).length → σ.1 (t + 10) j = encC ((fb c).getD j (.inl 0))) ∧ σ.1 (t + 12) 2 = nI (fw c).length ∧ (∀ j, j < (fw c).length → σ.1 (t + 13) j = encC ((fw c).getD j (.inl 0))) ∧ σ.1 (t + 9) 3 + σ.1 (t + 12) 3 = nI (dt c 8 3)) := by
  refine ⟨fun b hb => ?_, fun j hj => ?_, h.2.2.2.2.2.2.2⟩
  · rcases (show b = 0 ∨ b = 1 by omega) with rfl | rfl
    · exact h.1
    · exact h.2.1
  · rcases (show j = 0 ∨ j = 1 ∨ j = 2 by omega) with rfl | rfl | rfl
    · exact h.2.2.1
    · exact h.2.2.2.1
    · exact h.2.2.2.2.1
theorem DX_cg {d : Nat} {D : Dr} {σ σ' : St} (h : DX d D σ) (e : ∀ q, d ≤ q → q ≤ d + 13 → σ'.1 q = σ.1 q) (e7 : ∀ b i, b < 2 → i < cn (dc D) b → σ'.2 (7 + b) i = σ.2 (7 + b) i) (e1 : σ'.1 1 4 = σ.1 1 4) : DX d D σ' := by
  obtain ⟨h1, h2, h3, h4, h5⟩ := h
  exact ⟨RepC_cg h1 (fun p a b _ => e p a b), FrX_cg h2 (e _ (by omega) (by omega)) (e _ (by omega) (by omega)), FrX_cg h3 (e _ (by omega) (by omega)) (e _ (by omega) (by omega)), fun b i hb hi => by rw [e7 b i hb hi]; exact h4 b i hb hi, by rw [e1]; exact h5⟩
/-- a number written behind the counted ones -/
theorem DX_wr {d k i : Nat} {D : Dr} {x : Int32} {σ σ' : St} (h : DX d D σ) (hd : 9 ≤ d) (hk : k < 8) (hi : cn (dc D) (k / 4) ≤ i) (n : ∀ q, q ≠ d + 1 + k → σ'.1 q = σ.1 q) (u : σ'.1 (d + 1 + k) = upd (σ.1 (d + 1 + k)) i x) (f : σ'.2 = σ.2) : DX d D σ' := by
  obtain ⟨h1, h2, h3, h4, h5⟩ := h
  obtain ⟨r1, r2, r3⟩ := rc_to h1
  refine ⟨rc_of (fun b hb => by rw [n d (by omega)]; exact r1 b hb) (fun j hj => by rw [n d (by omega)]; exact r2 j hj) (fun k' i' hk' hi' => ?_) ?_, FrX_cg h2 (n _ (by omega)) (n _ (by omega)), FrX_cg h3 (n _ (by omega)) (n _ (by omega)), fun b i hb hi => by rw [f]; exact h4 b i hb hi, by rw [n 1 (by omega)]; exact h5⟩
  · by_cases e : k' = k
    · subst e
      rw [u, pk_un (by omega)]
      exact rc_arr h1 hk hi'
    · rw [n _ (by omega)]
      exact rc_arr h1 hk' hi'
  · rw [n (d + 9) (by omega), n (d + 10) (by omega), n (d + 12) (by omega), n (d + 13) (by omega)]
    exact r3
/-- a line of a hearth (b = 0) or of a stool (b = 1) -/
def upR (D : Dr) (b : Nat) (w : List Nat) (v : Nat → Nat) : Dr := (((if b = 0 then nh (dc D) + 1 else nh (dc D), if b = 0 then ns (dc D) else ns (dc D) + 1), (fun k i => if k / 4 = b ∧ i = cn (dc D) b then v (k % 4) else dt (dc D) k i), (fb (dc D), fw (dc D))), (fun x i => if x = b ∧ i = cn (dc D) b then w else dn D x i), (db D, dw D), dh D)
theorem cn_up {D : Dr} {b x : Nat} {w : List Nat} {v : Nat → Nat} (hb : b < 2) (hx : x < 2) : cn (dc (upR D b w v)) x = if x = b then cn (dc D) b + 1 else cn (dc D) x := by
  rcases (show b = 0 ∨ b = 1 by omega) with rfl | rfl <;> rcases (show x = 0 ∨ x = 1 by omega) with rfl | rfl <;> rfl
theorem up_y {D : Dr} {b k i : Nat} {w : List Nat} {v : Nat → Nat} (h1 : k / 4 = b) (h2 : i = cn (dc D) b) : dt (dc (upR D b w v)) k i = v (k % 4) := if_pos ⟨h1, h2⟩
theorem up_n {D : Dr} {b k i : Nat} {w : List Nat} {v : Nat → Nat} (h : ¬ (k / 4 = b ∧ i = cn (dc D) b)) : dt (dc (upR D b w v)) k i = dt (dc D) k i := if_neg h
def rcOk (b : Nat) (v : Nat → Nat) : Prop := v 0 ≤ 99 ∧ v 1 ≤ 99 ∧ (if b = 0 then 1 ≤ v 2 ∧ v 2 ≤ 5 ∧ v 3 ≤ 9 else v 2 ≤ 3 ∧ v 3 ≤ 99)
theorem up_wf {D : Dr} {b : Nat} {w : List Nat} {v : Nat → Nat} (hb : b < 2) (h : WfD D) (hw : okW w) (hv : rcOk b v) (hc : cn (dc D) b < 6 - b) : WfD (upR D b w v) := by
  obtain ⟨⟨w1, w2, w3, w4, w5⟩, w6, w7⟩ := h
  obtain ⟨v0, v1, v2⟩ := hv
  refine ⟨?_, ⟨w6.1, w6.2.1, w6.2.2.1, w6.2.2.2.1, by rw [up_n (by omega)]; exact w6.2.2.2.2⟩, fun x i hx hi => ?_⟩
  · rcases (show b = 0 ∨ b = 1 by omega) with rfl | rfl
    · have hc : nh (dc D) < 6 := hc
      have v2 : 1 ≤ v 2 ∧ v 2 ≤ 5 ∧ v 3 ≤ 9 := v2
      refine ⟨by show nh (dc D) + 1 ≤ 6; omega, w2, fun i hi => ?_, fun i hi => w4 i hi, w5⟩
      have hi : i < nh (dc D) + 1 := hi
      by_cases e : i = cn (dc D) 0
      · rw [up_y (k := 0) rfl e, up_y (k := 1) rfl e, up_y (k := 2) rfl e, up_y (k := 3) rfl e]
        exact ⟨v0, v1, v2⟩
      · rw [up_n (k := 0) (fun z => e z.2), up_n (k := 1) (fun z => e z.2), up_n (k := 2) (fun z => e z.2), up_n (k := 3) (fun z => e z.2)]
        have e : i ≠ nh (dc D) := e
        exact w3 i (by omega)
    · have hc : ns (dc D) < 5 := hc
      have v2 : v 2 ≤ 3 ∧ v 3 ≤ 99 := v2
      refine ⟨w1, by show ns (dc D) + 1 ≤ 5; omega, fun i hi => w3 i hi, fun i hi => ?_, w5⟩
      have hi : i < ns (dc D) + 1 := hi
      by_cases e : i = cn (dc D) 1
      · rw [up_y (k := 4) rfl e, up_y (k := 5) rfl e, up_y (k := 6) rfl e, up_y (k := 7) rfl e]
        exact ⟨v0, v1, v2⟩
      · rw [up_n (k := 4) (fun z => e z.2), up_n (k := 5) (fun z => e z.2), up_n (k := 6) (fun z => e z.2), up_n (k := 7) (fun z => e z.2)]
        have e : i ≠ ns (dc D) := e
        exact w4 i (by omega)
  · rw [cn_up hb hx] at hi
    show okW (if x = b ∧ i = cn (dc D) b then w else dn D x i)
    by_cases e : x = b ∧ i = cn (dc D) b
    · rw [if_pos e]; exact hw
    · rw [if_neg e]
      by_cases ex : x = b
      · subst ex
        rw [if_pos rfl] at hi
        exact w7 x i hx (by have : i ≠ cn (dc D) x := fun z => e ⟨rfl, z⟩; omega)
      · rw [if_neg ex] at hi
        exact w7 x i hx hi
/-- what stands of a line so far -/
def MidX (d b : Nat) (D : Dr) (w : List Nat) (n : Nat) (v : Nat → Nat) (σ : St) : Prop := DX d D σ ∧ σ.2 (7 + b) (cn (dc D) b) = lO (vX w) ∧ ∀ j, j < n → σ.1 (d + 1 + (4 * b + j)) (cn (dc D) b) = nI (v j)
theorem mid_told {d b n : Nat} {D : Dr} {w : List Nat} {v : Nat → Nat} {σ σ' : St} (hd : 9 ≤ d) (hb : b < 2) (hn : n ≤ 4) (h : MidX d b D w n v σ) (a : Ag A13 σ σ') (e : σ'.1 1 4 = σ.1 1 4) : MidX d b D w n v σ' :=
  ⟨DX_cg h.1 (fun q q1 q2 => (a q (by unfold A13; omega)).1) (fun x i hx _ => by rw [(a (7 + x) (by unfold A13; omega)).2]) e, by rw [(a (7 + b) (by unfold A13; omega)).2]; exact h.2.1, fun j hj => by rw [(a (d + 1 + (4 * b + j)) (by unfold A13; omega)).1]; exact h.2.2 j hj⟩
theorem mid_wr {d b n : Nat} {D : Dr} {w : List Nat} {v : Nat → Nat} {σ σ' : St} (hd : 9 ≤ d) (hb : b < 2) (hn : n < 4) (h : MidX d b D w n v σ) (ne : ∀ q, q ≠ d + 1 + (4 * b + n) → σ'.1 q = σ.1 q) (u : σ'.1 (d + 1 + (4 * b + n)) = upd (σ.1 (d + 1 + (4 * b + n))) (cn (dc D) b) (nI (v n))) (f : σ'.2 = σ.2) : MidX d b D w (n + 1) v σ' := by
  refine ⟨DX_wr h.1 hd (by omega) (by rw [show (4 * b + n) / 4 = b by omega]; exact Nat.le_refl _) ne u f, by rw [f]; exact h.2.1, fun j hj => ?_⟩
  by_cases e : j = n
  · subst e
    rw [u, pk_us]
  · rw [ne _ (by omega)]
    exact h.2.2 j (by omega)
theorem mid_end {d b : Nat} {D : Dr} {w : List Nat} {v : Nat → Nat} {σ σ' : St} (hd : 9 ≤ d) (hb : b < 2) (h : MidX d b D w 4 v σ) (ne : ∀ q, q ≠ d → σ'.1 q = σ.1 q) (u : σ'.1 d = upd (σ.1 d) (11 + b) (nI (cn (dc D) b + 1))) (f : σ'.2 = σ.2) : DX d (upR D b w v) σ' := by
  obtain ⟨⟨h1, h2, h3, h4, h5⟩, h6, h7⟩ := h
  obtain ⟨r1, r2, r3⟩ := rc_to h1
  refine ⟨rc_of (fun x hx => ?_) (fun j hj => ?_) (fun k i hk hi => ?_) ?_, FrX_cg h2 (ne _ (by omega)) (ne _ (by omega)), FrX_cg h3 (ne _ (by omega)) (ne _ (by omega)), fun x i hx hi => ?_, by rw [ne 1 (by omega)]; exact h5⟩
  · rw [cn_up hb hx, u]
    by_cases e : x = b
    · subst e; rw [pk_us, if_pos rfl]
    · rw [pk_un (by omega), if_neg e]; exact r1 x hx
  · rw [u, pk_un (by omega)]
    show σ.1 d (13 + j) = nI (if 8 / 4 = b ∧ j = cn (dc D) b then v (8 % 4) else dt (dc D) 8 j)
    rw [if_neg (by omega)]
    exact r2 j hj
  · rw [ne _ (by omega)]
    rw [cn_up hb (by omega)] at hi
    show σ.1 (d + 1 + k) i = nI (if k / 4 = b ∧ i = cn (dc D) b then v (k % 4) else dt (dc D) k i)
    by_cases e : k / 4 = b ∧ i = cn (dc D) b
    · rw [if_pos e, e.2, ← h7 (k % 4) (by omega), show 4 * b + k % 4 = k by omega]
    · rw [if_neg e]
      refine rc_arr h1 hk ?_
      by_cases ex : k / 4 = b
      · rw [if_pos ex] at hi
        have : i ≠ cn (dc D) b := fun z => e ⟨ex, z⟩
        rw [ex]
        omega
      · rw [if_neg ex] at hi
        exact hi
  · rw [ne (d + 9) (by omega), ne (d + 10) (by omega), ne (d + 12) (by omega), ne (d + 13) (by omega)]
    show _ ∧ _ ∧ _ ∧ _ ∧ _ = nI (if 8 / 4 = b ∧ 3 = cn (dc D) b then v (8 % 4) else dt (dc D) 8 3)
    rw [if_neg (by omega)]
    exact r3
  · rw [cn_up hb hx] at hi
    rw [f]
    show σ.2 (7 + x) i = lO (vX (if x = b ∧ i = cn (dc D) b then w else dn D x i))
    by_cases e : x = b ∧ i = cn (dc D) b
    · rw [if_pos e, e.1, e.2]; exact h6
    · rw [if_neg e]
      refine h4 x i hx ?_
      by_cases ex : x = b
      · rw [if_pos ex] at hi
        have : i ≠ cn (dc D) b := fun z => e ⟨ex, z⟩
        rw [ex]
        omega
      · rw [if_neg ex] at hi
        exact hi
