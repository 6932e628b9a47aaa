/-! a heap of whole cells, read as a flat one -/
def kindOf (e : va_E) : Nat × Nat := match e with
  | .inl a => (a.1 + 1, a.2.1)
  | .inr o => (0, o.1)
def rfAt (fs : List Value) (j : Nat) : Nat := match fs[j]? with
  | some (.ref x) => x
  | _ => 0
def inAt (fs : List Value) (j : Nat) : Int32 := match fs[j]? with
  | some (.int x) => x
  | _ => 0
def loAt (fs : List Value) (j : Nat) : Int64 := match fs[j]? with
  | some (.long x) => x
  | _ => 0
def rhoOf (μ : HL) (p j : Nat) : Nat := match μ[p]? with
  | some (.inr o) => rfAt o.2 j
  | some (.inl (_, _, .inr (.inr (.inr (.inr f))))) => (f j).getD 0
  | _ => 0
def sgI (μ : HL) (p j : Nat) : Int32 := match μ[p]? with
  | some (.inr o) => inAt o.2 j
  | some (.inl (_, _, .inl f)) => f j
  | _ => 0
def sgJ (μ : HL) (p j : Nat) : Int64 := match μ[p]? with
  | some (.inr o) => loAt o.2 j
  | some (.inl (_, _, .inr (.inl f))) => f j
  | _ => 0
def okF (v : Value) (t : Nat) : Bool := match v, t with
  | .int _, 0 => true
  | .long _, 1 => true
  | .ref _, 2 => true
  | _, _ => false
def okE (e : va_E) : Prop := match e with
  | .inr o => o.2.length = fcnt o.1 ∧ (List.range (fcnt o.1)).all (fun j => okF (o.2.getD j .null) (fty o.1 j)) = true
  | .inl (t, _, .inl _) => t = 0 ∨ t = 1 ∨ t = 2
  | .inl (t, _, .inr (.inl _)) => t = 3
  | .inl (t, _, .inr (.inr (.inr (.inr f)))) => t = 4 ∧ ∀ j, f j = some ((f j).getD 0)
  | _ => False
theorem okE_cell {μ : HL} {p : Nat} {e : va_E} (hp : μ[p]? = some e) (h : okE e) : cellOf (rhoOf μ) (sgI μ, sgJ μ) p (kindOf e) = e := by
  rcases e with ⟨t, n, x⟩ | ⟨ci, fs⟩
  · rcases x with f | f | f | f | f
    · have h : t = 0 ∨ t = 1 ∨ t = 2 := h
      have e1 : sgI μ p = f := by
        funext j
        simp only [sgI, hp]
      rcases h with rfl | rfl | rfl <;> simp only [kindOf, cellOf, adat, e1]
    · have h : t = 3 := h
      subst h
      have e1 : sgJ μ p = f := by
        funext j
        simp only [sgJ, hp]
      simp only [kindOf, cellOf, adat, e1]
    · exact h.elim
    · exact h.elim
    · obtain ⟨rfl, hj⟩ := h
      have e1 : (fun j => some (rhoOf μ p j)) = f := by
        funext j
        simp only [rhoOf, hp]
        exact (hj j).symm
      simp only [kindOf, cellOf, adat, e1]
  · obtain ⟨h1, h2⟩ := h
    simp only [kindOf, cellOf]
    congr 2
    apply List.ext_getElem?
    intro j
    rw [List.getElem?_map]
    by_cases hj : j < fcnt ci
    · rw [List.getElem?_range hj]
      have h3 := List.all_eq_true.mp h2 j (List.mem_range.mpr hj)
      have hjl : j < fs.length := by rw [h1]; exact hj
      have h4 : fs[j]? = some fs[j] := List.getElem?_eq_getElem hjl
      have h3 : okF (fs.getD j .null) (fty ci j) = true := h3
      rw [List.getD_eq_getElem?_getD, h4] at h3
      rw [h4]
      refine congrArg some ?_
      simp only [Option.getD_some] at h3
      simp only [fval]
      generalize hg : fty ci j = t at h3
      generalize hv : fs[j] = v at h3 h4
      cases v <;> (try (simp [okF] at h3)) <;> first
        | (match t, h3 with
           | 0, _ => simp only [sgI, hp, inAt, h4])
        | (match t, h3 with
           | 1, _ => simp only [sgJ, hp, loAt, h4])
        | (match t, h3 with
           | 2, _ => simp only [rhoOf, hp, rfAt, h4])
    · have h1 : fs.length = fcnt ci := h1
      rw [List.getElem?_eq_none (by rw [List.length_range]; omega), List.getElem?_eq_none (by omega)]
      rfl
theorem of_hl (μ : HL) (h : ∀ (p : Nat) (e : va_E), μ[p]? = some e → okE e) : hp (μ.map kindOf) (rhoOf μ) (sgI μ, sgJ μ) = μ := by
  apply List.ext_getElem?
  intro j
  rw [hp_get, List.getElem?_map]
  cases hg : μ[j]? with
  | none => rfl
  | some e => exact congrArg some (okE_cell hg (h j e hg))
theorem go_mu {Y : MD} {d kc ks n0 : Nat} {K : Option Value → HL → Prop} {cells slots pc : Nat} {loc : List (Option Value)} {st : List Value} {μ : HL} (μ' : HL) (h : μ = μ') (k : Go Y d kc ks n0 K cells slots pc loc st μ') : Go Y d kc ks n0 K cells slots pc loc st μ := h ▸ k
def zI (n : Nat) : va_E := .inl (0, n, .inl (fun _ => 0))
def zZ (n : Nat) : va_E := .inl (1, n, .inl (fun _ => 0))
def zB (n : Nat) : va_E := .inl (2, n, .inl (fun _ => 0))
def zJ (n : Nat) : va_E := .inl (3, n, .inr (.inl (fun _ => 0)))
theorem zI_cell {n : Nat} (ad : Nat → Nat) (cA : ClassId) : vp_cell cA (rA ad (n, .inl (fun _ => (0 : Int32)))) = arrV cA n (fun _ => defaultValue .int) := rfl
theorem zZ_cell {n : Nat} (ad : Nat → Nat) (cA : ClassId) : vp_cell cA (rA ad (n, .inl (fun _ => (0 : Int32)))) = arrV cA n (fun _ => defaultValue .boolean) := rfl
theorem zB_cell {n : Nat} (ad : Nat → Nat) (cA : ClassId) : vp_cell cA (rA ad (n, .inl (fun _ => (0 : Int32)))) = arrV cA n (fun _ => defaultValue .byte) := rfl
theorem zJ_cell {n : Nat} (ad : Nat → Nat) (cA : ClassId) : vp_cell cA (rA ad (n, .inr (.inl (fun _ => (0 : Int64))))) = arrV cA n (fun _ => defaultValue .long) := rfl
