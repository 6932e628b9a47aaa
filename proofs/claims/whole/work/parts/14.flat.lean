/-! THE FLAT STATE: ints by place and number (fields and arrays alike), longs likewise; references never change -/
def ftl : List (List Nat) := [[2, 2, 2, 2, 2, 2, 2, 2, 2, 2, 2, 0, 0, 0, 0, 0], [2, 2, 0, 0], [2], [2, 2, 0, 0], [2, 0, 0], [2, 2, 0, 0, 0, 0, 1, 0, 0], [2, 2, 2, 2, 2, 2, 0, 0, 2, 2, 2, 2, 2, 2], [2, 2, 2, 2, 0, 0], [2, 2, 2, 2, 2, 0, 0], [2, 2, 2, 2, 0, 0], [2, 0], [2, 2, 2, 2, 2, 2, 2, 2, 2, 2, 2, 2, 2, 2, 0, 0, 0], [2, 0, 0, 0, 0, 0, 0, 0, 0, 1, 2, 2, 2, 2, 2, 2, 2, 2, 2, 2, 0, 0, 0, 0, 0, 0, 2, 0, 2, 2, 2, 2, 2, 2, 2, 2, 2, 2, 2, 2, 2, 2, 2, 2, 0, 0, 0, 0, 0, 0, 0, 0, 0, 0, 0, 0, 2, 2, 2, 2, 2, 2, 0, 0, 2, 0, 2, 2, 2, 2, 2, 2, 2, 2, 0, 0, 2, 2, 2, 2, 2, 2]]
def ktl : List (List (Nat × Nat)) := [[(1, 6), (1, 6), (1, 6), (1, 6), (1, 5), (1, 5), (1, 5), (1, 5), (0, 1), (0, 1), (1, 7), (0, 0), (0, 0), (0, 0), (0, 0), (0, 0)], [(1, 270), (1, 30), (0, 0), (0, 0)], [(0, 5)], [(5, 2), (5, 2), (0, 0), (0, 0)], [(1, 902), (0, 0), (0, 0)], [(0, 10), (4, 20), (0, 0), (0, 0), (0, 0), (0, 0), (0, 0), (0, 0), (0, 0)], [(1, 30), (2, 30), (1, 30), (2, 30), (1, 30), (1, 30), (0, 0), (0, 0), (1, 3), (1, 3), (1, 3), (1, 3), (5, 3), (0, 9)], [(0, 2), (0, 5), (4, 6), (4, 5), (0, 0), (0, 0)], [(1, 32), (1, 32), (1, 32), (1, 6), (1, 5), (0, 0), (0, 0)], [(1, 5), (1, 5), (1, 5), (1, 5), (0, 0), (0, 0)], [(3, 1600), (0, 0)], [(0, 10), (0, 7), (0, 0), (0, 0), (0, 9), (0, 9), (0, 4), (1, 66), (2, 3), (0, 8), (0, 3), (0, 6), (1, 5), (1, 5), (0, 0), (0, 0), (0, 0)], [(1, 1600), (0, 0), (0, 0), (0, 0), (0, 0), (0, 0), (0, 0), (0, 0), (0, 0), (0, 0), (4, 11), (1, 640), (1, 640), (1, 2), (1, 640), (1, 640), (1, 2), (1, 160), (1, 64), (2, 2), (0, 0), (0, 0), (0, 0), (0, 0), (0, 0), (0, 0), (1, 6), (0, 0), (1, 6), (1, 6), (1, 6), (1, 6), (1, 5), (1, 5), (1, 5), (1, 5), (1, 6), (1, 6), (1, 6), (1, 6), (1, 5), (1, 5), (1, 5), (1, 5), (0, 0), (0, 0), (0, 0), (0, 0), (0, 0), (0, 0), (0, 0), (0, 0), (0, 0), (0, 0), (0, 0), (0, 0), (1, 22), (1, 22), (1, 5), (1, 5), (1, 5), (1, 880), (0, 0), (0, 0), (1, 5), (0, 0), (1, 36), (1, 5), (1, 30), (1, 30), (1, 30), (1, 30), (1, 30), (2, 30), (0, 0), (0, 0), (1, 3), (1, 3), (1, 3), (1, 21), (2, 3), (1, 66)]]
def fty (ci k : Nat) : Nat := (ftl.getD ci []).getD k 0
def fcnt (ci : Nat) : Nat := (ftl.getD ci []).length
def kt (ci k : Nat) : Nat × Nat := (ktl.getD ci []).getD k (0, 0)
abbrev St : Type := (Nat → Nat → Int32) × (Nat → Nat → Int64)
abbrev SG : Type := List (Nat × Nat)
def sI (σ : St) (b k : Nat) (x : Int32) : St := (fun p j => if p = b ∧ j = k then x else σ.1 p j, σ.2)
def sJ (σ : St) (b k : Nat) (x : Int64) : St := (σ.1, fun p j => if p = b ∧ j = k then x else σ.2 p j)
def fval (ρ : Nat → Nat → Nat) (σ : St) (ci b k : Nat) : Value := match fty ci k with
  | 0 => .int (σ.1 b k)
  | 1 => .long (σ.2 b k)
  | _ => .ref (ρ b k)
def adat (ρ : Nat → Nat → Nat) (σ : St) (t b : Nat) : (Nat → Int32) ⊕ (Nat → Int64) ⊕ (Nat → UInt32) ⊕ (Nat → UInt64) ⊕ (Nat → Option Nat) := match t with
  | 3 => .inr (.inl (σ.2 b))
  | 4 => .inr (.inr (.inr (.inr (fun j => some (ρ b j)))))
  | _ => .inl (σ.1 b)
def cellOf (ρ : Nat → Nat → Nat) (σ : St) (p : Nat) (q : Nat × Nat) : va_E := match q.1 with
  | 0 => .inr (q.2, (List.range (fcnt q.2)).map (fval ρ σ q.2 p))
  | t + 1 => .inl (t, q.2, adat ρ σ t p)
def hp (Γ : SG) (ρ : Nat → Nat → Nat) (σ : St) : HL := Γ.mapIdx (fun p q => cellOf ρ σ p q)
/-- the references lead where the classes' fields say -/
def Sh (Γ : SG) (ρ : Nat → Nat → Nat) : Prop := (∀ p ci k, Γ[p]? = some (0, ci) → fty ci k = 2 → Γ[ρ p k]? = some (kt ci k)) ∧ (∀ p n j, Γ[p]? = some (5, n) → j < n → Γ[ρ p j]? = some (1, if n = 2 then 6 else 7))
theorem hp_get {Γ : SG} {ρ : Nat → Nat → Nat} {σ : St} {p : Nat} : (hp Γ ρ σ)[p]? = (Γ[p]?).map (fun q => cellOf ρ σ p q) := by simp [hp]
theorem hp_at {Γ : SG} {ρ : Nat → Nat → Nat} {σ : St} {p : Nat} {q : Nat × Nat} (h : Γ[p]? = some q) : (hp Γ ρ σ)[p]? = some (cellOf ρ σ p q) := by rw [hp_get, h]; rfl
theorem hp_len {Γ : SG} {ρ : Nat → Nat → Nat} {σ : St} : (hp Γ ρ σ).length = Γ.length := by simp [hp]
theorem cellOf_ne {ρ : Nat → Nat → Nat} {σ σ' : St} {p : Nat} {q : Nat × Nat} (h1 : σ'.1 p = σ.1 p) (h2 : σ'.2 p = σ.2 p) : cellOf ρ σ' p q = cellOf ρ σ p q := by
  obtain ⟨t, n⟩ := q
  cases t with
  | zero =>
    simp only [cellOf]
    congr 2
    apply List.map_congr_left
    intro k _
    simp only [fval, h1, h2]
  | succ t =>
    simp only [cellOf, adat, h1, h2]
theorem hp_set {Γ : SG} {ρ : Nat → Nat → Nat} {σ σ' : St} {b : Nat} {q : Nat × Nat} {e : va_E} (hb : Γ[b]? = some q) (he : cellOf ρ σ' b q = e) (h1 : ∀ p, p ≠ b → σ'.1 p = σ.1 p) (h2 : ∀ p, p ≠ b → σ'.2 p = σ.2 p) : (hp Γ ρ σ).set b e = hp Γ ρ σ' := by
  apply List.ext_getElem?
  intro j
  rw [List.getElem?_set, hp_get, hp_get, hp_len]
  by_cases hj : b = j
  · subst hj
    rw [if_pos rfl, if_pos (List.getElem?_eq_some_iff.mp hb).1, hb, ← he]
    rfl
  · rw [if_neg hj]
    cases hg : Γ[j]? with
    | none => rfl
    | some q2 => exact congrArg some (cellOf_ne (h1 j (fun z => hj z.symm)) (h2 j (fun z => hj z.symm))).symm
theorem sI_ne {σ : St} {b k p : Nat} {x : Int32} (h : p ≠ b) : (sI σ b k x).1 p = σ.1 p := by
  funext j
  simp [sI, h]
theorem sI_up {σ : St} {b k : Nat} {x : Int32} : (sI σ b k x).1 b = upd (σ.1 b) k x := by
  funext j
  by_cases h : j = k <;> simp [sI, upd, h]
theorem sJ_ne {σ : St} {b k p : Nat} {x : Int64} (h : p ≠ b) : (sJ σ b k x).2 p = σ.2 p := by
  funext j
  simp [sJ, h]
theorem sJ_up {σ : St} {b k : Nat} {x : Int64} : (sJ σ b k x).2 b = vp_updL (σ.2 b) k x := by
  funext j
  by_cases h : j = k <;> simp [sJ, vp_updL, h]
section FLAT
variable {Y : MD} {d kc ks n0 : Nat} {K : Option Value → HL → Prop} {cells slots pc : Nat} {loc : List (Option Value)} {st : List Value} {Γ : SG} {ρ : Nat → Nat → Nat} {σ : St}
theorem go_fI {b ci k0 idx : Nat} (hf : FL Y.1.cls idx ci k0) (hdg : decode Y.2.1 pc = .ok (.getfield idx, 3)) (hb : Γ[b]? = some (0, ci)) (hk : k0 < fcnt ci) (ht : fty ci k0 = 0) (k : Go Y d kc ks n0 K cells slots (pc + 3) loc (.int (σ.1 b k0) :: st) (hp Γ ρ σ)) : Go Y d kc ks n0 K cells slots pc loc (.ref b :: st) (hp Γ ρ σ) :=
  go_get (.int (σ.1 b k0)) hf hdg (hp_at hb) (by rw [List.getElem?_map, List.getElem?_range hk]; simp only [Option.map_some, fval, ht]) k
theorem go_fJ {b ci k0 idx : Nat} (hf : FL Y.1.cls idx ci k0) (hdg : decode Y.2.1 pc = .ok (.getfield idx, 3)) (hb : Γ[b]? = some (0, ci)) (hk : k0 < fcnt ci) (ht : fty ci k0 = 1) (k : Go Y d kc ks n0 K cells slots (pc + 3) loc (.long (σ.2 b k0) :: st) (hp Γ ρ σ)) : Go Y d kc ks n0 K cells slots pc loc (.ref b :: st) (hp Γ ρ σ) :=
  go_get (.long (σ.2 b k0)) hf hdg (hp_at hb) (by rw [List.getElem?_map, List.getElem?_range hk]; simp only [Option.map_some, fval, ht]) k
theorem go_fR {b ci k0 idx : Nat} (hf : FL Y.1.cls idx ci k0) (hdg : decode Y.2.1 pc = .ok (.getfield idx, 3)) (hb : Γ[b]? = some (0, ci)) (hk : k0 < fcnt ci) (ht : fty ci k0 = 2) (k : Go Y d kc ks n0 K cells slots (pc + 3) loc (.ref (ρ b k0) :: st) (hp Γ ρ σ)) : Go Y d kc ks n0 K cells slots pc loc (.ref b :: st) (hp Γ ρ σ) :=
  go_get (.ref (ρ b k0)) hf hdg (hp_at hb) (by rw [List.getElem?_map, List.getElem?_range hk]; simp only [Option.map_some, fval, ht]) k
theorem fs_set {ρ : Nat → Nat → Nat} {σ σ' : St} {ci b k0 : Nat} {v : Value} (hv : fval ρ σ' ci b k0 = v) (h : ∀ k, k ≠ k0 → fval ρ σ' ci b k = fval ρ σ ci b k) : ((List.range (fcnt ci)).map (fval ρ σ ci b)).set k0 v = (List.range (fcnt ci)).map (fval ρ σ' ci b) := by
  apply List.ext_getElem?
  intro j
  rw [List.getElem?_set, List.getElem?_map, List.getElem?_map, List.length_map, List.length_range]
  by_cases hj : k0 = j
  · subst hj
    rw [if_pos rfl]
    by_cases hl : k0 < fcnt ci
    · rw [if_pos hl, List.getElem?_range hl, ← hv]
      rfl
    · rw [if_neg hl, List.getElem?_eq_none (by rw [List.length_range]; omega)]
      rfl
  · rw [if_neg hj]
    cases hg : (List.range (fcnt ci))[j]? with
    | none => rfl
    | some q =>
      have hq : q = j := by
        obtain ⟨h1, h2⟩ := List.getElem?_eq_some_iff.mp hg
        rw [List.getElem_range] at h2
        exact h2.symm
      subst hq
      exact congrArg some (h q (fun z => hj z.symm)).symm
theorem go_pI {b ci k0 idx : Nat} {x : Int32} {ty : FieldType} (hf : FL Y.1.cls idx ci k0) (hty : FT ci k0 false ty) (hok : okv ty (.int x)) (hdg : decode Y.2.1 pc = .ok (.putfield idx, 3)) (hb : Γ[b]? = some (0, ci)) (hk : k0 < fcnt ci) (ht : fty ci k0 = 0) (k : Go Y d kc ks n0 K cells slots (pc + 3) loc st (hp Γ ρ (sI σ b k0 x))) : Go Y d kc ks n0 K cells slots pc loc (.int x :: .ref b :: st) (hp Γ ρ σ) := by
  refine go_put (hp Γ ρ (sI σ b k0 x)) hf hty hok hdg (hp_at hb) (by simpa using hk) (hp_set hb ?_ (fun p h => sI_ne h) (fun p h => rfl)) k
  simp only [cellOf]
  congr 2
  refine (fs_set (by simp only [fval, ht]; simp [sI]) (fun j hj => ?_)).symm
  simp [fval, sI, hj]
theorem go_pJ {b ci k0 idx : Nat} {x : Int64} (hf : FL Y.1.cls idx ci k0) (hty : FT ci k0 false .long) (hdg : decode Y.2.1 pc = .ok (.putfield idx, 3)) (hb : Γ[b]? = some (0, ci)) (hk : k0 < fcnt ci) (ht : fty ci k0 = 1) (k : Go Y d kc ks n0 K cells slots (pc + 3) loc st (hp Γ ρ (sJ σ b k0 x))) : Go Y d kc ks n0 K cells slots pc loc (.long x :: .ref b :: st) (hp Γ ρ σ) := by
  refine go_put (hp Γ ρ (sJ σ b k0 x)) hf hty (okv_l x) hdg (hp_at hb) (by simpa using hk) (hp_set hb ?_ (fun p h => rfl) (fun p h => sJ_ne h)) k
  simp only [cellOf]
  congr 2
  refine (fs_set (by simp only [fval, ht]; simp [sJ]) (fun j hj => ?_)).symm
  simp [fval, sJ, hj]
theorem go_rI {b n : Nat} {i : Int32} (hdg : decode Y.2.1 pc = .ok (.iaload, 1)) (hb : Γ[b]? = some (1, n)) (hin : vp_in i n) (k : Go Y d kc ks n0 K cells slots (pc + 1) loc (.int (σ.1 b i.toNatClampNeg) :: st) (hp Γ ρ σ)) : Go Y d kc ks n0 K cells slots pc loc (.int i :: .ref b :: st) (hp Γ ρ σ) := go_iald hdg (hp_at hb) hin k
theorem go_rZ {b n : Nat} {i : Int32} (hdg : decode Y.2.1 pc = .ok (.baload, 1)) (hb : Γ[b]? = some (2, n)) (hin : vp_in i n) (k : Go Y d kc ks n0 K cells slots (pc + 1) loc (.int (σ.1 b i.toNatClampNeg) :: st) (hp Γ ρ σ)) : Go Y d kc ks n0 K cells slots pc loc (.int i :: .ref b :: st) (hp Γ ρ σ) := go_zald hdg (hp_at hb) hin k
theorem go_rB {b n : Nat} {i : Int32} (hdg : decode Y.2.1 pc = .ok (.baload, 1)) (hb : Γ[b]? = some (3, n)) (hin : vp_in i n) (k : Go Y d kc ks n0 K cells slots (pc + 1) loc (.int (σ.1 b i.toNatClampNeg) :: st) (hp Γ ρ σ)) : Go Y d kc ks n0 K cells slots pc loc (.int i :: .ref b :: st) (hp Γ ρ σ) := go_bald hdg (hp_at hb) hin k
theorem go_rJ {b n : Nat} {i : Int32} (hdg : decode Y.2.1 pc = .ok (.laload, 1)) (hb : Γ[b]? = some (4, n)) (hin : vp_in i n) (k : Go Y d kc ks n0 K cells slots (pc + 1) loc (.long (σ.2 b i.toNatClampNeg) :: st) (hp Γ ρ σ)) : Go Y d kc ks n0 K cells slots pc loc (.int i :: .ref b :: st) (hp Γ ρ σ) := go_lald hdg (hp_at hb) hin k
theorem go_wI {b n : Nat} {i x : Int32} (hdg : decode Y.2.1 pc = .ok (.iastore, 1)) (hb : Γ[b]? = some (1, n)) (hin : vp_in i n) (k : Go Y d kc ks n0 K cells slots (pc + 1) loc st (hp Γ ρ (sI σ b i.toNatClampNeg x))) : Go Y d kc ks n0 K cells slots pc loc (.int x :: .int i :: .ref b :: st) (hp Γ ρ σ) :=
  go_iast _ hdg (hp_at hb) hin (hp_set hb (by simp only [cellOf, adat, sI_up]) (fun p h => sI_ne h) (fun p h => rfl)) k
theorem go_wZ {b n : Nat} {i x : Int32} (hdg : decode Y.2.1 pc = .ok (.bastore, 1)) (hb : Γ[b]? = some (2, n)) (hin : vp_in i n) (k : Go Y d kc ks n0 K cells slots (pc + 1) loc st (hp Γ ρ (sI σ b i.toNatClampNeg (vp_nar .boolean x)))) : Go Y d kc ks n0 K cells slots pc loc (.int x :: .int i :: .ref b :: st) (hp Γ ρ σ) :=
  go_zast _ hdg (hp_at hb) hin (hp_set hb (by simp only [cellOf, adat, sI_up]) (fun p h => sI_ne h) (fun p h => rfl)) k
theorem go_wB {b n : Nat} {i x : Int32} (hdg : decode Y.2.1 pc = .ok (.bastore, 1)) (hb : Γ[b]? = some (3, n)) (hin : vp_in i n) (k : Go Y d kc ks n0 K cells slots (pc + 1) loc st (hp Γ ρ (sI σ b i.toNatClampNeg (vp_nar .byte x)))) : Go Y d kc ks n0 K cells slots pc loc (.int x :: .int i :: .ref b :: st) (hp Γ ρ σ) :=
  go_bast _ hdg (hp_at hb) hin (hp_set hb (by simp only [cellOf, adat, sI_up]) (fun p h => sI_ne h) (fun p h => rfl)) k
theorem go_wJ {b n : Nat} {i : Int32} {x : Int64} (hdg : decode Y.2.1 pc = .ok (.lastore, 1)) (hb : Γ[b]? = some (4, n)) (hin : vp_in i n) (k : Go Y d kc ks n0 K cells slots (pc + 1) loc st (hp Γ ρ (sJ σ b i.toNatClampNeg x))) : Go Y d kc ks n0 K cells slots pc loc (.long x :: .int i :: .ref b :: st) (hp Γ ρ σ) :=
  go_last _ hdg (hp_at hb) hin (hp_set (σ' := sJ σ b i.toNatClampNeg x) hb (by simp only [cellOf, adat, sJ_up]) (fun p h => rfl) (fun p h => sJ_ne h)) k
theorem tysL_t {t : Nat} (ht : t < 5) : ∃ ty, ∀ cT, (tysL cT)[t]? = some (cT t, ty) := by
  match t, ht with
  | 0, _ => exact ⟨_, fun _ => rfl⟩
  | 1, _ => exact ⟨_, fun _ => rfl⟩
  | 2, _ => exact ⟨_, fun _ => rfl⟩
  | 3, _ => exact ⟨_, fun _ => rfl⟩
  | 4, _ => exact ⟨_, fun _ => rfl⟩
theorem go_len {b t n : Nat} (hdg : decode Y.2.1 pc = .ok (.arraylength, 1)) (hb : Γ[b]? = some (t + 1, n)) (ht : t < 5) (k : Go Y d kc ks n0 K cells slots (pc + 1) loc (.int (nI n) :: st) (hp Γ ρ σ)) : Go Y d kc ks n0 K cells slots pc loc (.ref b :: st) (hp Γ ρ σ) := by
  obtain ⟨ty, hty⟩ := tysL_t ht
  exact go_alen (nI n) hdg (hp_at hb) hty rfl k
/-- calls in one heap -/
theorem em_id {n j : Nat} : em (List.range n) n j = j := by
  by_cases h : j < n
  · exact em_in (List.getElem?_range h)
  · rw [em_out (by rw [List.length_range]; omega), List.length_range]
    omega
theorem rn_id (v : Value) {n : Nat} : rn (em (List.range n) n) v = v := by cases v <;> simp [rn, em_id]
theorem rnE_id (e : va_E) {n : Nat} : rnE (em (List.range n) n) e = e := by
  rcases e with ⟨t, m, x⟩ | ⟨c, fs⟩
  · rcases x with f | f | f | f | f
    · rfl
    · rfl
    · rfl
    · rfl
    · have e : (fun j => (f j).map (em (List.range n) n)) = f := by
        funext j
        cases f j <;> simp [em_id]
      simp only [rnE, rA, e]
  · simp only [rnE]
    congr 2
    exact (List.map_congr_left fun v _ => rn_id v).trans (List.map_id _)
theorem cut_id (μ : HL) : (List.range μ.length).map (fun i => μ[i]?) = μ.map (fun x => some (rnE (em (List.range μ.length) μ.length) x)) := by
  apply List.ext_getElem?
  intro j
  rw [List.getElem?_map, List.getElem?_map]
  by_cases h : j < μ.length
  · rw [List.getElem?_range h, List.getElem?_eq_getElem h]
    simp [rnE_id, h]
  · rw [List.getElem?_eq_none (by rw [List.length_range]; omega), List.getElem?_eq_none (by omega)]
    rfl
theorem nd_range : ∀ n, va_nd (List.range n) = true := by
  have key : ∀ l : List Nat, l.Nodup → va_nd l = true := by
    intro l
    induction l with
    | nil => intro _; rfl
    | cons a l ih =>
      intro h
      rw [List.nodup_cons] at h
      simp only [va_nd, Bool.and_eq_true, decide_eq_true_eq]
      exact ⟨h.1, ih h.2⟩
  exact fun n => key _ List.nodup_range
theorem mrg_id : ∀ (k : Nat) (μ es : HL), μ.length = k + es.length → (∀ j, j < k → True) → mrg (List.range' k es.length) μ es = μ.take k ++ es
  | k, μ, [], h, _ => by
    have : μ.take k = μ := List.take_of_length_le (by simp at h; omega)
    simp [mrg, this]
  | k, μ, x :: es, h, _ => by
    simp only [List.length_cons, List.range'_succ, mrg]
    simp only [List.length_cons] at h
    rw [mrg_id (k + 1) (μ.set k x) es (by rw [List.length_set]; omega) (fun _ _ => trivial)]
    have hk : k < μ.length := by omega
    rw [List.take_succ, List.take_set_of_le (Nat.le_refl k), List.getElem?_set_self hk]
    simp
theorem mrg_same (μ es : HL) (h : es.length = μ.length) : mrg (List.range μ.length) μ es = es := by
  rw [List.range_eq_range', ← h, mrg_id 0 μ es (by omega) (fun _ _ => trivial)]
  simp
/-- what a method of one heap ends with -/
def Ki (Γ : SG) (ρ : Nat → Nat → Nat) (r : Int32) (σ : St) : Option Value → HL → Prop := fun v μ => v = some (.int r) ∧ μ = hp Γ ρ σ
def Kv (Γ : SG) (ρ : Nat → Nat → Nat) (σ : St) : Option Value → HL → Prop := fun v μ => v = none ∧ μ = hp Γ ρ σ
theorem one_st {μ : HL} (av : List Value) : (av.map (rn (em (List.range μ.length) μ.length))) = av := (List.map_congr_left fun v _ => rn_id v).trans (List.map_id _)
theorem one_mu {μ es : HL} (h : es.length = μ.length) : mrg (List.range μ.length) μ (es.map (rnE (em (List.range μ.length) μ.length))) = es := by
  rw [(List.map_congr_left fun v _ => rnE_id v).trans (List.map_id _)]
  exact mrg_same μ es h
theorem go_Vi {Z : MD} {d' b n idx ci : Nat} {av rest : List Value} {r : Int32} {σ' : St} (hT : Tri Z d' 0 0 (.ref b :: av) (hp Γ ρ σ) (Ki Γ ρ r σ')) (hZ : OkV Z n ci) (hl : Cond.methodLink Y.1.cls idx Z.1 ∈ gtb) (hdg : decode Y.2.1 pc = .ok (.invokevirtual idx, 3)) (hb : Γ[b]? = some (0, ci)) (hst : st = av.reverse ++ .ref b :: rest) (hn : av.length = n) (hd : d' + 1 ≤ d) (hc : cells ≤ kc) (hs : slots ≤ ks) (hrm : (rest.map fun v => v.category).sum ≤ 8) (kk : Go Y d kc ks n0 K cells slots (pc + 3) loc (.int r :: rest) (hp Γ ρ σ')) : Go Y d kc ks n0 K cells slots pc loc st (hp Γ ρ σ) := by
  refine go_callV (rest := rest) (List.range (hp Γ ρ σ).length) hT hZ hl hdg (cut_id _) (nd_range _) ?_ (hp_at hb) hn hd hc hs hrm (fun v μs' h => ?_)
  · rw [one_st, em_id]; exact hst
  · obtain ⟨rfl, rfl⟩ := h
    rw [one_mu (by rw [hp_len, hp_len])]
    exact kk
theorem go_Vv {Z : MD} {d' b n idx ci : Nat} {av rest : List Value} {σ' : St} (hT : Tri Z d' 0 0 (.ref b :: av) (hp Γ ρ σ) (Kv Γ ρ σ')) (hZ : OkV Z n ci) (hl : Cond.methodLink Y.1.cls idx Z.1 ∈ gtb) (hdg : decode Y.2.1 pc = .ok (.invokevirtual idx, 3)) (hb : Γ[b]? = some (0, ci)) (hst : st = av.reverse ++ .ref b :: rest) (hn : av.length = n) (hd : d' + 1 ≤ d) (hc : cells ≤ kc) (hs : slots ≤ ks) (hrm : (rest.map fun v => v.category).sum ≤ 8) (kk : Go Y d kc ks n0 K cells slots (pc + 3) loc rest (hp Γ ρ σ')) : Go Y d kc ks n0 K cells slots pc loc st (hp Γ ρ σ) := by
  refine go_callV (rest := rest) (List.range (hp Γ ρ σ).length) hT hZ hl hdg (cut_id _) (nd_range _) ?_ (hp_at hb) hn hd hc hs hrm (fun v μs' h => ?_)
  · rw [one_st, em_id]; exact hst
  · obtain ⟨rfl, rfl⟩ := h
    rw [one_mu (by rw [hp_len, hp_len])]
    exact kk
theorem go_Ni {Z : MD} {d' b n idx ci : Nat} {host : String} {av rest : List Value} {r : Int32} {σ' : St} (hT : Tri Z d' 0 0 (.ref b :: av) (hp Γ ρ σ) (Ki Γ ρ r σ')) (hZ : OkV Z n ci) (hl : (Y.1.cls, idx, Z.1, host) ∈ nst) (hdg : decode Y.2.1 pc = .ok (.invokevirtual idx, 3)) (hb : Γ[b]? = some (0, ci)) (hst : st = av.reverse ++ .ref b :: rest) (hn : av.length = n) (hd : d' + 1 ≤ d) (hc : cells ≤ kc) (hs : slots ≤ ks) (hrm : (rest.map fun v => v.category).sum ≤ 8) (kk : Go Y d kc ks n0 K cells slots (pc + 3) loc (.int r :: rest) (hp Γ ρ σ')) : Go Y d kc ks n0 K cells slots pc loc st (hp Γ ρ σ) := by
  refine go_callVN (rest := rest) (List.range (hp Γ ρ σ).length) hT hZ hl hdg (cut_id _) (nd_range _) ?_ (hp_at hb) hn hd hc hs hrm (fun v μs' h => ?_)
  · rw [one_st, em_id]; exact hst
  · obtain ⟨rfl, rfl⟩ := h
    rw [one_mu (by rw [hp_len, hp_len])]
    exact kk
theorem go_Si {Z : MD} {d' n idx : Nat} {av rest : List Value} {r : Int32} {σ' : St} (hT : Tri Z d' 0 0 av (hp Γ ρ σ) (Ki Γ ρ r σ')) (hZ : OkS Z n) (hl : Cond.methodLink Y.1.cls idx Z.1 ∈ gtb) (hdg : decode Y.2.1 pc = .ok (.invokestatic idx, 3)) (hst : st = av.reverse ++ rest) (hn : av.length = n) (hd : d' + 1 ≤ d) (hc : cells ≤ kc) (hs : slots ≤ ks) (hrm : (rest.map fun v => v.category).sum ≤ 8) (kk : Go Y d kc ks n0 K cells slots (pc + 3) loc (.int r :: rest) (hp Γ ρ σ')) : Go Y d kc ks n0 K cells slots pc loc st (hp Γ ρ σ) := by
  refine go_callS (rest := rest) (List.range (hp Γ ρ σ).length) hT hZ hl hdg (cut_id _) (nd_range _) ?_ hn hd hc hs hrm (fun v μs' h => ?_)
  · rw [one_st]; exact hst
  · obtain ⟨rfl, rfl⟩ := h
    rw [one_mu (by rw [hp_len, hp_len])]
    exact kk
theorem go_Sv {Z : MD} {d' n idx : Nat} {av rest : List Value} {σ' : St} (hT : Tri Z d' 0 0 av (hp Γ ρ σ) (Kv Γ ρ σ')) (hZ : OkS Z n) (hl : Cond.methodLink Y.1.cls idx Z.1 ∈ gtb) (hdg : decode Y.2.1 pc = .ok (.invokestatic idx, 3)) (hst : st = av.reverse ++ rest) (hn : av.length = n) (hd : d' + 1 ≤ d) (hc : cells ≤ kc) (hs : slots ≤ ks) (hrm : (rest.map fun v => v.category).sum ≤ 8) (kk : Go Y d kc ks n0 K cells slots (pc + 3) loc rest (hp Γ ρ σ')) : Go Y d kc ks n0 K cells slots pc loc st (hp Γ ρ σ) := by
  refine go_callS (rest := rest) (List.range (hp Γ ρ σ).length) hT hZ hl hdg (cut_id _) (nd_range _) ?_ hn hd hc hs hrm (fun v μs' h => ?_)
  · rw [one_st]; exact hst
  · obtain ⟨rfl, rfl⟩ := h
    rw [one_mu (by rw [hp_len, hp_len])]
    exact kk
/-- fewer locals -/
def msk (ms : List Bool) (loc : List (Option Value)) : List (Option Value) := List.zipWith (fun b o => if b then o else none) ms loc
theorem go_msk {μ : HL} (ms : List Bool) (loc' : List (Option Value)) (he : msk ms loc = loc') (k : Go Y d kc ks n0 K cells slots pc loc' st μ) : Go Y d kc ks n0 K cells slots pc loc st μ := by
  subst he
  intro p l e s m args below meth c D cT ad ro sz H locs ls F w hS hL
  refine k p l e s m args below meth c D cT ad ro sz H locs ls F w hS ⟨hL.1, hL.2.1, fun i v hi => hL.2.2 i v ?_⟩
  unfold msk at hi
  rw [List.getElem?_zipWith] at hi
  cases h1 : ms[i]? with
  | none => rw [h1] at hi; simp at hi
  | some b =>
    cases h2 : loc[i]? with
    | none => rw [h1, h2] at hi; simp at hi
    | some o =>
      rw [h1, h2] at hi
      cases b
      · simp at hi
      · simp at hi; rw [hi]
/-- a name for the top -/
theorem go_nm {μ : HL} {x y : Int32} (h : x = y) (k : Go Y d kc ks n0 K cells slots pc loc (.int y :: st) μ) : Go Y d kc ks n0 K cells slots pc loc (.int x :: st) μ := h ▸ k
end FLAT
