/-! THE LAW's FIRST ROWS: the two objects are made -/
def mC : HL := [.inr (12, [.ref 91, .int 0, .int 0, .int (-1), .int 0, .int 0, .int 0, .int 0, .int 0, .long 0, .ref 92, .ref 93, .ref 94, .ref 95, .ref 96, .ref 97, .ref 98, .ref 99, .ref 100, .ref 101, .int 0, .int 0, .int 0, .int 0, .int 0, .int 0, .ref 102, .int 0, .ref 103, .ref 104, .ref 105, .ref 106, .ref 107, .ref 108, .ref 109, .ref 110, .ref 111, .ref 112, .ref 113, .ref 114, .ref 115, .ref 116, .ref 117, .ref 118, .int 0, .int 0, .int 0, .int 0, .int 0, .int 0, .int 0, .int 7, .int 0, .int 0, .int 0, .int 0, .ref 119, .ref 120, .ref 121, .ref 122, .ref 123, .ref 124, .int 0, .int 0, .ref 125, .int 0, .ref 126, .ref 127, .ref 128, .ref 129, .ref 130, .ref 131, .ref 132, .ref 133, .int 0, .int 0, .ref 134, .ref 135, .ref 136, .ref 137, .ref 138, .ref 139]), zI 1600, zJ 11, zI 640, zI 640, zI 2, zI 640, zI 640, zI 2, zI 160, zI 64, zZ 2, zI 6, zI 6, zI 6, zI 6, zI 6, zI 5, zI 5, zI 5, zI 5, zI 6, zI 6, zI 6, zI 6, zI 5, zI 5, zI 5, zI 5, zI 22, zI 22, zI 5, zI 5, zI 5, zI 880, zI 5, zI 36, zI 5, zI 30, zI 30, zI 30, zI 30, zI 30, zZ 30, zI 3, zI 3, zI 3, zI 21, zZ 3, zI 66]
set_option maxRecDepth 100000 in
theorem mC_ok : ∀ (p : Nat) (e : va_E), mC[p]? = some e → okE e := by
  intro p e h
  match p, h with
  | 0, h => cases h; exact ⟨rfl, by decide⟩
  | 1, h => cases h; first | exact Or.inl rfl | exact Or.inr (Or.inl rfl) | exact Or.inr (Or.inr rfl) | exact rfl
  | 2, h => cases h; first | exact Or.inl rfl | exact Or.inr (Or.inl rfl) | exact Or.inr (Or.inr rfl) | exact rfl
  | 3, h => cases h; first | exact Or.inl rfl | exact Or.inr (Or.inl rfl) | exact Or.inr (Or.inr rfl) | exact rfl
  | 4, h => cases h; first | exact Or.inl rfl | exact Or.inr (Or.inl rfl) | exact Or.inr (Or.inr rfl) | exact rfl
  | 5, h => cases h; first | exact Or.inl rfl | exact Or.inr (Or.inl rfl) | exact Or.inr (Or.inr rfl) | exact rfl
  | 6, h => cases h; first | exact Or.inl rfl | exact Or.inr (Or.inl rfl) | exact Or.inr (Or.inr rfl) | exact rfl
  | 7, h => cases h; first | exact Or.inl rfl | exact Or.inr (Or.inl rfl) | exact Or.inr (Or.inr rfl) | exact rfl
  | 8, h => cases h; first | exact Or.inl rfl | exact Or.inr (Or.inl rfl) | exact Or.inr (Or.inr rfl) | exact rfl
  | 9, h => cases h; first | exact Or.inl rfl | exact Or.inr (Or.inl rfl) | exact Or.inr (Or.inr rfl) | exact rfl
  | 10, h => cases h; first | exact Or.inl rfl | exact Or.inr (Or.inl rfl) | exact Or.inr (Or.inr rfl) | exact rfl
  | 11, h => cases h; first | exact Or.inl rfl | exact Or.inr (Or.inl rfl) | exact Or.inr (Or.inr rfl) | exact rfl
  | 12, h => cases h; first | exact Or.inl rfl | exact Or.inr (Or.inl rfl) | exact Or.inr (Or.inr rfl) | exact rfl
  | 13, h => cases h; first | exact Or.inl rfl | exact Or.inr (Or.inl rfl) | exact Or.inr (Or.inr rfl) | exact rfl
  | 14, h => cases h; first | exact Or.inl rfl | exact Or.inr (Or.inl rfl) | exact Or.inr (Or.inr rfl) | exact rfl
  | 15, h => cases h; first | exact Or.inl rfl | exact Or.inr (Or.inl rfl) | exact Or.inr (Or.inr rfl) | exact rfl
  | 16, h => cases h; first | exact Or.inl rfl | exact Or.inr (Or.inl rfl) | exact Or.inr (Or.inr rfl) | exact rfl
  | 17, h => cases h; first | exact Or.inl rfl | exact Or.inr (Or.inl rfl) | exact Or.inr (Or.inr rfl) | exact rfl
  | 18, h => cases h; first | exact Or.inl rfl | exact Or.inr (Or.inl rfl) | exact Or.inr (Or.inr rfl) | exact rfl
  | 19, h => cases h; first | exact Or.inl rfl | exact Or.inr (Or.inl rfl) | exact Or.inr (Or.inr rfl) | exact rfl
  | 20, h => cases h; first | exact Or.inl rfl | exact Or.inr (Or.inl rfl) | exact Or.inr (Or.inr rfl) | exact rfl
  | 21, h => cases h; first | exact Or.inl rfl | exact Or.inr (Or.inl rfl) | exact Or.inr (Or.inr rfl) | exact rfl
  | 22, h => cases h; first | exact Or.inl rfl | exact Or.inr (Or.inl rfl) | exact Or.inr (Or.inr rfl) | exact rfl
  | 23, h => cases h; first | exact Or.inl rfl | exact Or.inr (Or.inl rfl) | exact Or.inr (Or.inr rfl) | exact rfl
  | 24, h => cases h; first | exact Or.inl rfl | exact Or.inr (Or.inl rfl) | exact Or.inr (Or.inr rfl) | exact rfl
  | 25, h => cases h; first | exact Or.inl rfl | exact Or.inr (Or.inl rfl) | exact Or.inr (Or.inr rfl) | exact rfl
  | 26, h => cases h; first | exact Or.inl rfl | exact Or.inr (Or.inl rfl) | exact Or.inr (Or.inr rfl) | exact rfl
  | 27, h => cases h; first | exact Or.inl rfl | exact Or.inr (Or.inl rfl) | exact Or.inr (Or.inr rfl) | exact rfl
  | 28, h => cases h; first | exact Or.inl rfl | exact Or.inr (Or.inl rfl) | exact Or.inr (Or.inr rfl) | exact rfl
  | 29, h => cases h; first | exact Or.inl rfl | exact Or.inr (Or.inl rfl) | exact Or.inr (Or.inr rfl) | exact rfl
  | 30, h => cases h; first | exact Or.inl rfl | exact Or.inr (Or.inl rfl) | exact Or.inr (Or.inr rfl) | exact rfl
  | 31, h => cases h; first | exact Or.inl rfl | exact Or.inr (Or.inl rfl) | exact Or.inr (Or.inr rfl) | exact rfl
  | 32, h => cases h; first | exact Or.inl rfl | exact Or.inr (Or.inl rfl) | exact Or.inr (Or.inr rfl) | exact rfl
  | 33, h => cases h; first | exact Or.inl rfl | exact Or.inr (Or.inl rfl) | exact Or.inr (Or.inr rfl) | exact rfl
  | 34, h => cases h; first | exact Or.inl rfl | exact Or.inr (Or.inl rfl) | exact Or.inr (Or.inr rfl) | exact rfl
  | 35, h => cases h; first | exact Or.inl rfl | exact Or.inr (Or.inl rfl) | exact Or.inr (Or.inr rfl) | exact rfl
  | 36, h => cases h; first | exact Or.inl rfl | exact Or.inr (Or.inl rfl) | exact Or.inr (Or.inr rfl) | exact rfl
  | 37, h => cases h; first | exact Or.inl rfl | exact Or.inr (Or.inl rfl) | exact Or.inr (Or.inr rfl) | exact rfl
  | 38, h => cases h; first | exact Or.inl rfl | exact Or.inr (Or.inl rfl) | exact Or.inr (Or.inr rfl) | exact rfl
  | 39, h => cases h; first | exact Or.inl rfl | exact Or.inr (Or.inl rfl) | exact Or.inr (Or.inr rfl) | exact rfl
  | 40, h => cases h; first | exact Or.inl rfl | exact Or.inr (Or.inl rfl) | exact Or.inr (Or.inr rfl) | exact rfl
  | 41, h => cases h; first | exact Or.inl rfl | exact Or.inr (Or.inl rfl) | exact Or.inr (Or.inr rfl) | exact rfl
  | 42, h => cases h; first | exact Or.inl rfl | exact Or.inr (Or.inl rfl) | exact Or.inr (Or.inr rfl) | exact rfl
  | 43, h => cases h; first | exact Or.inl rfl | exact Or.inr (Or.inl rfl) | exact Or.inr (Or.inr rfl) | exact rfl
  | 44, h => cases h; first | exact Or.inl rfl | exact Or.inr (Or.inl rfl) | exact Or.inr (Or.inr rfl) | exact rfl
  | 45, h => cases h; first | exact Or.inl rfl | exact Or.inr (Or.inl rfl) | exact Or.inr (Or.inr rfl) | exact rfl
  | 46, h => cases h; first | exact Or.inl rfl | exact Or.inr (Or.inl rfl) | exact Or.inr (Or.inr rfl) | exact rfl
  | 47, h => cases h; first | exact Or.inl rfl | exact Or.inr (Or.inl rfl) | exact Or.inr (Or.inr rfl) | exact rfl
  | 48, h => cases h; first | exact Or.inl rfl | exact Or.inr (Or.inl rfl) | exact Or.inr (Or.inr rfl) | exact rfl
  | 49, h => cases h; first | exact Or.inl rfl | exact Or.inr (Or.inl rfl) | exact Or.inr (Or.inr rfl) | exact rfl
  | p + 50, h => simp [mC] at h
def mG : SG := mC.map kindOf
def wG : SG := xG ++ mG
/-- the cells of the two objects side by side -/
def wR (ρ : Nat → Nat → Nat) : Nat → Nat → Nat := fun p j => if p < 90 then ρ p j else rhoOf mC (p - 90) j
def wS (σ : St) : St := (fun p j => if p < 90 then σ.1 p j else sgI mC (p - 90) j, fun p j => if p < 90 then σ.2 p j else sgJ mC (p - 90) j)
theorem cellOf_cg {ρ ρ' : Nat → Nat → Nat} {σ σ' : St} {p p' : Nat} {q : Nat × Nat} (h0 : ρ' p' = ρ p) (h1 : σ'.1 p' = σ.1 p) (h2 : σ'.2 p' = σ.2 p) : cellOf ρ' σ' p' q = cellOf ρ σ p q := by
  obtain ⟨t, n⟩ := q
  cases t with
  | zero =>
    simp only [cellOf]
    congr 2
    apply List.map_congr_left
    intro k _
    simp only [fval, h0, h1, h2]
  | succ t =>
    simp only [cellOf, adat, h0, h1, h2]
theorem xG_len : xG.length = 90 := rfl
theorem hp_two (ρ : Nat → Nat → Nat) (σ : St) : hp xG ρ σ ++ mC = hp wG (wR ρ) (wS σ) := by
  have e1 : mC = hp mG (rhoOf mC) (sgI mC, sgJ mC) := (of_hl mC mC_ok).symm
  apply List.ext_getElem?
  intro j
  by_cases h : j < 90
  · rw [List.getElem?_append_left (by rw [hp_len, xG_len]; exact h), hp_get, hp_get, wG, List.getElem?_append_left (by rw [xG_len]; exact h)]
    congr 1
    funext q
    refine (cellOf_cg ?_ ?_ ?_).symm <;> (funext k; simp [wR, wS, h])
  · rw [List.getElem?_append_right (by rw [hp_len, xG_len]; omega), hp_len, xG_len, e1, hp_get, hp_get, wG, List.getElem?_append_right (by rw [xG_len]; omega), xG_len]
    congr 1
    funext q
    refine (cellOf_cg ?_ ?_ ?_).symm <;> (funext k; simp [wR, wS, h])
theorem mrg_n {μ : HL} {c : va_E} {l : HL} {n : Nat} (h : μ.length = n) (hl : l ≠ []) : mrg [n] (μ ++ [c]) l = μ ++ l := by
  subst h
  cases l with
  | nil => exact absurd rfl hl
  | cons a l => simp [mrg]
theorem rnE_0 (e : va_E) : rnE (em [0] 1) e = e := rnE_id (n := 1) e
theorem map_rnE_0 (μ : HL) : μ.map (rnE (em [0] 1)) = μ := by
  rw [List.map_congr_left (fun e _ => rnE_0 e), List.map_id']
theorem mrg_x {x : va_E} {μ : HL} (h : μ ≠ []) : mrg [0] [x] (μ.map (rnE (em [0] 1))) = μ := by
  rw [map_rnE_0]
  cases μ with
  | nil => exact absurd rfl h
  | cons a l => rfl
def mD : List Value := [.null, .int 0, .int 0, .int 0, .int 0, .int 0, .int 0, .int 0, .int 0, .long 0, .null, .null, .null, .null, .null, .null, .null, .null, .null, .null, .int 0, .int 0, .int 0, .int 0, .int 0, .int 0, .null, .int 0, .null, .null, .null, .null, .null, .null, .null, .null, .null, .null, .null, .null, .null, .null, .null, .null, .int 0, .int 0, .int 0, .int 0, .int 0, .int 0, .int 0, .int 0, .int 0, .int 0, .int 0, .int 0, .null, .null, .null, .null, .null, .null, .int 0, .int 0, .null, .int 0, .null, .null, .null, .null, .null, .null, .null, .null, .int 0, .int 0, .null, .null, .null, .null, .null, .null]
def mC0 : HL := [.inr (12, [.ref 1, .int 0, .int 0, .int (-1), .int 0, .int 0, .int 0, .int 0, .int 0, .long 0, .ref 2, .ref 3, .ref 4, .ref 5, .ref 6, .ref 7, .ref 8, .ref 9, .ref 10, .ref 11, .int 0, .int 0, .int 0, .int 0, .int 0, .int 0, .ref 12, .int 0, .ref 13, .ref 14, .ref 15, .ref 16, .ref 17, .ref 18, .ref 19, .ref 20, .ref 21, .ref 22, .ref 23, .ref 24, .ref 25, .ref 26, .ref 27, .ref 28, .int 0, .int 0, .int 0, .int 0, .int 0, .int 0, .int 0, .int 7, .int 0, .int 0, .int 0, .int 0, .ref 29, .ref 30, .ref 31, .ref 32, .ref 33, .ref 34, .int 0, .int 0, .ref 35, .int 0, .ref 36, .ref 37, .ref 38, .ref 39, .ref 40, .ref 41, .ref 42, .ref 43, .int 0, .int 0, .ref 44, .ref 45, .ref 46, .ref 47, .ref 48, .ref 49]), zI 1600, zJ 11, zI 640, zI 640, zI 2, zI 640, zI 640, zI 2, zI 160, zI 64, zZ 2, zI 6, zI 6, zI 6, zI 6, zI 6, zI 5, zI 5, zI 5, zI 5, zI 6, zI 6, zI 6, zI 6, zI 5, zI 5, zI 5, zI 5, zI 22, zI 22, zI 5, zI 5, zI 5, zI 880, zI 5, zI 36, zI 5, zI 30, zI 30, zI 30, zI 30, zI 30, zZ 30, zI 3, zI 3, zI 3, zI 21, zZ 3, zI 66]
set_option maxRecDepth 100000 in
theorem mC0_is : mC0.map (rnE (em [90] 91)) = mC := rfl
theorem mC_nn : mC ≠ [] := fun h => by cases h
theorem t12 : Tri mX12_init 1 49 5759 [.ref 0] [.inr (12, mD)] (fun v μ => v = none ∧ μ = mC0) := t_X12_init
set_option maxRecDepth 100000 in
set_option maxHeartbeats 4000000 in
theorem op_w2 {L : Nat} {xs : Nat → Int32} (ρ : Nat → Nat → Nat) (σ : St) (k : Lw L xs 140 10295 18 [some (.retAddr 6), some (.ref 0), some (.ref 90), some (.int (nI 0))] [] (hp wG (wR ρ) (wS σ))) : Lw L xs 90 4454 8 [some (.retAddr 6), some (.ref 0), none, none] [] (hp xG ρ σ) := by
  have e90 : ∀ c : va_E, (hp xG ρ σ ++ [c]).length = 91 := fun c => by rw [List.length_append, hp_len, xG_len]; rfl
  refine lw_new cl_L_10 is_X12 in_X12 (ci := 12) rfl tyX12 tyX12_ok mD (by decide +kernel) (fun _ _ => rfl) (by decide) (by decide) dL_law_8 90 (by rw [hp_len, xG_len]) ?_
  refine lw_dup dL_law_11 rfl ?_
  refine lw_I (av := []) (rest := [.ref 90]) [90] t12 ok_X12_init rfl ml_L_12 dL_law_12 ?_ rfl ?_ rfl (by decide) (by decide) (by decide) (Nat.le_of_ble_eq_true rfl) (fun v μs h => ?_)
  · rw [e90]
    simp only [List.map_cons, List.map_nil]
    rw [List.getElem?_append_right (by rw [hp_len, xG_len]; decide), hp_len, xG_len]
    rfl
  · rw [e90]
    rfl
  obtain ⟨rfl, rfl⟩ := h
  rw [e90, mC0_is, mrg_n (by rw [hp_len, xG_len]) mC_nn, hp_two]
  refine lw_astore_n (x := 90) 2 [some (.retAddr 6), some (.ref 0), some (.ref 90), none] dL_law_15 rfl (by decide) rfl ?_
  refine lw_iconst 0 dL_law_16 (by decide) ?_
  exact lw_istore_n 3 [some (.retAddr 6), some (.ref 0), some (.ref 90), some (.int (nI 0))] dL_law_17 rfl (by decide) rfl k
def xD : List Value := [.null, .null, .null, .null, .null, .null, .null, .null, .null, .null, .null, .null, .null, .null, .int 0, .int 0, .int 0]
theorem wG_0 : wG[0]? = some (0, 11) := rfl
theorem wG_90 : wG[90]? = some (0, 12) := rfl
def xE : va_E := .inr (11, xD)
theorem op_k0 (μ : HL) (h : μ ≠ []) : mrg [0] ([] ++ [xE]) (μ.map (rnE (em [0] ([] ++ [xE] : HL).length))) = μ := mrg_x h
theorem op_w0 {L : Nat} {xs : Nat → Int32} (ρ : Nat → Nat → Nat) (σ' : St) (hk : Lw L xs 90 4454 8 [some (.retAddr 6), some (.ref 0), none, none] [] (hp xG ρ σ')) : Lw L xs (0 + 1 + 89) (0 + 17 + 4437) (0 + 3 + 1 + 3) [some (.retAddr 6), none, none, none] (((none : Option Value).map (rn (em [0] ([] ++ [xE] : HL).length))).toList ++ [.ref 0]) (mrg [0] ([] ++ [xE]) ((hp xG ρ σ').map (rnE (em [0] ([] ++ [xE] : HL).length)))) := by
  have hz : hp xG ρ σ' ≠ [] := fun h => by
    have := congrArg List.length h
    rw [hp_len, xG_len] at this
    cases this
  refine lw_mu _ (op_k0 _ hz) ?_
  exact lw_astore_n (x := 0) 1 [some (.retAddr 6), some (.ref 0), none, none] dL_law_7 rfl (by decide) rfl hk
set_option maxRecDepth 100000 in
set_option maxHeartbeats 1000000 in
theorem op_w1 {L : Nat} {xs : Nat → Int32} (hall : ∀ W : Nat → Int64, ∃ q, f_X11_init_s161 200 (rhoOf (xH W)) 0 (sgI (xH W), sgJ (xH W)) = some q) (hsh : ∀ W : Nat → Int64, Sh xG (rhoOf (xH W)))
    (k : ∀ (W : Nat → Int64) (r : Int32) (σ' : St), (∀ k, k < 20 → W k = WT k) → f_X11_init_s161 200 (rhoOf (xH W)) 0 (sgI (xH W), sgJ (xH W)) = some (r, σ') → Lw L xs 90 4454 8 [some (.retAddr 6), some (.ref 0), none, none] [] (hp xG (rhoOf (xH W)) σ')) : Lw L xs 0 0 0 [some (.retAddr 6), none, none, none] [] [] := by
  refine lw_new cl_L_7 is_X11 in_X11 (ci := 11) rfl tyX11 tyX11_ok xD (by decide +kernel) (fun _ _ => rfl) (by decide) (by decide) dL_law_0 0 rfl ?_
  refine lw_dup dL_law_3 rfl ?_
  refine lw_I (av := []) (rest := [.ref 0]) [0] (μs := [xE]) (t_X11_init hall hsh) ok_X11_init rfl ml_L_9 dL_law_4 rfl rfl rfl rfl (by decide) (by decide) (by decide) (Nat.le_of_ble_eq_true rfl) (fun v μs h => ?_)
  obtain ⟨hv, W, hW, r, σ', hf, hμ⟩ := h
  rw [hv, hμ]
  exact op_w0 _ σ' (k W r σ' hW hf)
theorem op_walk {L : Nat} {xs : Nat → Int32} (hL : L ≤ 3072) {Inv : (Nat → Nat → Nat) → St → Prop} {N : Nat} (AA : Apis Inv N 0 90) (hshI : ∀ ρ σ, Inv ρ σ → Sh wG ρ) (hall : ∀ W : Nat → Int64, ∃ q, f_X11_init_s161 200 (rhoOf (xH W)) 0 (sgI (xH W), sgJ (xH W)) = some q) (hsh : ∀ W : Nat → Int64, Sh xG (rhoOf (xH W)))
    (hinit : ∀ (W : Nat → Int64) (r : Int32) (σ' : St), (∀ k, k < 20 → W k = WT k) → f_X11_init_s161 200 (rhoOf (xH W)) 0 (sgI (xH W), sgJ (xH W)) = some (r, σ') → Inv (wR (rhoOf (xH W))) (wS σ')) : Lw L xs 0 0 0 [some (.retAddr 6), none, none, none] [] [] :=
  op_w1 hall hsh (fun W r σ' hW hf => op_w2 _ σ' (law_loop (Γ := wG) wG_0 wG_90 hshI hL (by decide) (by decide) AA (L + 1) 0 _ _ (Nat.zero_le _) (by omega) (hinit W r σ' hW hf)))
/-- THE WHOLE out of the pure statements -/
theorem whole_of {p : Program} {e : Env} {s : State} {m : MethodId} {below : List Frame} {meth : Method} {c : Code} (l : Launch) {b L : Nat} {xs : Nat → Int32} {Inv : (Nat → Nat → Nat) → St → Prop} {N : Nat} (AA : Apis Inv N 0 90) (hshI : ∀ ρ σ, Inv ρ σ → Sh wG ρ) (hall : ∀ W : Nat → Int64, ∃ q, f_X11_init_s161 200 (rhoOf (xH W)) 0 (sgI (xH W), sgJ (xH W)) = some q) (hsh : ∀ W : Nat → Int64, Sh xG (rhoOf (xH W)))
    (hinit : ∀ (W : Nat → Int64) (r : Int32) (σ' : St), (∀ k, k < 20 → W k = WT k) → f_X11_init_s161 200 (rhoOf (xH W)) 0 (sgI (xH W), sgJ (xH W)) = some (r, σ') → Inv (wR (rhoOf (xH W))) (wS σ')) (hL : L ≤ 3072) (C0 : lw_At p s m meth c b L xs) : W p l e room_1 s m #[Value.ref b] below meth c s.heap [] 0 0 (lw_Z below #[Value.ref b] s) (entryFrame m ([Value.ref b] : List Value).toArray 4) :=
  op_start C0 (op_walk hL AA hshI hall hsh hinit)
