/-! THE MODEL's RUN follows the yard -/
theorem bnd_as {a : Option (Int32 × St)} {f k : Int32 → St → Option (Int32 × St)} : bnd (bnd a f) k = bnd a (fun r s => bnd (f r s) k) := by
  cases a with
  | none => rfl
  | some q => rfl
def XR (N t : Nat) (τ : Tape) (w n0 : Nat) (σ0 : St) : MRT := fun b p O E u r => p ≤ τ.1 → Bd b O E u → ∀ σ, YM τ w n0 σ0 p O E u σ → ∀ n1 n2, τ.1 - p + 2 ≤ n1 → τ.1 - p + 2 ≤ n2 → Ok (bnd (if b = true then f_X12_unit_2 N (RR t) 90 n1 1 σ else some (0, σ)) fun _ σ14 => f_X12_formula_50 N (RR t) 90 (nI w) n2 1 σ14) (fun _ σ' => QM τ w n0 σ0 r σ')
theorem x_unit {N t n p k : Nat} {τ : Tape} {σ : St} {j : Nat} {w n0 : Nat} {σ0 : St} {n2 : Nat} {o : Option (Int32 × St)} (h : Ok o (fun _ σ' => FltM τ σ0 j σ')) (hn : 0 < n2) : Ok (bnd o fun _ σ14 => f_X12_formula_50 N (RR t) 90 (nI w) n2 1 σ14) (fun _ σ' => QM τ w n0 σ0 (.inr j) σ') := ok_call h (fun _ σ1 h1 => end_flt h1 hn)
theorem u_nt {N t w n0 p u m : Nat} {τ : Tape} {σ0 σ : St} {O : List Nat} {E : List Cd} (hb : ∀ j, j < τ.1 → τ.2 j < 256) (h9 : tk τ p = 9) (hs : stp 4 O) (bd : Bd true O E u) (y : YM τ w n0 σ0 p O E u σ) : f_X12_unit_2 N (RR t) 90 (m + 1) 1 σ = if dpt O ≤ 6 then bnd (f_X12_openUp N (RR t) 90 21 σ) fun _ σ2 => f_X12_unit_2 N (RR t) 90 m 1 σ2 else bnd (f_X12_wrong N (RR t) 90 2 σ) fun _ σ56 => bnd (f_X12_openUp N (RR t) 90 21 σ56) fun _ σ2 => f_X12_unit_2 N (RR t) 90 m 1 σ2 := by
  have hl := (bd_len bd).1
  have hd := bd.2.1
  obtain ⟨y1, y2, y3, y4, y5, y6, y7, y8, y9, y10, y11, y12⟩ := y
  obtain ⟨q, σq, eq, hq01, hqi, rfl⟩ := s_mayNot (N := N) (t := t) (by omega) bd.1 y5 y6
  have q1 : q = 1 := hqi.mpr hs
  show b_X12_unit_2 _ _ _ _ _ _ = _
  unfold b_X12_unit_2 f_X12_unit_44
  rw [if_neg (by decide), if_pos y3, bnd_e (s_isWord hb y2 (by decide) (by decide) w_not), decide_eq_true h9, if_neg (by decide), bnd_e eq, q1, if_neg (by decide), y7]
  by_cases h : dpt O ≤ 6
  · rw [if_pos (show nI (dpt O) ≤ (6 : Int32) from (nI_le h (by decide) : nI (dpt O) ≤ nI 6)), if_pos h]
  · rw [if_neg (show ¬ nI (dpt O) ≤ (6 : Int32) from (nI_ge (by omega) (by omega) : ¬ nI (dpt O) ≤ nI 6)), if_neg h]
/-- no not here -/
theorem u_53 {N t w n0 p u m : Nat} {τ : Tape} {σ0 σ : St} {O : List Nat} {E : List Cd} (hb : ∀ j, j < τ.1 → τ.2 j < 256) (h9 : ¬ (tk τ p = 9 ∧ stp 4 O)) (bd : Bd true O E u) (y : YM τ w n0 σ0 p O E u σ) : f_X12_unit_2 N (RR t) 90 (m + 1) 1 σ = f_X12_unit_53 N (RR t) 90 (f_X12_unit_2 N (RR t) 90 m) 1 σ := by
  have hl := (bd_len bd).1
  obtain ⟨y1, y2, y3, y4, y5, y6, y7, y8, y9, y10, y11, y12⟩ := y
  obtain ⟨q, σq, eq, hq01, hqi, rfl⟩ := s_mayNot (N := N) (t := t) (by omega) bd.1 y5 y6
  show b_X12_unit_2 _ _ _ _ _ _ = _
  unfold b_X12_unit_2
  rw [if_neg (by decide), if_pos y3, bnd_e (s_isWord hb y2 (by decide) (by decide) w_not)]
  by_cases h : tk τ p = 9
  · have q0 : q = 0 := hq01.resolve_left (fun z => h9 ⟨h, hqi.mp z⟩)
    rw [decide_eq_true h, if_neg (by decide), bnd_e eq, q0, if_pos rfl]
  · rw [decide_eq_false h, if_pos (show fl false = 0 from rfl)]
theorem srt_40 {k : Nat} (hk : k < 104) {a : Nat} (h1 : 37 ≤ a) (h2 : a ≤ 62) : nI (srt k) = nI a ↔ k = a := by
  have := srt_s k hk a h1 h2
  rw [Bool.eq_iff_iff] at this
  simpa using this
theorem clo_nt {N t w n0 : Nat} {τ : Tape} {σ0 : St} (hN : 20000 ≤ N) (hb : ∀ j, j < τ.1 → τ.2 j < 256) : clnt τ (XR N t τ w n0 σ0) := by
  intro p O E u r h9 hs hd X hp bd σ y n1 n2 hn1 hn2
  obtain ⟨m, rfl⟩ : ∃ m, n1 = m + 1 := ⟨n1 - 1, by omega⟩
  have g := tn_gt (τ := τ) (p := p) (by omega)
  have g' := tn_le hp
  rw [if_pos rfl, u_nt hb h9 hs bd y, if_pos hd, bnd_as]
  refine ok_call (ym_push (x := 10) hN hp (by omega) (by have := (bd_len bd).1; omega) (Or.inl rfl) y) (fun _ σ2 y2 => ?_)
  have := X g' (bd_nt bd hd) σ2 y2 m n2 (by omega) (by omega)
  rw [if_pos rfl] at this
  exact this
theorem clo_ntf {N t w n0 : Nat} {τ : Tape} {σ0 : St} (hb : ∀ j, j < τ.1 → τ.2 j < 256) : clntf τ (XR N t τ w n0 σ0) := by
  intro p O E u h9 hs hd hp bd σ y n1 n2 hn1 hn2
  obtain ⟨m, rfl⟩ : ∃ m, n1 = m + 1 := ⟨n1 - 1, by omega⟩
  have hl := (bd_len bd).1
  rw [if_pos rfl, u_nt hb h9 hs bd y, if_neg hd]
  refine x_unit (n := 0) (p := 0) (k := 0) (σ := σ) (ok_call (s_wrong hb y.2.1 y.2.2.1 (fun k hk => y.2.2.2.2.2.2.2.2.2.2.2 k (fun z => hk z.1))) (fun _ σ1 h1 => ok_call (flt_open (k := O.length) h1.1 (by rw [h1.2.1 21 (by decide) (by decide)]; exact y.2.2.2.2.1) (by omega)) (fun _ σ2 h2 => unit_flt h2 (by omega)))) (by omega)
theorem clo_br {N t w n0 : Nat} {τ : Tape} {σ0 : St} (hN : 20000 ≤ N) (hb : ∀ j, j < τ.1 → τ.2 j < 256) (h0 : n0 ≤ 30) : clbr τ (XR N t τ w n0 σ0) := by
  intro p O E u r h40 hu hd X hp bd σ y n1 n2 hn1 hn2
  obtain ⟨m, rfl⟩ : ∃ m, n1 = m + 1 := ⟨n1 - 1, by omega⟩
  have g := tn_gt (τ := τ) (p := p) (by omega)
  have g' := tn_le hp
  have y' := y
  obtain ⟨y1, y2, y3, y4, y5, y6, y7, y8, y9, y10, y11, y12⟩ := y
  have e : f_X12_unit_2 N (RR t) 90 (m + 1) 1 σ = bnd (f_X12_countUnit N (RR t) 90 σ) fun _ σ5 => bnd (f_X12_openUp N (RR t) 90 20 σ5) fun _ σ8 => f_X12_unit_2 N (RR t) 90 m 1 σ8 := by
    rw [u_53 hb (fun z => by omega) bd y']
    unfold f_X12_unit_53 f_X12_unit_83
    rw [y2.2.1, if_pos (show nI (srt (tk τ p)) = (40 : Int32) by rw [h40]; rfl), bnd_e (s_full y9 y8 h0 (by omega)), decide_eq_false (fun z => z hu), if_pos (show fl false = 0 from rfl), y7, if_pos (show nI (dpt O) ≤ (6 : Int32) from (nI_le hd (by decide) : nI (dpt O) ≤ nI 6))]
  rw [if_pos rfl, e, bnd_as]
  refine ok_call (ym_count y') (fun _ σ1 z1 => ?_)
  rw [bnd_as]
  refine ok_call (ym_push (x := 11) hN hp (by omega) (by have := (bd_len bd).1; omega) (Or.inr rfl) z1) (fun _ σ2 z2 => ?_)
  have := X g' (bd_br bd hd hu) σ2 z2 m n2 (by omega) (by omega)
  rw [if_pos rfl] at this
  exact this
theorem clo_brf {N t w n0 : Nat} {τ : Tape} {σ0 : St} (hb : ∀ j, j < τ.1 → τ.2 j < 256) (h0 : n0 ≤ 30) : clbrf τ (XR N t τ w n0 σ0) := by
  intro p O E u h40 hnd hp bd σ y n1 n2 hn1 hn2
  obtain ⟨m, rfl⟩ : ∃ m, n1 = m + 1 := ⟨n1 - 1, by omega⟩
  have hl := (bd_len bd).1
  have hd7 := bd.2.1
  have hu30 := bd.2.2.1
  have y' := y
  obtain ⟨y1, y2, y3, y4, y5, y6, y7, y8, y9, y10, y11, y12⟩ := y
  have e : f_X12_unit_2 N (RR t) 90 (m + 1) 1 σ = f_X12_unit_78 N (RR t) 90 (f_X12_unit_2 N (RR t) 90 m) 1 σ := by
    rw [u_53 hb (fun z => by omega) bd y']
    unfold f_X12_unit_53
    rw [y2.2.1, if_pos (show nI (srt (tk τ p)) = (40 : Int32) by rw [h40]; rfl), bnd_e (s_full y9 y8 h0 hu30)]
    by_cases hu : u < 30
    · have hd : ¬ dpt O ≤ 6 := fun z => hnd ⟨hu, z⟩
      rw [decide_eq_false (fun z => z hu), if_pos (show fl false = 0 from rfl), y7, if_neg (show ¬ nI (dpt O) ≤ (6 : Int32) from (nI_ge (by omega) (by omega) : ¬ nI (dpt O) ≤ nI 6))]
    · rw [decide_eq_true hu, if_neg (by decide)]
  rw [if_pos rfl, e]
  unfold f_X12_unit_78 f_X12_unit_83
  refine x_unit (n := 0) (p := 0) (k := 0) (σ := σ) (ok_call (s_wrong hb y2 y3 (fun k hk => y12 k (fun z => hk z.1))) (fun _ σ1 h1 => ok_call (flt_count h1.1) (fun _ σ2 h2 => ok_call (flt_open (k := O.length) h2.1 (by rw [h2.2, h1.2.1 21 (by decide) (by decide)]; exact y5) (by omega)) (fun _ σ3 h3 => unit_flt h3 (by omega))))) (by omega)
