/-! THE MODEL's RUN follows the yard: closings, signs, the end -/
theorem ym_close {N t w n0 p u l : Nat} {τ : Tape} {σ0 σ : St} {P O : List Nat} {E : List Cd} {x : Int32} (hN : 20000 ≤ N) (hw : w < 2) (hO : stp l O) (hl : l ≤ 6) (hx : x = nI l) (hP : ∀ x ∈ P, x ≠ 11 ∧ l ≤ tg x) (bd : Bd false (P ++ O) E u) (y : YM τ w n0 σ0 p (P ++ O) E u σ) : Ok (f_X12_close N (RR t) 90 x σ) (fun _ σ' => YM τ w n0 σ0 p O (E ++ P.map outc) u σ') := by
  have hb := bd_len bd
  have hnb : nb (P ++ O) = P.length + nb O := by rw [nb_app, nb_len (fun x hx => (hP x hx).1)]
  have hlen : (P ++ O).length = P.length + O.length := List.length_append
  obtain ⟨y1, y2, y3, y4, y5, y6, y7, y8, y9, y10, y11, y12⟩ := y
  subst hx
  unfold f_X12_close
  refine ok_mono (s_close (t := t) hw hO hl P E N σ hP bd.1 (by omega) (by omega) (by omega) y4 y5 y6 y10 y7) (fun r σ' h => ?_)
  obtain ⟨g1, g2, g3, g4, g5, g6, g7⟩ := h
  refine ⟨TapM_cg y1 (g5 5 (by decide) (by decide)) (g6 91 (by decide) (by decide)), lm_cg y2 (fun k hk => g5 k (by omega) (by omega)) g7, ?_, ?_, g3, ?_, g4, ?_, ?_, g1, ot_trans y11 g2, fun j hj => ?_⟩
  · rw [g5 2 (by decide) (by decide)]; exact y3
  · rw [g5 20 (by decide) (by decide)]; exact y4
  · rw [g6 99 (by decide) (by decide)]; exact stO_suf y6
  · rw [g5 24 (by decide) (by decide)]; exact y8
  · rw [g5 22 (by decide) (by decide)]; exact y9
  · rw [g5 j (fun z => hj (by unfold nY nF; omega)) (fun z => hj (by unfold nY nF; omega))]; exact y12 j hj
theorem f_50 {N t w n0 p u m : Nat} {τ : Tape} {σ0 σ : St} {O : List Nat} {E : List Cd} (hN : 20000 ≤ N) (hb : ∀ j, j < τ.1 → τ.2 j < 256) (bd : Bd false O E u) (y : YM τ w n0 σ0 p O E u σ) (hn : ¬ (tk τ p = 41 ∧ 11 ∈ O)) : f_X12_formula_50 N (RR t) 90 (nI w) (m + 1) 1 σ = f_X12_formula_114 N (RR t) 90 (nI w) (f_X12_formula_50 N (RR t) 90 (nI w) m) 1 (sgn (tk τ p)) σ := by
  have hk := tk_lt (p := p) hb
  have hl := (bd_len bd).1
  obtain ⟨y1, y2, y3, y4, y5, y6, y7, y8, y9, y10, y11, y12⟩ := y
  obtain ⟨q, σq, eq, hq, rfl⟩ := s_hasBr (N := N) (t := t) hN (by omega) bd.1 y5 y6
  show b_X12_formula_50 _ _ _ _ _ _ _ = _
  unfold b_X12_formula_50
  rw [if_neg (by decide), if_pos y3, bnd_e (s_sign hb y2), y2.2.1]
  by_cases h : tk τ p = 41
  · rw [if_pos (show nI (srt (tk τ p)) = (41 : Int32) by rw [h]; rfl), bnd_e eq, hq, decide_eq_false (fun z => hn ⟨h, z⟩), if_pos (show fl false = 0 from rfl)]
  · rw [if_neg (show ¬ nI (srt (tk τ p)) = (41 : Int32) from fun z => h ((srt_40 hk (a := 41) (by decide) (by decide)).mp z))]
theorem opM_nz : ∀ s, s < 10 → ¬ opM s = 0 ∧ opM s = enO s := by decide +kernel
/-- the loop stops -/
theorem f_stop {N t w n0 p u m : Nat} {τ : Tape} {σ0 σ : St} {O : List Nat} {E : List Cd} (hN : 20000 ≤ N) (hb : ∀ j, j < τ.1 → τ.2 j < 256) (bd : Bd false O E u) (y : YM τ w n0 σ0 p O E u σ) (hn : ¬ (tk τ p = 41 ∧ 11 ∈ O)) (hs : ∀ s, opk (tk τ p) = some s → tg s = 4 ∧ hasRel O) : f_X12_formula_50 N (RR t) 90 (nI w) (m + 2) 1 σ = f_X12_formula_177 N (RR t) 90 (nI w) σ := by
  have hl := (bd_len bd).1
  have e0 : f_X12_formula_50 N (RR t) 90 (nI w) (m + 1) 0 σ = f_X12_formula_177 N (RR t) 90 (nI w) σ := by
    show b_X12_formula_50 _ _ _ _ _ _ _ = _
    unfold b_X12_formula_50
    rw [if_pos rfl]
  rw [f_50 hN hb bd y hn]
  unfold f_X12_formula_114 f_X12_formula_172 f_X12_formula_174
  cases h : opk (tk τ p) with
  | none =>
    rw [show sgn (tk τ p) = 0 by unfold sgn; rw [h], if_pos rfl]
    exact e0
  | some s =>
    have h10 := opk_lt h
    obtain ⟨z1, z2⟩ := hs s h
    obtain ⟨q, σq, eq, hq01, hqi, rfl⟩ := s_hasRel (N := N) (t := t) hN (by omega) bd.1 y.2.2.2.2.1 y.2.2.2.2.2.1
    rw [show sgn (tk τ p) = opM s by unfold sgn; rw [h], if_neg (opM_nz s h10).1, (opM_nz s h10).2, bnd_e (s_tight (by omega)), z1, if_pos (show nI 4 = (4 : Int32) from rfl), bnd_e eq, hqi.mpr z2, if_neg (by decide)]
    exact e0
theorem clo_stf {N t w n0 : Nat} {τ : Tape} {σ0 : St} (hN : 20000 ≤ N) (hb : ∀ j, j < τ.1 → τ.2 j < 256) : clstf τ (XR N t τ w n0 σ0) := by
  intro p O E u h41 hs h11 hp bd σ y n1 n2 hn1 hn2
  obtain ⟨m, rfl⟩ : ∃ m, n2 = m + 2 := ⟨n2 - 2, by omega⟩
  have hl := (bd_len bd).1
  rw [if_neg (by decide)]
  refine ok_bnd rfl ?_
  rw [f_stop hN hb bd y (fun z => h41 z.1) hs]
  obtain ⟨q, σq, eq, hq, rfl⟩ := s_hasBr (N := N) (t := t) hN (by omega) bd.1 y.2.2.2.2.1 y.2.2.2.2.2.1
  unfold f_X12_formula_177 f_X12_formula_196 f_X12_formula_208
  rw [if_pos y.2.2.1, bnd_e eq, hq, decide_eq_true h11, if_neg (by decide)]
  exact ok_call (s_wrong hb y.2.1 y.2.2.1 (fun k hk => y.2.2.2.2.2.2.2.2.2.2.2 k (fun z => hk z.1))) (fun _ σ1 h1 => ok_neg (flt_nz h1.1).1 (ok_ret h1.1))
theorem clo_st {N t w n0 : Nat} {τ : Tape} {σ0 : St} (hN : 20000 ≤ N) (hb : ∀ j, j < τ.1 → τ.2 j < 256) (hw : w < 2) : clst τ (XR N t τ w n0 σ0) := by
  intro p O E u hs h11 hp bd σ y n1 n2 hn1 hn2
  obtain ⟨m, rfl⟩ : ∃ m, n2 = m + 2 := ⟨n2 - 2, by omega⟩
  have hl := (bd_len bd).1
  rw [if_neg (by decide)]
  refine ok_bnd rfl ?_
  rw [f_stop hN hb bd y (fun z => h11 z.2) hs]
  obtain ⟨q, σq, eq, hq, rfl⟩ := s_hasBr (N := N) (t := t) hN (by omega) bd.1 y.2.2.2.2.1 y.2.2.2.2.2.1
  unfold f_X12_formula_177 f_X12_formula_196 f_X12_formula_208
  rw [if_pos y.2.2.1, bnd_e eq, hq, decide_eq_false h11, if_pos (show fl false = 0 from rfl), if_pos y.2.2.1]
  have hO : O ++ [] = O := List.append_nil O
  refine ok_call (ym_close (l := 0) (P := O) (O := []) hN hw trivial (by decide) rfl (fun x hx => ⟨fun z => h11 (by rw [← z]; exact hx), Nat.zero_le _⟩) (by rw [hO]; exact bd) (by rw [hO]; exact y)) (fun _ σ1 z => ok_ret ?_)
  obtain ⟨y1, y2, y3, y4, y5, y6, y7, y8, y9, y10, y11, y12⟩ := z
  exact ⟨y1, y2, y3, y9, y10, y11, y12⟩
theorem clo_cl {N t w n0 : Nat} {τ : Tape} {σ0 : St} (hN : 20000 ≤ N) (hb : ∀ j, j < τ.1 → τ.2 j < 256) (hw : w < 2) : clcl τ (XR N t τ w n0 σ0) := by
  intro p P O E u r h41 hP X hp bd σ y n1 n2 hn1 hn2
  obtain ⟨m, rfl⟩ : ∃ m, n2 = m + 1 := ⟨n2 - 1, by omega⟩
  have g := tn_gt (τ := τ) (p := p) (by omega)
  have g' := tn_le hp
  have hl := (bd_len bd).1
  have hlen : (11 :: O).length = O.length + 1 := rfl
  rw [if_neg (by decide)]
  refine ok_bnd rfl ?_
  obtain ⟨q, σq, eq, hq, rfl⟩ := s_hasBr (N := N) (t := t) hN (by omega) bd.1 y.2.2.2.2.1 y.2.2.2.2.2.1
  show Ok (b_X12_formula_50 _ _ _ _ _ _ _) _
  unfold b_X12_formula_50 f_X12_formula_174
  rw [if_neg (by decide), if_pos y.2.2.1, bnd_e (s_sign hb y.2.1), y.2.1.2.1, if_pos (show nI (srt (tk τ p)) = (41 : Int32) by rw [h41]; rfl), bnd_e eq, hq, decide_eq_true (show 11 ∈ P ++ 11 :: O by simp), if_neg (by decide)]
  refine ok_call (ym_close (l := 0) (P := P) (O := 11 :: O) hN hw (Or.inl rfl) (by decide) rfl (fun x hx => ⟨hP x hx, Nat.zero_le _⟩) bd y) (fun _ σ1 z => ok_sI2 fun σ2 n2' u2 f2 => ok_sI2 fun σ3 n3 u3 f3 => ?_)
  obtain ⟨y1, y2, y3, y4, y5, y6, y7, y8, y9, y10, y11, y12⟩ := z
  have k3 : ∀ k, k ≠ 21 → k ≠ 25 → σ3.1 90 k = σ1.1 90 k := fun k a b => by rw [u3, pk_un b, u2, pk_un a]
  have e3 : ∀ q, q ≠ 90 → σ3.1 q = σ1.1 q := fun q a => by rw [n3 q a, n2' q a]
  refine ok_call (ym_tok (w := w) (n0 := n0) (σ0 := σ0) (u := u) (O := O) (E := E ++ P.map outc) hN hp (by omega) ⟨TapM_cg y1 (k3 5 (by decide) (by decide)) (e3 91 (by decide)), lm_cg y2 (fun k hk => k3 k (by omega) (by omega)) (by rw [f3, f2]), ?_, ?_, ?_, ?_, ?_, ?_, ?_, em_cg y10 (fun q _ _ => e3 q (by omega)), ot_cg y11 (fun q _ _ => e3 q (by omega)), fun j hj => ?_⟩) (fun _ σ4 y' => ?_)
  · rw [k3 2 (by decide) (by decide)]; exact y3
  · rw [k3 20 (by decide) (by decide)]; exact y4
  · rw [u3, pk_un (by decide), u2, pk_us, y5, nI_sub1]; exact pk_m1 O.length
  · rw [e3 99 (by decide)]; exact y6.2
  · rw [u3, pk_us, u2, pk_un (by decide), y7, dpt_br, nI_sub1]; exact pk_m1 (dpt O)
  · rw [k3 24 (by decide) (by decide)]; exact y8
  · rw [k3 22 (by decide) (by decide)]; exact y9
  · rw [k3 j (fun z => hj (by unfold nY nF; omega)) (fun z => hj (by unfold nY nF; omega))]; exact y12 j hj
  · have := X g' (bd_cl bd hP) σ4 y' (τ.1 - tn τ p + 2) m (Nat.le_refl _) (by omega)
    rw [if_neg (by decide)] at this
    exact this
