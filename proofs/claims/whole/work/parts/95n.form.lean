/-! THE MODEL's FORMULA, whole -/
theorem clo_op {N t w n0 : Nat} {τ : Tape} {σ0 : St} (hN : 20000 ≤ N) (hb : ∀ j, j < τ.1 → τ.2 j < 256) (hw : w < 2) : clop τ (XR N t τ w n0 σ0) := by
  intro p s P O E u r es hrel hP hO X hp bd σ y n1 n2 hn1 hn2
  obtain ⟨m, rfl⟩ : ∃ m, n2 = m + 1 := ⟨n2 - 1, by omega⟩
  have h10 := opk_lt es
  have hk := tk_lt (p := p) hb
  have hkk := (op_tk _ hk).1 s es
  have htg := tg_op s h10
  have h41 : tk τ p ≠ 41 := fun z => by rw [z] at es; exact absurd ((show opk 41 = none by decide).symm.trans es) (fun z => by cases z)
  have h102 : tk τ p ≠ 102 := fun z => by rw [z] at es; exact absurd ((show opk 102 = none by decide).symm.trans es) (fun z => by cases z)
  have h103 : tk τ p ≠ 103 := fun z => by rw [z] at es; exact absurd ((show opk 103 = none by decide).symm.trans es) (fun z => by cases z)
  have g := tn_gt h102
  have g' := tn_le hp
  have hl := (bd_len bd).1
  rw [if_neg (by decide)]
  refine ok_bnd rfl ?_
  rw [f_50 hN hb bd y (fun z => h41 z.1), show sgn (tk τ p) = enO s by unfold sgn; rw [es]; exact (opM_nz s h10).2]
  have hnz : ¬ enO s = 0 := by rw [← (opM_nz s h10).2]; exact (opM_nz s h10).1
  have go : Ok (f_X12_formula_133 N (RR t) 90 (nI w) (f_X12_formula_50 N (RR t) 90 (nI w) m) 1 (enO s) σ) (fun _ σ' => QM τ w n0 σ0 r σ') := by
    unfold f_X12_formula_133 f_X12_formula_174
    rw [bnd_e (s_tight (by omega))]
    refine ok_call (ym_close (l := tg s) (P := P) (O := O) hN hw hO htg.2.1 rfl hP bd y) (fun _ σ1 z => ?_)
    obtain ⟨y1, y2, y3, y4, y5, y6, y7, y8, y9, y10, y11, y12⟩ := z
    have hOl : O.length < 160 := by rw [List.length_append] at hl; omega
    rw [r_90_17 rfl, y5, nI_clamp (show O.length < 2 ^ 31 by omega)]
    refine ok_gd (ib_nI hOl (by decide)) (ok_sI2 fun σ2 n2' u2 f2 => ok_sI2 fun σ3 n3 u3 f3 => ?_)
    have k3 : ∀ k, k ≠ 21 → σ3.1 90 k = σ1.1 90 k := fun k a => by rw [u3, pk_un a, n2' 90 (by decide)]
    have e3 : ∀ q, q ≠ 90 → q ≠ 99 → σ3.1 q = σ1.1 q := fun q a b => by rw [n3 q a, n2' q b]
    refine ok_call (ym_tok (w := w) (n0 := n0) (σ0 := σ0) (u := u) (O := s :: O) (E := E ++ P.map outc) hN hp h103 ⟨TapM_cg y1 (k3 5 (by decide)) (e3 91 (by decide) (by decide)), lm_cg y2 (fun k hk => k3 k (by omega)) (by rw [f3, f2]), ?_, ?_, ?_, ?_, ?_, ?_, ?_, em_cg y10 (fun q _ _ => e3 q (by omega) (by omega)), ot_cg y11 (fun q _ _ => e3 q (by omega) (by omega)), fun j hj => ?_⟩) (fun _ σ4 y' => ?_)
    · rw [k3 2 (by decide)]; exact y3
    · rw [k3 20 (by decide)]; exact y4
    · rw [u3, pk_us, n2' 90 (by decide), y5, nI_1 O.length]; rfl
    · rw [n3 99 (by decide), u2]
      exact ⟨pk_us, stO_upd (Nat.le_refl _) y6⟩
    · rw [k3 25 (by decide), dpt_op h10]; exact y7
    · rw [k3 24 (by decide)]; exact y8
    · rw [k3 22 (by decide)]; exact y9
    · rw [k3 j (fun z => hj (by unfold nY nF; omega))]; exact y12 j hj
    · have := X g' (bd_op bd (fun x hx => (hP x hx).1) h10) σ4 y' N m (by have := y1.1; omega) (by omega)
      rw [if_pos rfl] at this
      exact this
  unfold f_X12_formula_114
  rw [if_neg hnz, bnd_e (s_tight (by omega))]
  by_cases h4 : tg s = 4
  · obtain ⟨q, σq, eq, hq01, hqi, rfl⟩ := s_hasRel (N := N) (t := t) hN (by omega) bd.1 y.2.2.2.2.1 y.2.2.2.2.2.1
    have q0 : q = 0 := hq01.resolve_left (fun z => hrel ⟨h4, hqi.mp z⟩)
    rw [if_pos (show nI (tg s) = (4 : Int32) by rw [h4]; rfl), bnd_e eq, q0, if_pos rfl]
    exact go
  · rw [if_neg (show ¬ nI (tg s) = (4 : Int32) from fun z => h4 ((nI_eq (b := 4) (by omega) (by decide)).mp z))]
    exact go
theorem clo_all {N t w n0 : Nat} {τ : Tape} {σ0 : St} (hN : 20000 ≤ N) (hb : ∀ j, j < τ.1 → τ.2 j < 256) (h0 : n0 ≤ 30) (hw : w < 2) : Clo τ (XR N t τ w n0 σ0) :=
  ⟨clo_nt hN hb, clo_ntf hb, clo_br hN hb h0, clo_brf hb h0, clo_un hN hb h0 hw, clo_unf hb h0, clo_cl hN hb hw, clo_op hN hb hw, clo_stf hN hb, clo_st hN hb hw⟩
