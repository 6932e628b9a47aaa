/-! THE MODEL's LINE with its end -/
theorem s_260 {N : Nat} {ρ : Nat → Nat → Nat} {τ : Tape} {e : Flt} {σ0 σ : St} (h : FMd τ e σ) (k : KG σ0 σ) : Ok (f_X12_readLine_249 N ρ 90 σ) (LnM τ σ0 (.inr e)) := by
  unfold f_X12_readLine_249 f_X12_readLine_260
  exact ok_neg (fm_nz h).1 (ok_ret ⟨h, k⟩)
theorem s_228 {N t : Nat} {τ : Tape} {o1 o : Lo} {σ0 σ : St} {r : Int32} (hN : 20000 ≤ N) (hb : ∀ j, j < τ.1 → τ.2 j < 256) (hs : semO τ o1 o) (h : LnM τ σ0 o1 r σ) : Ok (f_X12_readLine_228 N (RR t) 90 σ) (LnM τ σ0 o) := by
  cases o1 with
  | inr e =>
    have hs : o = .inr e := hs
    subst hs
    unfold f_X12_readLine_228
    exact ok_neg (fm_nz h.1).1 (s_260 h.1 h.2)
  | inl q =>
    obtain ⟨p', D'⟩ := q
    obtain ⟨⟨h1, d1⟩, k1⟩ := h
    have hk := tk_lt (p := p') hb
    have hs : if tk τ p' = 59 then o = .inl (tn τ p', D') else o = .inr (2, p') := hs
    unfold f_X12_readLine_228
    rw [h1.2.2.2.1, h1.2.1.2.1]
    refine ok_pos rfl ?_
    by_cases c : tk τ p' = 59
    · rw [if_pos c] at hs
      subst hs
      refine ok_pos ((srt_40 hk (by decide) (by decide)).mpr c) ?_
      unfold f_X12_readLine_249 f_X12_readLine_260
      refine ok_pos h1.2.2.2.1 (ok_call (lm_tok hN (by omega) h1) (fun _ σ2 z => ok_ret ?_))
      obtain ⟨h2, w⟩ := z
      exact ⟨⟨h2, DM_cg d1 (fun k hk => w.1 k (nT_n (by omega))) (fun q hq => (w.2 q (by unfold A90; omega)).1) (fun b i _ _ => by rw [(w.2 92 (by unfold A90; decide)).2])⟩, kg_trans k1 (kg_kt w)⟩
    · rw [if_neg c] at hs
      subst hs
      refine ok_neg (fun z => c ((srt_40 hk (a := 59) (by decide) (by decide)).mp z)) (ok_call (lm_wrong rfl (by decide) hb h1) (fun _ σ2 z => ?_))
      exact s_260 z.1 (kg_trans k1 (kg_kt z.2))
theorem rl10 {N : Nat} {ρ : Nat → Nat → Nat} {p : Nat} {τ : Tape} {D : Dr} {σ : St} (hb : ∀ j, j < τ.1 → τ.2 j < 256) (wf : WfD D) (h : LMd τ p σ) (hx : DM D σ) (c : tk τ p ≠ 10 ∨ ¬ cn (dc D) 0 < 6) : f_X12_readLine N ρ 90 σ = f_X12_readLine_26 N ρ 90 σ := by
  have e : σ.1 90 44 = nI (cn (dc D) 0) := hx.1.1 0 (by decide)
  have l : cn (dc D) 0 ≤ 6 := wf.1.1
  unfold f_X12_readLine
  rw [bnd_e (s_isWord hb h.2.1 (k := 10) (by decide) (by decide) (by decide +kernel)), e]
  by_cases c1 : tk τ p = 10
  · rw [fl_y c1, if_neg (by decide), if_pos (show (6 : Int32) ≤ nI (cn (dc D) 0) from nI_le (a := 6) (by omega) (by omega))]
  · rw [fl_n c1, if_pos rfl]
theorem rl13 {N : Nat} {ρ : Nat → Nat → Nat} {p : Nat} {τ : Tape} {D : Dr} {σ : St} (hb : ∀ j, j < τ.1 → τ.2 j < 256) (wf : WfD D) (h : LMd τ p σ) (hx : DM D σ) (c : tk τ p ≠ 13 ∨ ¬ cn (dc D) 1 < 5) : f_X12_readLine_26 N ρ 90 σ = f_X12_readLine_51 N ρ 90 σ := by
  have e : σ.1 90 45 = nI (cn (dc D) 1) := hx.1.1 1 (by decide)
  have l : cn (dc D) 1 ≤ 5 := wf.1.2.1
  unfold f_X12_readLine_26
  rw [bnd_e (s_isWord hb h.2.1 (k := 13) (by decide) (by decide) (by decide +kernel)), e]
  by_cases c1 : tk τ p = 13
  · rw [fl_y c1, if_neg (by decide), if_pos (show (5 : Int32) ≤ nI (cn (dc D) 1) from nI_le (a := 5) (by omega) (by omega))]
  · rw [fl_n c1, if_pos rfl]
theorem z32 : (0 : Int32).toNatClampNeg = 0 ∧ (1 : Int32).toNatClampNeg = 1 := ⟨rfl, rfl⟩
theorem rl15 {N t p : Nat} {τ : Tape} {D : Dr} {σ : St} (hb : ∀ j, j < τ.1 → τ.2 j < 256) (h : LMd τ p σ) (hx : DM D σ) (c : tk τ p ≠ 15 ∨ fE (dc D) 0 ≠ []) : f_X12_readLine_51 N (RR t) 90 σ = f_X12_readLine_78 N (RR t) 90 σ := by
  unfold f_X12_readLine_51
  rw [bnd_e (s_isWord hb h.2.1 (k := 15) (by decide) (by decide) (by decide +kernel)), gd_t (show ib 0 2 = true from rfl), r_90_19 rfl, z32.1]
  by_cases c1 : tk τ p = 15
  · have e : σ.1 101 0 = 1 := by rw [hx.2.1.1]; exact fl_y (c.resolve_left (fun z => z c1))
    rw [fl_y c1, if_neg (show ¬ (1 : Int32) = 0 by decide), e, if_neg (show ¬ (1 : Int32) = 0 by decide)]
  · rw [fl_n c1, if_pos rfl]
theorem rl16 {N t p : Nat} {τ : Tape} {D : Dr} {σ : St} (hb : ∀ j, j < τ.1 → τ.2 j < 256) (h : LMd τ p σ) (hx : DM D σ) (c : tk τ p ≠ 16 ∨ fE (dc D) 1 ≠ []) : f_X12_readLine_78 N (RR t) 90 σ = f_X12_readLine_105 N (RR t) 90 σ := by
  unfold f_X12_readLine_78
  rw [bnd_e (s_isWord hb h.2.1 (k := 16) (by decide) (by decide) (by decide +kernel)), gd_t (show ib 1 2 = true from rfl), r_90_19 rfl, z32.2]
  by_cases c1 : tk τ p = 16
  · have e : σ.1 101 1 = 1 := by rw [hx.2.1.2]; exact fl_y (c.resolve_left (fun z => z c1))
    rw [fl_y c1, if_neg (show ¬ (1 : Int32) = 0 by decide), e, if_neg (show ¬ (1 : Int32) = 0 by decide)]
  · rw [fl_n c1, if_pos rfl]
theorem fl_t {b : Bool} (h : b = true) : fl b = 1 := by rw [h]; rfl
theorem fl_f {b : Bool} (h : b = false) : fl b = 0 := by rw [h]; rfl
theorem rl17 {N : Nat} {ρ : Nat → Nat → Nat} {p : Nat} {τ : Tape} {D : Dr} {σ : St} (hb : ∀ j, j < τ.1 → τ.2 j < 256) (h : LMd τ p σ) (hx : DM D σ) (c : tk τ p ≠ 17 ∨ dh D 0 = true) : f_X12_readLine_105 N ρ 90 σ = f_X12_readLine_144 N ρ 90 σ := by
  unfold f_X12_readLine_105
  rw [bnd_e (s_isWord hb h.2.1 (k := 17) (by decide) (by decide) (by decide +kernel))]
  by_cases c1 : tk τ p = 17
  · rw [fl_y c1, if_neg (show ¬ (1 : Int32) = 0 by decide), show σ.1 90 53 = _ from hx.1.2.2.1 0 (by decide), fl_t (c.resolve_left (fun z => z c1)), if_neg (show ¬ (1 : Int32) = 0 by decide)]
  · rw [fl_n c1, if_pos rfl]
theorem rl18 {N : Nat} {ρ : Nat → Nat → Nat} {p : Nat} {τ : Tape} {D : Dr} {σ : St} (hb : ∀ j, j < τ.1 → τ.2 j < 256) (h : LMd τ p σ) (hx : DM D σ) (c : tk τ p ≠ 18 ∨ dh D 1 = true) : f_X12_readLine_144 N ρ 90 σ = f_X12_readLine_183 N ρ 90 σ := by
  unfold f_X12_readLine_144
  rw [bnd_e (s_isWord hb h.2.1 (k := 18) (by decide) (by decide) (by decide +kernel))]
  by_cases c1 : tk τ p = 18
  · rw [fl_y c1, if_neg (show ¬ (1 : Int32) = 0 by decide), show σ.1 90 54 = _ from hx.1.2.2.1 1 (by decide), fl_t (c.resolve_left (fun z => z c1)), if_neg (show ¬ (1 : Int32) = 0 by decide)]
  · rw [fl_n c1, if_pos rfl]
theorem rl19 {N : Nat} {ρ : Nat → Nat → Nat} {p : Nat} {τ : Tape} {D : Dr} {σ : St} (hb : ∀ j, j < τ.1 → τ.2 j < 256) (h : LMd τ p σ) (hx : DM D σ) (c : tk τ p ≠ 19 ∨ dh D 2 = true) : f_X12_readLine_183 N ρ 90 σ = f_X12_readLine_223 N ρ 90 σ := by
  unfold f_X12_readLine_183
  rw [bnd_e (s_isWord hb h.2.1 (k := 19) (by decide) (by decide) (by decide +kernel))]
  by_cases c1 : tk τ p = 19
  · rw [fl_y c1, if_neg (show ¬ (1 : Int32) = 0 by decide), show σ.1 90 55 = _ from hx.1.2.2.1 2 (by decide), fl_t (c.resolve_left (fun z => z c1)), if_neg (show ¬ (1 : Int32) = 0 by decide)]
  · rw [fl_n c1, if_pos rfl]
set_option maxHeartbeats 1000000 in
theorem s_lineM {N t p : Nat} {τ : Tape} {D : Dr} {o : Lo} {σ : St} (hN : 20000 ≤ N) (hb : ∀ j, j < τ.1 → τ.2 j < 256) (wf : WfD D) (h : LMd τ p σ) (hx : DM D σ) (hl : LineS τ p D o) : Ok (f_X12_readLine N (RR t) 90 σ) (LnM τ σ o) := by
  obtain ⟨o1, hl, hs⟩ := hl
  rcases hl with ⟨b, hb2, hk, hc, rfl⟩ | ⟨w, hw, hk, h0, r, mr, hr, rfl⟩ | ⟨j, hj, hk, h0, rfl⟩ | ⟨g1, g2, g3, rfl⟩
  · rcases (show b = 0 ∨ b = 1 by omega) with rfl | rfl
    · have hc : cn (dc D) 0 < 6 := hc
      unfold f_X12_readLine
      rw [bnd_e (s_isWord hb h.2.1 (k := 10) (by decide) (by decide) (by decide +kernel)), fl_y hk, if_neg (show ¬ (1 : Int32) = 0 by decide), show σ.1 90 44 = nI (cn (dc D) 0) from hx.1.1 0 (by decide), if_neg (show ¬ (6 : Int32) ≤ nI (cn (dc D) 0) from nI_ge (b := 6) hc (by decide))]
      exact ok_call (s_hearthM hN hb wf h hx hk hc) (fun r σ1 z => s_228 hN hb hs z)
    · have hc : cn (dc D) 1 < 5 := hc
      rw [rl10 hb wf h hx (Or.inl (by omega))]
      unfold f_X12_readLine_26
      rw [bnd_e (s_isWord hb h.2.1 (k := 13) (by decide) (by decide) (by decide +kernel)), fl_y hk, if_neg (show ¬ (1 : Int32) = 0 by decide), show σ.1 90 45 = nI (cn (dc D) 1) from hx.1.1 1 (by decide), if_neg (show ¬ (5 : Int32) ≤ nI (cn (dc D) 1) from nI_ge (b := 5) hc (by decide))]
      exact ok_call (s_stoolM hN hb wf h hx hk hc) (fun r σ1 z => s_228 hN hb hs z)
  · rw [rl10 hb wf h hx (Or.inl (by omega)), rl13 hb wf h hx (Or.inl (by omega))]
    rcases (show w = 0 ∨ w = 1 by omega) with rfl | rfl
    · unfold f_X12_readLine_51
      have e : σ.1 101 0 = 0 := by rw [hx.2.1.1]; exact fl_n (fun z => z h0)
      rw [bnd_e (s_isWord hb h.2.1 (k := 15) (by decide) (by decide) (by decide +kernel)), fl_y hk, if_neg (show ¬ (1 : Int32) = 0 by decide), gd_t (show ib 0 2 = true from rfl), r_90_19 rfl, z32.1, e, if_pos rfl]
      exact ok_call (s_formM (w := 0) hN hb (by decide) rfl wf h hx hk h0 mr hr) (fun r σ1 z => s_228 hN hb hs z)
    · rw [rl15 hb h hx (Or.inl (by omega))]
      unfold f_X12_readLine_78
      have e : σ.1 101 1 = 0 := by rw [hx.2.1.2]; exact fl_n (fun z => z h0)
      rw [bnd_e (s_isWord hb h.2.1 (k := 16) (by decide) (by decide) (by decide +kernel)), fl_y hk, if_neg (show ¬ (1 : Int32) = 0 by decide), gd_t (show ib 1 2 = true from rfl), r_90_19 rfl, z32.2, e, if_pos rfl]
      exact ok_call (s_formM (w := 1) hN hb (by decide) rfl wf h hx hk h0 mr hr) (fun r σ1 z => s_228 hN hb hs z)
  · rw [rl10 hb wf h hx (Or.inl (by omega)), rl13 hb wf h hx (Or.inl (by omega)), rl15 hb h hx (Or.inl (by omega)), rl16 hb h hx (Or.inl (by omega))]
    rcases (show j = 0 ∨ j = 1 ∨ j = 2 by omega) with rfl | rfl | rfl
    · unfold f_X12_readLine_105
      rw [bnd_e (s_isWord hb h.2.1 (k := 17) (by decide) (by decide) (by decide +kernel)), fl_y hk, if_neg (show ¬ (1 : Int32) = 0 by decide), show σ.1 90 53 = _ from hx.1.2.2.1 0 (by decide), fl_f h0, if_pos rfl]
      exact tdO_M (j := 0) hN hb (by decide) (by decide +kernel) rfl rfl h hx (fun r σ1 z => s_228 hN hb hs z)
    · rw [rl17 hb h hx (Or.inl (by omega))]
      unfold f_X12_readLine_144
      rw [bnd_e (s_isWord hb h.2.1 (k := 18) (by decide) (by decide) (by decide +kernel)), fl_y hk, if_neg (show ¬ (1 : Int32) = 0 by decide), show σ.1 90 54 = _ from hx.1.2.2.1 1 (by decide), fl_f h0, if_pos rfl]
      exact tdO_M (j := 1) hN hb (by decide) (by decide +kernel) rfl rfl h hx (fun r σ1 z => s_228 hN hb hs z)
    · rw [rl17 hb h hx (Or.inl (by omega)), rl18 hb h hx (Or.inl (by omega))]
      unfold f_X12_readLine_183
      rw [bnd_e (s_isWord hb h.2.1 (k := 19) (by decide) (by decide) (by decide +kernel)), fl_y hk, if_neg (show ¬ (1 : Int32) = 0 by decide), show σ.1 90 55 = _ from hx.1.2.2.1 2 (by decide), fl_f h0, if_pos rfl]
      exact tdO_M (j := 2) hN hb (by decide) (by decide +kernel) rfl rfl h hx (fun r σ1 z => s_228 hN hb hs z)
  · have em : ∀ {A B : Prop}, (A → B) → ¬ A ∨ B := fun f => (Classical.em _).elim (fun a => Or.inr (f a)) Or.inl
    rw [rl10 hb wf h hx (em (fun z => g1 0 (by decide) z)), rl13 hb wf h hx (em (fun z => g1 1 (by decide) z)), rl15 hb h hx (em (fun z => g2 0 (by decide) z)), rl16 hb h hx (em (fun z => g2 1 (by decide) z)), rl17 hb h hx (em (fun z => g3 0 (by decide) z)), rl18 hb h hx (em (fun z => g3 1 (by decide) z)), rl19 hb h hx (em (fun z => g3 2 (by decide) z))]
    unfold f_X12_readLine_223
    exact ok_call (lm_wrong rfl (by decide) hb h) (fun r σ1 z => s_228 (r := 0) hN hb hs ⟨z.1, kg_kt z.2⟩)
