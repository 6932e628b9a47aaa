/-! THE CLASS's FORMULA LINE, ITS LINES TOLD ONCE -/
theorem dx_upF {d w u' : Nat} {D : Dr} {C : List Cd} {σ σ' : St} (hd : 9 ≤ d) (hw : w < 2) (wf : WfD D) (h0 : fE (dc D) w = []) (h : DX d D σ) (fr : FrX (d + 9 + 3 * w) C u' σ') (a : Ag (FA (d + 9 + 3 * w)) σ σ') : DX d (upF D w C u') σ' := by
  obtain ⟨h1, h2, h3, h4, h5⟩ := h
  obtain ⟨r1, r2, r3⟩ := rc_to h1
  obtain ⟨_, ⟨b1, b2, b3, b4, b5⟩, _⟩ := wf
  have ed : σ'.1 d = σ.1 d := (a d (by unfold FA; omega)).1
  have arr : ∀ k i, k < 8 → i < cn (dc (upF D w C u')) (k / 4) → σ'.1 (d + 1 + k) i = nI (dt (dc (upF D w C u')) k i) := fun k i hk hi => by
    rw [(a (d + 1 + k) (by unfold FA; omega)).1]
    show σ.1 (d + 1 + k) i = nI (if k = 8 ∧ i = 3 then dt (dc D) 8 3 + u' else dt (dc D) k i)
    rw [if_neg (by omega)]
    exact rc_arr h1 hk hi
  have num : ∀ j, j < 3 → σ'.1 d (13 + j) = nI (dt (dc (upF D w C u')) 8 j) := fun j hj => by
    rw [ed]
    show σ.1 d (13 + j) = nI (if 8 = 8 ∧ j = 3 then dt (dc D) 8 3 + u' else dt (dc D) 8 j)
    rw [if_neg (by omega)]
    exact r2 j hj
  have cnt : ∀ b, b < 2 → σ'.1 d (11 + b) = nI (cn (dc (upF D w C u')) b) := fun b hb => by rw [ed]; exact r1 b hb
  have nms : ∀ b i, b < 2 → i < cn (dc (upF D w C u')) b → σ'.2 (7 + b) i = lO (vX (dn (upF D w C u') b i)) := fun b i hb hi => by rw [(a (7 + b) (by unfold FA; omega)).2]; exact h4 b i hb hi
  have e1 : σ'.1 1 4 = twd (dh D 0) (dh D 1) (dh D 2) := by rw [(a 1 (by unfold FA; omega)).1]; exact h5
  rcases (show w = 0 ∨ w = 1 by omega) with rfl | rfl
  · have fr2 : FrX (d + 12) (fw (dc D)) (dw D) σ' := FrX_cg h3 (a (d + 12) (by unfold FA; omega)).1 (a (d + 12 + 1) (by unfold FA; omega)).1
    have z := b3 h0
    refine ⟨rc_of cnt num arr ⟨fr.1, fr.2.2, fr2.1, fr2.2.2, ?_⟩, fr, fr2, nms, e1⟩
    rw [show σ'.1 (d + 9) 3 = nI u' from fr.2.1, show σ'.1 (d + 12) 3 = nI (dw D) from fr2.2.1, nI_add]
    show nI (u' + dw D) = nI (dt (dc D) 8 3 + u')
    congr 1
    omega
  · have fr2 : FrX (d + 9) (fb (dc D)) (db D) σ' := FrX_cg h2 (a (d + 9) (by unfold FA; omega)).1 (a (d + 9 + 1) (by unfold FA; omega)).1
    have z := b4 h0
    refine ⟨rc_of cnt num arr ⟨fr2.1, fr2.2.2, fr.1, fr.2.2, ?_⟩, fr2, fr, nms, e1⟩
    rw [show σ'.1 (d + 9) 3 = nI (db D) from fr2.2.1, show σ'.1 (d + 12) 3 = nI u' from fr.2.1, nI_add]
    show nI (db D + u') = nI (dt (dc D) 8 3 + u')
    congr 1
    omega
theorem rc_1 {ρ : Nat → Nat → Nat} {t : Nat} (h : ρ = RR t) : ρ 1 0 = 2 ∧ ρ 1 1 = 3 := ⟨r_1_0 h, r_1_1 h⟩
theorem s_formX {N t d p w : Nat} {τ : Tape} {D : Dr} {σ : St} (hN : 20000 ≤ N) (hb : ∀ j, j < τ.1 → τ.2 j < 256) (hd : isT d) (hw : w < 2) (wf : WfD D) (h : LXs τ p σ) (hx : DX d D σ) (hk : tk τ p = 15 + w) : Ok (f_X7_formulaLine N (RR t) 1 (d + 9 + 3 * w) σ) (LnX τ d p D) := by
  have hd9 := (isT_le hd).1
  have hf : isF (d + 9 + 3 * w) := by
    unfold isF
    rcases hd with rfl | rfl <;> omega
  have fr : FrX (d + 9 + 3 * w) (fE (dc D) w) (if w = 0 then db D else dw D) σ := by
    rcases (show w = 0 ∨ w = 1 by omega) with rfl | rfl
    · exact hx.2.1
    · exact hx.2.2.1
  unfold f_X7_formulaLine
  rw [r_1_1 rfl, r_1_0 rfl]
  by_cases c : fE (dc D) w = []
  · have u0 : (if w = 0 then db D else dw D) = 0 := by
      rcases (show w = 0 ∨ w = 1 by omega) with rfl | rfl
      · exact wf.2.1.2.2.1 c
      · exact wf.2.1.2.2.2.1 c
    rw [c, u0] at fr
    rw [bnd_e (isTold_0 fr.1), if_pos rfl]
    refine ok_call (lx_adv hN h) (fun _ σ1 z1 => ?_)
    obtain ⟨h1, a1⟩ := z1
    have fr1 : FrX (d + 9 + 3 * w) [] 0 σ1 := FrX_cg fr (a1 _ (by omega)).1 (a1 _ (by omega)).1
    refine gd_bb (ok_mono (s_either hN hf hb ⟨h1.1, h1.2.1, h1.2.2.1, h1.2.2.2.1, fr1, Nat.zero_le _, Nat.zero_le _, Nat.zero_le _⟩) (fun r σ2 z2 => ?_)) ln_r
    obtain ⟨z2, a2⟩ := z2
    rcases z2 with ⟨rfl, p', u', C, sim, gc, lx2, hp', fr2, e7, e8⟩ | ⟨rfl, j, sim, fx⟩
    · have mr := sim_all sim
      have hge := mr_ge mr
      have := tn_gt (τ := τ) (p := p) (by omega)
      refine ⟨.inl (p', upF D w C u'), Or.inr (Or.inl ⟨w, hw, hk, c, _, mr, ⟨hp', (gc_ne gc).1⟩, rfl⟩), rfl, ⟨FA_tap hf h1.1 a2, FA_wrd hf h1.2.1 a2, lx2, hp', by rw [e7]; exact h1.2.2.2.2.1, by rw [e8]; exact h1.2.2.2.2.2⟩, dx_upF hd9 hw wf c hx fr2 ?_, upF_wf hw wf c gc, by omega⟩
      exact ag_trans (FA_3 a1) a2
    · exact ⟨.inr (2, j), Or.inr (Or.inl ⟨w, hw, hk, c, _, simB_all sim, trivial, rfl⟩), rfl, fx⟩
  · obtain ⟨m, em⟩ : ∃ m, (fE (dc D) w).length = m + 1 := by
      cases hE : fE (dc D) w with
      | nil => exact absurd hE c
      | cons x l => exact ⟨l.length, rfl⟩
    have hl : (fE (dc D) w).length ≤ 270 := by
      rcases (show w = 0 ∨ w = 1 by omega) with rfl | rfl
      · exact wf.1.2.2.2.2.2.2.2.2.1.1
      · exact wf.1.2.2.2.2.2.2.2.2.2.1
    have e2 := fr.1
    rw [em] at e2
    rw [bnd_e (isTold_1 e2 (by omega)), if_neg (by decide)]
    refine ln_no hb h (fun b hb' e => by omega) (fun w' hw' e => ?_) (fun j hj e => by omega)
    rw [show w' = w by omega]
    exact c
/-- told once -/
theorem tw_bit : ∀ a b c : Bool, ∀ j, j < 3 → ((twd a b c >>> (nI (17 + j) &&& 31)) &&& 1 = 0 ↔ [a, b, c].getD j false = false) ∧ (twd a b c ||| (1 <<< (nI (17 + j) &&& 31)) = twd (if j = 0 then true else a) (if j = 1 then true else b) (if j = 2 then true else c)) := by decide +kernel
theorem tw_get {f : Nat → Bool} {j : Nat} (hj : j < 3) : [f 0, f 1, f 2].getD j false = f j := by
  rcases (show j = 0 ∨ j = 1 ∨ j = 2 by omega) with rfl | rfl | rfl <;> rfl
theorem dx_upO {d j v : Nat} {D : Dr} {σ σ' : St} (hd : 9 ≤ d) (hj : j < 3) (h : DX d D σ) (n : ∀ q, q ≠ d → q ≠ 1 → q ≠ 3 → σ'.1 q = σ.1 q) (f : ∀ b, b < 2 → σ'.2 (7 + b) = σ.2 (7 + b)) (u : σ'.1 d = upd (σ.1 d) (13 + j) (nI v)) (e1 : σ'.1 1 4 = twd (if j = 0 then true else dh D 0) (if j = 1 then true else dh D 1) (if j = 2 then true else dh D 2)) : DX d (upO D j v) σ' := by
  obtain ⟨h1, h2, h3, h4, h5⟩ := h
  obtain ⟨r1, r2, r3⟩ := rc_to h1
  refine ⟨rc_of (fun b hb => ?_) (fun i hi => ?_) (fun k i hk hi => ?_) ?_, FrX_cg h2 (n _ (by omega) (by omega) (by omega)) (n _ (by omega) (by omega) (by omega)), FrX_cg h3 (n _ (by omega) (by omega) (by omega)) (n _ (by omega) (by omega) (by omega)), fun b i hb hi => by rw [f b hb]; exact h4 b i hb hi, ?_⟩
  · rw [u, pk_un (by omega)]; exact r1 b hb
  · rw [u]
    show _ = nI (if 8 = 8 ∧ i = j then v else dt (dc D) 8 i)
    by_cases e : i = j
    · rw [if_pos ⟨rfl, e⟩, e, pk_us]
    · rw [if_neg (fun z => e z.2), pk_un (by omega)]; exact r2 i hi
  · rw [n _ (by omega) (by omega) (by omega)]
    show _ = nI (if k = 8 ∧ i = j then v else dt (dc D) k i)
    rw [if_neg (by omega)]
    exact rc_arr h1 hk hi
  · rw [n (d + 9) (by omega) (by omega) (by omega), n (d + 10) (by omega) (by omega) (by omega), n (d + 12) (by omega) (by omega) (by omega), n (d + 13) (by omega) (by omega) (by omega)]
    show _ ∧ _ ∧ _ ∧ _ ∧ _ = nI (if 8 = 8 ∧ 3 = j then v else dt (dc D) 8 3)
    rw [if_neg (by omega)]
    exact r3
  · rw [e1]
    show _ = twd (if 0 = j then true else dh D 0) (if 1 = j then true else dh D 1) (if 2 = j then true else dh D 2)
    rcases (show j = 0 ∨ j = 1 ∨ j = 2 by omega) with rfl | rfl | rfl <;> rfl
theorem s_onceX {N t d p j fld : Nat} {τ : Tape} {D : Dr} {x y : Int32} {σ : St} (hN : 20000 ≤ N) (hb : ∀ j, j < τ.1 → τ.2 j < 256) (hd : isT d) (hj : j < 3) (hx0 : x = nI (oLo j)) (hy : y = nI (oHi j)) (hfld : fld = 13 + j) (wf : WfD D) (h : LXs τ p σ) (hx : DX d D σ) (hk : tk τ p = 17 + j) :
    Ok (bnd (f_X7_toldOnce N (RR t) 1 x y σ) fun r σ' => nmd (sI σ' d fld (σ'.1 1 5)) fun σ2 => gd (bb r) (some (r, σ2))) (LnX τ d p D) := by
  have hd9 := (isT_le hd).1
  have bit := tw_bit (dh D 0) (dh D 1) (dh D 2) j hj
  rw [tw_get hj] at bit
  have ob : oLo j < 10000 ∧ oHi j < 10000 := by rcases (show j = 0 ∨ j = 1 ∨ j = 2 by omega) with rfl | rfl | rfl <;> exact ⟨by decide, by decide⟩
  subst hfld
  unfold f_X7_toldOnce
  rw [r_1_1 rfl, h.2.2.1.2.1, hx.2.2.2.2, hk, nmd_e]
  by_cases c : dh D j = false
  · rw [if_pos (bit.1.mpr c), nmd_e, bit.2]
    obtain ⟨σ1, e1⟩ : ∃ σ1, σ1 = sI σ 1 4 (twd (if j = 0 then true else dh D 0) (if j = 1 then true else dh D 1) (if j = 2 then true else dh D 2)) := ⟨_, rfl⟩
    rw [← e1]
    have n1 : ∀ q, q ≠ 1 → σ1.1 q = σ.1 q := fun q hq => by rw [e1, sI_ne hq]
    have f1 : σ1.2 = σ.2 := by rw [e1]; rfl
    have u1 : σ1.1 1 4 = twd (if j = 0 then true else dh D 0) (if j = 1 then true else dh D 1) (if j = 2 then true else dh D 2) := by rw [e1, sI_up, pk_us]
    have h1 : LXs τ p σ1 := lx_o h (by omega) n1 f1
    rw [bnd_as]
    refine ok_call (s_toldX (k := 17 + j) hN hb (by omega) ob.1 ob.2 rfl hx0 hy h1) (fun r σ2 z2 => ?_)
    obtain ⟨z2, k2, a2⟩ := z2
    have hr : r = 0 ∨ r = 1 := by
      revert z2
      cases tdP τ p (17 + j) (oLo j) (oHi j) with
      | inl q => intro z; exact Or.inr z.1
      | inr e => intro z; exact Or.inl z.1
    have hbb : bb r = true := by rcases hr with rfl | rfl <;> rfl
    rw [gd_t hbb]
    show Ok (nmd (sI σ2 d (13 + j) (σ2.1 1 5)) fun σ3 => gd (bb r) (some (r, σ3))) _
    refine ok_sI2 fun σ3 n3 u3 f3 => ok_gd hbb (ok_ret ⟨_, Or.inr (Or.inr (Or.inl ⟨j, hj, hk, c, rfl⟩)), ?_⟩)
    revert z2
    cases htd : tdP τ p (17 + j) (oLo j) (oHi j) with
    | inr e =>
      intro z
      exact ⟨z.1, FX_cg z.2 (n3 3 (by omega))⟩
    | inl q =>
      obtain ⟨p', v⟩ := q
      intro z
      obtain ⟨rfl, h2, w2⟩ := z
      obtain ⟨g1, g2, g3, g4⟩ := tdP_ge htd
      have gt1 := tn_gt (τ := τ) (p := p) (by omega)
      have gt2 := tn_ge (τ := τ) (p := tn τ p)
      rw [w2] at u3
      refine ⟨rfl, lx_o h2 (by omega) n3 f3, dx_upO hd9 hj hx (fun q q1 q2 q3 => ?_) (fun b hb => ?_) ?_ ?_, upO_wf hj wf g3 g4, by omega⟩
      · rw [n3 q q1, (a2 q (by unfold A13; omega)).1, n1 q q2]
      · rw [f3, (a2 _ (by unfold A13; omega)).2, f1]
      · rw [u3, (a2 d (by unfold A13; omega)).1, n1 d (by omega)]
      · rw [n3 1 (by omega), k2, u1]
  · rw [if_neg (fun z => c (bit.1.mp z))]
    rw [bnd_as]
    refine ok_call (lx_ref rfl hb h) (fun r σ2 z2 => ?_)
    obtain ⟨rfl, fx, a2⟩ := z2
    rw [gd_t (show bb 0 = true from rfl)]
    show Ok (nmd (sI σ2 d (13 + j) (σ2.1 1 5)) fun σ3 => gd (bb 0) (some (0, σ3))) _
    refine ok_sI2 fun σ3 n3 u3 f3 => ok_gd rfl (ok_ret ⟨.inr (2, p), Or.inr (Or.inr (Or.inr ⟨fun b hb' e => by omega, fun w hw e => by omega, fun j' hj' e => ?_, rfl⟩)), rfl, FX_cg fx (n3 3 (by omega))⟩)
    rw [show j' = j by omega]
    exact Bool.not_eq_false _ ▸ c
theorem s_lineX {N t d p : Nat} {τ : Tape} {D : Dr} {σ : St} (hN : 20000 ≤ N) (hb : ∀ j, j < τ.1 → τ.2 j < 256) (hd : isT d) (wf : WfD D) (h : LXs τ p σ) (hx : DX d D σ) : Ok (f_X7_line N (RR t) 1 d σ) (LnX τ d p D) := by
  have hk := tk_lt (p := p) hb
  have no : ∀ (h1 : tk τ p ≠ 10 ∧ tk τ p ≠ 13 ∧ tk τ p ≠ 15 ∧ tk τ p ≠ 16 ∧ tk τ p ≠ 17 ∧ tk τ p ≠ 18 ∧ tk τ p ≠ 19), Ok (f_X7_line_145 N (RR t) 1 d σ) (LnX τ d p D) := fun h1 => by
    unfold f_X7_line_145
    rw [r_1_1 rfl]
    exact ln_no hb h (fun b hb' e => by omega) (fun w hw e => by omega) (fun j hj e => by omega)
  unfold f_X7_line
  rw [r_1_1 rfl, h.2.2.1.2.1, rt8 rfl hd, rt9 rfl hd]
  by_cases c10 : tk τ p = 10
  · exact ok_pos (by rw [c10]; rfl) (gd_bb (s_hearthX hN hb hd wf h hx c10) ln_r)
  refine ok_neg (tk_ne (a := 10) hk (by decide) c10) ?_
  by_cases c13 : tk τ p = 13
  · exact ok_neg (tk_ne (a := 11) hk (by decide) (by omega)) (ok_neg (tk_ne (a := 12) hk (by decide) (by omega)) (ok_pos (by rw [c13]; rfl) (gd_bb (s_stoolX hN hb hd wf h hx c13) ln_r)))
  by_cases c15 : tk τ p = 15
  · exact ok_neg (tk_ne (a := 11) hk (by decide) (by omega)) (ok_neg (tk_ne (a := 12) hk (by decide) (by omega)) (ok_neg (tk_ne (a := 13) hk (by decide) (by omega)) (ok_neg (tk_ne (a := 14) hk (by decide) (by omega)) (ok_pos (by rw [c15]; rfl) (gd_bb (s_formX (w := 0) hN hb hd (by decide) wf h hx c15) ln_r)))))
  by_cases c16 : tk τ p = 16
  · exact ok_neg (tk_ne (a := 11) hk (by decide) (by omega)) (ok_neg (tk_ne (a := 12) hk (by decide) (by omega)) (ok_neg (tk_ne (a := 13) hk (by decide) (by omega)) (ok_neg (tk_ne (a := 14) hk (by decide) (by omega)) (ok_neg (tk_ne (a := 15) hk (by decide) (by omega)) (ok_pos (by rw [c16]; rfl) (gd_bb (s_formX (w := 1) hN hb hd (by decide) wf h hx c16) ln_r))))))
  by_cases c17 : tk τ p = 17
  · exact ok_neg (tk_ne (a := 11) hk (by decide) (by omega)) (ok_neg (tk_ne (a := 12) hk (by decide) (by omega)) (ok_neg (tk_ne (a := 13) hk (by decide) (by omega)) (ok_neg (tk_ne (a := 14) hk (by decide) (by omega)) (ok_neg (tk_ne (a := 15) hk (by decide) (by omega)) (ok_neg (tk_ne (a := 16) hk (by decide) (by omega)) (ok_pos (by rw [c17]; rfl) (s_onceX (j := 0) hN hb hd (by decide) rfl rfl rfl wf h hx c17)))))))
  by_cases c18 : tk τ p = 18
  · exact ok_neg (tk_ne (a := 11) hk (by decide) (by omega)) (ok_neg (tk_ne (a := 12) hk (by decide) (by omega)) (ok_neg (tk_ne (a := 13) hk (by decide) (by omega)) (ok_neg (tk_ne (a := 14) hk (by decide) (by omega)) (ok_neg (tk_ne (a := 15) hk (by decide) (by omega)) (ok_neg (tk_ne (a := 16) hk (by decide) (by omega)) (ok_neg (tk_ne (a := 17) hk (by decide) (by omega)) (ok_pos (by rw [c18]; rfl) (s_onceX (j := 1) hN hb hd (by decide) rfl rfl rfl wf h hx c18))))))))
  by_cases c19 : tk τ p = 19
  · exact ok_neg (tk_ne (a := 11) hk (by decide) (by omega)) (ok_neg (tk_ne (a := 12) hk (by decide) (by omega)) (ok_neg (tk_ne (a := 13) hk (by decide) (by omega)) (ok_neg (tk_ne (a := 14) hk (by decide) (by omega)) (ok_neg (tk_ne (a := 15) hk (by decide) (by omega)) (ok_neg (tk_ne (a := 16) hk (by decide) (by omega)) (ok_neg (tk_ne (a := 17) hk (by decide) (by omega)) (ok_neg (tk_ne (a := 18) hk (by decide) (by omega)) (ok_pos (by rw [c19]; rfl) (s_onceX (j := 2) hN hb hd (by decide) rfl rfl rfl wf h hx c19)))))))))
  have hno := no ⟨c10, c13, c15, c16, c17, c18, c19⟩
  refine ok_ite (fun _ => hno) (fun _ => ok_ite (fun _ => hno) (fun _ => ok_neg (tk_ne (a := 13) hk (by decide) c13) (ok_ite (fun _ => hno) (fun _ => ok_neg (tk_ne (a := 15) hk (by decide) c15) (ok_neg (tk_ne (a := 16) hk (by decide) c16) (ok_neg (tk_ne (a := 17) hk (by decide) c17) (ok_neg (tk_ne (a := 18) hk (by decide) c18) (ok_neg (tk_ne (a := 19) hk (by decide) c19) hno))))))))
