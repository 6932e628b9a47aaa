/-! WHAT IS FELT: ACTS; THE TAPE -/
def CoreP (t p : Nat) : Prop := (t ≤ p ∧ p ≤ t + 13 ∧ p ≠ t + 11) ∨ (41 ≤ p ∧ p ≤ 45) ∨ (51 ≤ p ∧ p ≤ 54) ∨ (96 ≤ p ∧ p ≤ 98) ∨ (111 ≤ p ∧ p ≤ 119) ∨ p = 124 ∨ p = 138 ∨ p = 139
theorem Iv_gen {t : Nat} {c : CDat} {S : SDat} {σ σ2 : St} (h : Iv t c S σ) (e : ∀ p, CoreP t p → σ2.1 p = σ.1 p) (e90 : ∀ k, k = 23 ∨ (49 ≤ k ∧ k ≤ 52) ∨ k = 27 ∨ k = 62 ∨ k = 63 → σ2.1 90 k = σ.1 90 k) (hl : LieI σ2) (hf : FltI σ2) (hm : ∃ M T mk, MemI M T mk σ2) (htp : ∃ L bt, TapI L bt σ2) (hw : WrdI σ2) : Iv t c S σ2 := by
  obtain ⟨ht, wf, ws, hd, ⟨rc, rs⟩, ⟨rm, ra, hx⟩, hhist, hbox, _, _, _, _, _⟩ := h
  exact ⟨ht, wf, ws, hd, ⟨RepC_cg rc (fun p h1 h2 h3 => e p (by unfold CoreP; omega)), RepS_cg rs (fun p h1 h2 => e p (by unfold CoreP; omega))⟩, ⟨RepM_cg2 rm (fun k hk => e90 k (by omega)) (fun p hp => e p (by unfold CoreP; omega)), RepA_cg ra (e 119 (by unfold CoreP; omega)), by rw [e90 27 (by omega)]; exact hx⟩, HistI_cg hhist (e 51 (by unfold CoreP; omega)) (e 52 (by unfold CoreP; omega)) (e90 62 (by omega)) (e90 63 (by omega)) (e 124 (by unfold CoreP; omega)), BoxI_cg hbox (e 53 (by unfold CoreP; omega)) (e 54 (by unfold CoreP; omega)) (e 138 (by unfold CoreP; omega)) (e 139 (by unfold CoreP; omega)), hl, hf, hm, htp, hw⟩
def MX (M T : Nat) (mk : Nat → Nat → Nat) (σ : St) : Prop := σ.1 68 6 = nI M ∧ σ.1 68 7 = nI T ∧ ∀ j, j < M → MkX mk j σ
def MM (M T : Nat) (mk : Nat → Nat → Nat) (σ : St) : Prop := σ.1 90 74 = nI M ∧ σ.1 90 75 = nI T ∧ ∀ j, j < M → MkM mk j σ
theorem MX_of {M T : Nat} {mk : Nat → Nat → Nat} {σ : St} (h : MemI M T mk σ) : MX M T mk σ := ⟨h.2.2.1, h.2.2.2.2.1, fun j hj => (h.2.2.2.2.2.2 j hj).2.1⟩
theorem MM_of {M T : Nat} {mk : Nat → Nat → Nat} {σ : St} (h : MemI M T mk σ) : MM M T mk σ := ⟨h.2.2.2.1, h.2.2.2.2.2.1, fun j hj => (h.2.2.2.2.2.2 j hj).2.2⟩
theorem MX_cg {M T : Nat} {mk : Nat → Nat → Nat} {σ σ' : St} (h : MX M T mk σ) (e : ∀ p, 68 ≤ p → p ≤ 74 → σ'.1 p = σ.1 p) : MX M T mk σ' := ⟨by rw [e 68 (by decide) (by decide)]; exact h.1, by rw [e 68 (by decide) (by decide)]; exact h.2.1, fun j hj => MkX_cg (h.2.2 j hj) (fun p a b => e p (by omega) b)⟩
theorem MM_cg {M T : Nat} {mk : Nat → Nat → Nat} {σ σ' : St} (h : MM M T mk σ) (e90 : σ'.1 90 = σ.1 90) (e : ∀ p, 128 ≤ p → p ≤ 133 → σ'.1 p = σ.1 p) : MM M T mk σ' := ⟨by rw [e90]; exact h.1, by rw [e90]; exact h.2.1, fun j hj => MkM_cg (h.2.2 j hj) e⟩
def AMx (p : Nat) : Prop := 68 ≤ p ∧ p ≤ 74
def AMm (p : Nat) : Prop := p = 90 ∨ (128 ≤ p ∧ p ≤ 133)
theorem api_mem {f g : (Nat → Nat → Nat) → St → Option (Int32 × St)} (h : ∀ t c σ M T mk, isT t → WfC c → RepC t c σ → MemI M T mk σ → ∃ v M' T' mk', M' ≤ 30 ∧ T' ≤ 100000 ∧ (∀ j, j < M' → MkOk mk' j) ∧ Ok (f (RR t) σ) (fun r σ1 => r = v ∧ MX M' T' mk' σ1 ∧ Ag AMx σ σ1) ∧ ∀ σ1, RepM c σ1 → MM M T mk σ1 → Ok (g (RR t) σ1) (fun r σ2 => r = v ∧ MM M' T' mk' σ2 ∧ (∀ k, k ≠ 74 → k ≠ 75 → σ2.1 90 k = σ1.1 90 k) ∧ Ag AMm σ1 σ2)) : Api Inv f g := by
  intro ρ σ hI
  obtain ⟨t, c, S, rfl, hi⟩ := hI
  have hi' := hi
  obtain ⟨ht, wf, ws, hd, ⟨rc, rs⟩, ⟨rm, ra, hx⟩, hhist, hbox, hlie, hflt, ⟨M, T, mk, hmem⟩, ⟨L, bt, htap⟩, hwrd⟩ := hi'
  have tl := isT_le ht
  obtain ⟨v, M', T', mk', hM', hT', hk', ⟨r1, σ1, e1, rfl, mx1, a1⟩, hg⟩ := h t c σ M T mk ht wf rc hmem
  have z1 : ∀ p, ¬ AMx p → σ1.1 p = σ.1 p ∧ σ1.2 p = σ.2 p := fun p hp => a1 p hp
  obtain ⟨r2, σ2, e2, rfl, mm2, e90, a2⟩ := hg σ1 (RepM_cg rm (fun p hp => (z1 p (by unfold AMx; omega)).1)) (MM_cg (MM_of hmem) (z1 90 (by unfold AMx; omega)).1 (fun p h1 h2 => (z1 p (by unfold AMx; omega)).1))
  have y : ∀ p, ¬ AMx p → ¬ AMm p → σ2.1 p = σ.1 p ∧ σ2.2 p = σ.2 p := fun p h1 h2 => ⟨(a2 p h2).1.trans (z1 p h1).1, (a2 p h2).2.trans (z1 p h1).2⟩
  have y90 : ∀ k, k ≠ 74 → k ≠ 75 → σ2.1 90 k = σ.1 90 k := fun k h1 h2 => by rw [e90 k h1 h2, (z1 90 (by unfold AMx; omega)).1]
  have mx2 := MX_cg mx1 (fun p h1 h2 => (a2 p (by unfold AMm; omega)).1)
  have y' : ∀ p, p < 68 ∨ (75 ≤ p ∧ p < 90) ∨ (91 ≤ p ∧ p < 128) ∨ 134 ≤ p → σ2.1 p = σ.1 p ∧ σ2.2 p = σ.2 p := fun p hp => y p (by unfold AMx; omega) (by unfold AMm; omega)
  refine ⟨r2, σ1, σ2, e1, e2, t, c, S, rfl, Iv_gen hi (fun p hp => (y' p (by unfold CoreP at hp; omega)).1) (fun k hk => y90 k (by omega) (by omega)) (LieI_cg hlie (by rw [(y' 0 (by omega)).1]) (y90 65 (by decide) (by decide)) (y' 89 (by omega)).1 (y' 125 (by omega)).1) (FltI_cg hflt (by rw [(y' 0 (by omega)).1]) (by rw [(y' 0 (by omega)).1]) (y90 2 (by decide) (by decide)) (y90 3 (by decide) (by decide))) ⟨M', T', mk', hM', hT', mx2.1, mm2.1, mx2.2.1, mm2.2.1, fun j hj => ⟨hk' j hj, mx2.2.2 j hj, mm2.2.2 j hj⟩⟩ ⟨L, bt, TapI_cg htap (y' 4 (by omega)).1 (y90 1 (by decide) (by decide)) (y' 91 (by omega)).1 (y' 5 (by omega)).1⟩ (WrdI_cg hwrd (y' 6 (by omega)).2)⟩
def mkN (mk : Nat → Nat → Nat) (M e so b is T : Nat) : Nat → Nat → Nat := fun j k => if j = M then ([e, so, b, is, T, 0] : List Nat).getD k 0 else mk j k
theorem mkN_o {mk : Nat → Nat → Nat} {M e so b is T j : Nat} (h : j ≠ M) : mkN mk M e so b is T j = mk j := by
  funext k
  exact if_neg h
theorem mkN_s {mk : Nat → Nat → Nat} {M e so b is T : Nat} (k : Nat) : mkN mk M e so b is T M k = ([e, so, b, is, T, 0] : List Nat).getD k 0 := if_pos rfl
theorem MkOk_cg {mk mk' : Nat → Nat → Nat} {j : Nat} (e : mk' j = mk j) (h : MkOk mk j) : MkOk mk' j := by
  unfold MkOk
  rw [e]
  exact h
theorem upd_mk {f : Nat → Int32} {M j : Nat} {x : Int32} {mk : Nat → Nat → Nat} {F : (Nat → Nat) → Int32} {e so b is T : Nat} (h : ∀ i, i < M → f i = F (mk i)) (hx : x = F (mkN mk M e so b is T M)) (hj : j < M + 1) : upd f M x j = F (mkN mk M e so b is T j) := by
  by_cases ej : j = M
  · subst ej
    rw [pk_us, hx]
  · rw [pk_un ej, mkN_o ej]
    exact h j (by omega)
theorem nar_b {is : Nat} (h : is ≤ 1) : vp_nar .boolean (nI is) = nI is := by
  rcases (show is = 0 ∨ is = 1 by omega) with rfl | rfl <;> rfl
set_option maxHeartbeats 800000 in
theorem s_tell {N t M T e so b is : Nat} {mk : Nat → Nat → Nat} {σ : St} (mx : MX M T mk σ) (hM : M < 30) (he : 1 ≤ e) (he3 : e ≤ 3) (hso : so ≤ 1) (hb : b ≤ 99) (his : is ≤ 1) :
    Ok (f_X6_tell N (RR t) 68 (nI e) (nI (1 - so)) (nI b) (nI is) σ) (fun r σ1 => r = nI M ∧ MX (M + 1) T (mkN mk M e so b is T) σ1) := by
  unfold f_X6_tell
  rw [r_68_0 rfl, r_68_1 rfl, r_68_2 rfl, r_68_3 rfl, r_68_4 rfl, r_68_5 rfl, mx.1, nar_b (show 1 - so ≤ 1 by omega), nar_b his]
  have i30 : ib (nI M) 30 = true := ib_nI hM (by decide)
  refine ok_neg (show ¬ nI e < nI 1 from nI_nlt he (by omega)) (ok_neg (show ¬ nI 3 < nI e from nI_nlt he3 (by decide)) (ok_neg (nI_pos (by omega)) (ok_neg (show ¬ nI 99 < nI b from nI_nlt hb (by decide)) (ok_pos (show nI M < nI 30 from nI_lt hM (by decide)) (ok_nmd ?_)))))
  rw [nI_clamp (show M < 2 ^ 31 by omega)]
  refine ok_gd i30 (ok_sI fun σ1 n1 u1 => ok_gd i30 (ok_sI fun σ2 n2 u2 => ok_gd i30 (ok_sI fun σ3 n3 u3 => ok_gd i30 (ok_sI fun σ4 n4 u4 => ok_gd i30 (ok_sI fun σ5 n5 u5 => ok_gd i30 (ok_sI fun σ6 n6 u6 => ok_sI fun σ7 n7 u7 => ok_ret ⟨rfl, ?_⟩))))))
  have e68 : σ6.1 68 = σ.1 68 := by rw [n6 68 (by decide), n5 68 (by decide), n4 68 (by decide), n3 68 (by decide), n2 68 (by decide), n1 68 (by decide)]
  have e68' : σ4.1 68 = σ.1 68 := by rw [n4 68 (by decide), n3 68 (by decide), n2 68 (by decide), n1 68 (by decide)]
  have q0 : σ7.1 69 = upd (σ.1 69) M (nI e) := by rw [n7 69 (by decide), n6 69 (by decide), n5 69 (by decide), n4 69 (by decide), n3 69 (by decide), n2 69 (by decide), u1]
  have q1 : σ7.1 70 = upd (σ.1 70) M (nI (1 - so)) := by rw [n7 70 (by decide), n6 70 (by decide), n5 70 (by decide), n4 70 (by decide), n3 70 (by decide), u2, n1 70 (by decide)]
  have q2 : σ7.1 71 = upd (σ.1 71) M (nI b) := by rw [n7 71 (by decide), n6 71 (by decide), n5 71 (by decide), n4 71 (by decide), u3, n2 71 (by decide), n1 71 (by decide)]
  have q3 : σ7.1 72 = upd (σ.1 72) M (nI is) := by rw [n7 72 (by decide), n6 72 (by decide), n5 72 (by decide), u4, n3 72 (by decide), n2 72 (by decide), n1 72 (by decide)]
  have q4 : σ7.1 73 = upd (σ.1 73) M (nI T) := by rw [n7 73 (by decide), n6 73 (by decide), u5, n4 73 (by decide), n3 73 (by decide), n2 73 (by decide), n1 73 (by decide), e68', mx.2.1]
  have q5 : σ7.1 74 = upd (σ.1 74) M (-1) := by rw [n7 74 (by decide), u6, n5 74 (by decide), n4 74 (by decide), n3 74 (by decide), n2 74 (by decide), n1 74 (by decide)]
  refine ⟨?_, ?_, fun j hj => ⟨?_, ?_, ?_, ?_, ?_, ?_⟩⟩
  · rw [u7, pk_us, e68, mx.1, nI_1]
  · rw [u7, pk_un (by decide), e68, mx.2.1]
  · rw [q0]; exact upd_mk (F := fun m => nI (m 0)) (fun i hi => (mx.2.2 i hi).1) (by rw [mkN_s]; rfl) hj
  · rw [q1]; exact upd_mk (F := fun m => nI (1 - m 1)) (fun i hi => (mx.2.2 i hi).2.1) (by rw [mkN_s]; rfl) hj
  · rw [q2]; exact upd_mk (F := fun m => nI (m 2)) (fun i hi => (mx.2.2 i hi).2.2.1) (by rw [mkN_s]; rfl) hj
  · rw [q3]; exact upd_mk (F := fun m => nI (m 3)) (fun i hi => (mx.2.2 i hi).2.2.2.1) (by rw [mkN_s]; rfl) hj
  · rw [q4]; exact upd_mk (F := fun m => nI (m 4)) (fun i hi => (mx.2.2 i hi).2.2.2.2.1) (by rw [mkN_s]; rfl) hj
  · rw [q5]; exact upd_mk (F := fun m => sv (m 5)) (fun i hi => (mx.2.2 i hi).2.2.2.2.2) (by rw [mkN_s]; rfl) hj
set_option maxHeartbeats 800000 in
theorem s_mark {N t M T e so b is : Nat} {c : CDat} {mk : Nat → Nat → Nat} {σ : St} (wf : WfC c) (rm : RepM c σ) (hns : ns c ≠ 0) (mm : MM M T mk σ) (hM : M < 30) (he : 1 ≤ e) (he3 : e ≤ 3) (hso : so ≤ 1) (hb : b ≤ 99) (his : is ≤ 1) :
    Ok (f_X12_mark N (RR t) 90 (nI so) (nI e) (nI b) (nI is) σ) (fun r σ1 => r = nI M ∧ MM (M + 1) T (mkN mk M e so b is T) σ1 ∧ ∀ k, k ≠ 74 → k ≠ 75 → σ1.1 90 k = σ.1 90 k) := by
  have h5 := wf.2.1
  unfold f_X12_mark
  rw [r_90_68 rfl, r_90_69 rfl, r_90_70 rfl, r_90_71 rfl, r_90_72 rfl, r_90_73 rfl, rm.2.1, nar_b his]
  have i30 : ib (nI M) 30 = true := ib_nI hM (by decide)
  refine ok_neg (nI_ne0 (by omega) (by omega)) (ok_bnd isIn_eq ?_)
  have h13 : ¬ (nI e < 1 ∨ 3 < nI e) := fun z => z.elim (show ¬ nI e < nI 1 from nI_nlt he (by omega)) (show ¬ nI 3 < nI e from nI_nlt he3 (by decide))
  have h99 : ¬ (nI b < 0 ∨ 99 < nI b) := fun z => z.elim (nI_pos (by omega)) (show ¬ nI 99 < nI b from nI_nlt hb (by decide))
  rw [if_neg h13]
  refine ok_neg (by decide) (ok_bnd isIn_eq ?_)
  rw [if_neg h99]
  refine ok_neg (by decide) ?_
  have c31 : M < 2 ^ 31 := by omega
  rw [mm.1, nI_clamp c31]
  refine ok_neg (fun z => absurd ((nI_eq c31 (show 30 < 2 ^ 31 by decide)).mp z) (by omega)) (ok_gd i30 (ok_sI fun σ1 n1 u1 => ?_))
  rw [n1 90 (by decide), mm.1, nI_clamp c31]
  refine ok_gd i30 (ok_sI fun σ2 n2 u2 => ?_)
  rw [n2 90 (by decide), n1 90 (by decide), mm.1, nI_clamp c31]
  refine ok_gd i30 (ok_sI fun σ3 n3 u3 => ?_)
  rw [n3 90 (by decide), n2 90 (by decide), n1 90 (by decide), mm.1, nI_clamp c31]
  refine ok_gd i30 (ok_sI fun σ4 n4 u4 => ?_)
  rw [n4 90 (by decide), n3 90 (by decide), n2 90 (by decide), n1 90 (by decide), mm.1, mm.2.1, nI_clamp c31]
  refine ok_gd i30 (ok_sI fun σ5 n5 u5 => ?_)
  rw [n5 90 (by decide), n4 90 (by decide), n3 90 (by decide), n2 90 (by decide), n1 90 (by decide), mm.1, nI_clamp c31]
  refine ok_gd i30 (ok_sI fun σ6 n6 u6 => ok_sI fun σ7 n7 u7 => ok_ret ?_)
  have e90 : σ6.1 90 = σ.1 90 := by rw [n6 90 (by decide), n5 90 (by decide), n4 90 (by decide), n3 90 (by decide), n2 90 (by decide), n1 90 (by decide)]
  have q0 : σ7.1 128 = upd (σ.1 128) M (nI so) := by rw [n7 128 (by decide), n6 128 (by decide), n5 128 (by decide), n4 128 (by decide), n3 128 (by decide), n2 128 (by decide), u1]
  have q1 : σ7.1 129 = upd (σ.1 129) M (nI e) := by rw [n7 129 (by decide), n6 129 (by decide), n5 129 (by decide), n4 129 (by decide), n3 129 (by decide), u2, n1 129 (by decide)]
  have q2 : σ7.1 130 = upd (σ.1 130) M (nI b) := by rw [n7 130 (by decide), n6 130 (by decide), n5 130 (by decide), n4 130 (by decide), u3, n2 130 (by decide), n1 130 (by decide)]
  have q3 : σ7.1 133 = upd (σ.1 133) M (nI is) := by rw [n7 133 (by decide), n6 133 (by decide), n5 133 (by decide), u4, n3 133 (by decide), n2 133 (by decide), n1 133 (by decide)]
  have q4 : σ7.1 131 = upd (σ.1 131) M (nI T) := by rw [n7 131 (by decide), n6 131 (by decide), u5, n4 131 (by decide), n3 131 (by decide), n2 131 (by decide), n1 131 (by decide)]
  have q5 : σ7.1 132 = upd (σ.1 132) M (-1) := by rw [n7 132 (by decide), u6, n5 132 (by decide), n4 132 (by decide), n3 132 (by decide), n2 132 (by decide), n1 132 (by decide)]
  have g74 : σ7.1 90 74 = nI (M + 1) := by rw [u7, pk_us, e90, mm.1, nI_1]
  refine ⟨?_, ⟨g74, ?_, fun j hj => ⟨?_, ?_, ?_, ?_, ?_, ?_⟩⟩, fun k k1 k2 => ?_⟩
  · rw [g74, nI_pred]
  · rw [u7, pk_un (by decide), e90, mm.2.1]
  · rw [q1]; exact upd_mk (F := fun m => nI (m 0)) (fun i hi => (mm.2.2 i hi).1) (by rw [mkN_s]; rfl) hj
  · rw [q0]; exact upd_mk (F := fun m => nI (m 1)) (fun i hi => (mm.2.2 i hi).2.1) (by rw [mkN_s]; rfl) hj
  · rw [q2]; exact upd_mk (F := fun m => nI (m 2)) (fun i hi => (mm.2.2 i hi).2.2.1) (by rw [mkN_s]; rfl) hj
  · rw [q3]; exact upd_mk (F := fun m => nI (m 3)) (fun i hi => (mm.2.2 i hi).2.2.2.1) (by rw [mkN_s]; rfl) hj
  · rw [q4]; exact upd_mk (F := fun m => nI (m 4)) (fun i hi => (mm.2.2 i hi).2.2.2.2.1) (by rw [mkN_s]; rfl) hj
  · rw [q5]; exact upd_mk (F := fun m => sv (m 5)) (fun i hi => (mm.2.2 i hi).2.2.2.2.2) (by rw [mkN_s]; rfl) hj
  · rw [u7, pk_un k1, e90]
theorem nc_mx {M T : Nat} {mk : Nat → Nat → Nat} {o : Option (Int32 × St)} {v : Int32} {σ : St} (mx : MX M T mk σ) (h : o = some (v, σ)) : Ok o (fun r σ1 => r = v ∧ MX M T mk σ1 ∧ Ag AMx σ σ1) := ok_eq h ⟨rfl, mx, ag_refl⟩
theorem nc_mm {M T : Nat} {mk : Nat → Nat → Nat} {o : Option (Int32 × St)} {v : Int32} {σ : St} (mm : MM M T mk σ) (h : o = some (v, σ)) : Ok o (fun r σ2 => r = v ∧ MM M T mk σ2 ∧ (∀ k, k ≠ 74 → k ≠ 75 → σ2.1 90 k = σ.1 90 k) ∧ Ag AMm σ σ2) := ok_eq h ⟨rfl, mm, fun _ _ _ => rfl, ag_refl⟩
theorem frMx {t : Nat} {σ σ' : St} (a : Ag (fun p => p = 69 ∨ p = 70 ∨ p = 71 ∨ p = 72 ∨ p = 73 ∨ p = 74 ∨ p = 68) σ σ') : Ag AMx σ σ' := ag_mono a (fun p hp => by unfold AMx; omega)
theorem frMm {t : Nat} {σ σ' : St} (a : Ag (fun p => p = 128 ∨ p = 129 ∨ p = 130 ∨ p = 133 ∨ p = 131 ∨ p = 132 ∨ p = 90) σ σ') : Ag AMm σ σ' := ag_mono a (fun p hp => by unfold AMm; omega)
theorem one_three {x : Int32} (h : ¬ (x < 1 ∨ 3 < x)) : ∃ e, 1 ≤ e ∧ e ≤ 3 ∧ x = nI e := by
  have h1 : ¬ x < 1 := fun z => h (Or.inl z)
  have h2 : ¬ (3 : Int32) < x := fun z => h (Or.inr z)
  rcases ix_of x (show 4 < 2 ^ 31 by decide) with ⟨k, hk, rfl⟩ | hn
  · refine ⟨k, ?_, by omega, rfl⟩
    by_cases k0 : k = 0
    · subst k0; exact absurd (show nI 0 < 1 by decide) h1
    · omega
  · rcases hn with hn | hn
    · exact absurd (by rw [Int32.lt_iff_toInt_lt] at hn ⊢; have e0 : (0 : Int32).toInt = 0 := rfl; have e1 : (1 : Int32).toInt = 1 := rfl; omega) h1
    · exact absurd (i_nle.mp (nI_gap (k := 3) (by decide) hn)) h2
theorem to_99 {x : Int32} (h : ¬ (x < 0 ∨ 99 < x)) : ∃ b, b ≤ 99 ∧ x = nI b := by
  rcases ix_of x (show 100 < 2 ^ 31 by decide) with ⟨k, hk, rfl⟩ | hn
  · exact ⟨k, by omega, rfl⟩
  · rcases hn with hn | hn
    · exact absurd (Or.inl hn) h
    · exact absurd (Or.inr (i_nle.mp (nI_gap (k := 99) (by decide) hn))) h
theorem mkN_ok {mk : Nat → Nat → Nat} {M e so b is T j : Nat} (h : ∀ j, j < M → MkOk mk j) (he : 1 ≤ e) (he3 : e ≤ 3) (hso : so ≤ 1) (hb : b ≤ 99) (his : is ≤ 1) (hT : T ≤ 100000) (hj : j < M + 1) : MkOk (mkN mk M e so b is T) j := by
  by_cases ej : j = M
  · subst ej
    unfold MkOk
    rw [mkN_s, mkN_s, mkN_s, mkN_s, mkN_s, mkN_s]
    exact ⟨he, he3, hso, hb, his, hT, Nat.zero_le _⟩
  · exact MkOk_cg (mkN_o ej) (h j (by omega))
/-- both sorts -/
theorem tell_bad {N t M T : Nat} {mk : Nat → Nat → Nat} {a1 a2 a3 x : Int32} {σ : St} (mx : MX M T mk σ) (hM : M ≤ 30) (h : (a1 < 1 ∨ 3 < a1) ∨ (a2 < 0 ∨ 99 < a2) ∨ M = 30) : f_X6_tell N (RR t) 68 a1 x a2 a3 σ = some (-1, σ) := by
  unfold f_X6_tell f_X6_tell_29
  rw [mx.1]
  by_cases h1 : a1 < 1
  · rw [if_pos h1]
  · rw [if_neg h1]
    by_cases h2 : 3 < a1
    · rw [if_pos h2]
    · rw [if_neg h2]
      by_cases h3 : a2 < 0
      · rw [if_pos h3]
      · rw [if_neg h3]
        by_cases h4 : 99 < a2
        · rw [if_pos h4]
        · rw [if_neg h4]
          have : M = 30 := by
            rcases h with h | h | h
            · rcases h with h | h
              · exact absurd h h1
              · exact absurd h h2
            · rcases h with h | h
              · exact absurd h h3
              · exact absurd h h4
            · exact h
          subst this
          rw [if_neg (show ¬ nI 30 < 30 by decide)]
theorem mark_bad {N t M T : Nat} {c : CDat} {mk : Nat → Nat → Nat} {a1 a2 a3 x : Int32} {σ : St} (rm : RepM c σ) (mm : MM M T mk σ) (hM : M ≤ 30) (h : ns c = 0 ∨ (a1 < 1 ∨ 3 < a1) ∨ (a2 < 0 ∨ 99 < a2) ∨ M = 30) : f_X12_mark N (RR t) 90 x a1 a2 a3 σ = some (-1, σ) := by
  unfold f_X12_mark f_X12_mark_35
  rw [rm.2.1]
  by_cases h0 : nI (ns c) = 0
  · rw [if_pos h0]
  · rw [if_neg h0, bnd_e isIn_eq]
    by_cases h1 : a1 < 1 ∨ 3 < a1
    · rw [if_pos h1, if_pos rfl]
    · rw [if_neg h1, if_neg (by decide), bnd_e isIn_eq]
      by_cases h2 : a2 < 0 ∨ 99 < a2
      · rw [if_pos h2, if_pos rfl]
      · rw [if_neg h2, if_neg (by decide)]
        have : M = 30 := by
          rcases h with h | h | h | h
          · exact absurd (by rw [h]; rfl) h0
          · exact absurd h h1
          · exact absurd h h2
          · exact h
        subst this
        rw [mm.1, if_pos (show nI 30 = 30 from rfl)]
set_option maxHeartbeats 400000 in
theorem api_dented {N : Nat} (a1 a2 a3 : Int32) (h3 : a3 = 0 ∨ a3 = 1) : Api Inv (fun ρ σ => f_X11_dented N ρ 0 a1 a2 a3 σ) (fun ρ σ => f_X12_dented N ρ 90 a1 a2 a3 σ) := by
  refine api_mem (fun t c σ M T mk ht wf rc mem => ?_)
  have mx := MX_of mem
  have hns := wf.2.1
  obtain ⟨is, his, rfl⟩ : ∃ is, is ≤ 1 ∧ a3 = nI is := by
    rcases h3 with h3 | h3
    · exact ⟨0, by decide, h3⟩
    · exact ⟨1, by decide, h3⟩
  by_cases hbad : ns c = 0 ∨ (a1 < 1 ∨ 3 < a1) ∨ (a2 < 0 ∨ 99 < a2) ∨ M = 30
  · refine ⟨-1, M, T, mk, mem.1, mem.2.1, fun j hj => (mem.2.2.2.2.2.2 j hj).1, nc_mx mx ?_, fun σ1 rm mm => nc_mm mm ?_⟩
    · unfold f_X11_dented f_X11_dented_25
      rw [r_0_2 rfl, r_0_11 rfl, rc.2.1]
      by_cases h0 : ns c = 0
      · rw [h0, if_pos (show nI 0 = 0 from rfl)]
      · rw [if_neg (nI_ne0 (by omega) (by omega)), bnd_e (tell_bad mx mem.1 (hbad.resolve_left h0))]
    · unfold f_X12_dented
      rw [bnd_e (mark_bad rm mm mem.1 hbad)]
  · obtain ⟨e, he, he3, rfl⟩ := one_three (fun z => hbad (Or.inr (Or.inl z)))
    obtain ⟨b, hb, rfl⟩ := to_99 (fun z => hbad (Or.inr (Or.inr (Or.inl z))))
    have hM : M < 30 := by have := mem.1; omega
    have h0 : ns c ≠ 0 := fun z => hbad (Or.inl z)
    refine ⟨nI M, M + 1, T, mkN mk M e 0 b is T, by omega, mem.2.1, fun j hj => mkN_ok (fun j hj => (mem.2.2.2.2.2.2 j hj).1) he he3 (by decide) hb his mem.2.1 hj, ?_, fun σ1 rm mm => ?_⟩
    · have hh := ok_ag (P := fun σ' => Ag AMx σ σ') (o := f_X11_dented N (RR t) 0 (nI e) (nI b) (nI is) σ) (Q := fun r σ1 => r = nI M ∧ MX (M + 1) T (mkN mk M e 0 b is T) σ1) ?_ (fun r σ' e => by have := m_X11_dented e; rw [r_0_11 rfl, r_68_0 rfl, r_68_1 rfl, r_68_2 rfl, r_68_3 rfl, r_68_4 rfl, r_68_5 rfl] at this; exact frMx (t := t) this)
      · exact ok_mono hh (fun r σ1 hp => ⟨hp.1.1, hp.1.2, hp.2⟩)
      · unfold f_X11_dented f_X11_dented_25
        rw [r_0_2 rfl, r_0_11 rfl, rc.2.1]
        exact ok_neg (nI_ne0 (by omega) (by omega)) (ok_call (s_tell (so := 0) mx hM he he3 (by decide) hb his) (fun r σ1 hp => ok_ret hp))
    · have hh := ok_ag (P := fun σ' => Ag AMm σ1 σ') (o := f_X12_dented N (RR t) 90 (nI e) (nI b) (nI is) σ1) (Q := fun r σ2 => r = nI M ∧ MM (M + 1) T (mkN mk M e 0 b is T) σ2 ∧ ∀ k, k ≠ 74 → k ≠ 75 → σ2.1 90 k = σ1.1 90 k) ?_ (fun r σ' e => by have := m_X12_dented e; rw [r_90_68 rfl, r_90_69 rfl, r_90_70 rfl, r_90_71 rfl, r_90_72 rfl, r_90_73 rfl] at this; exact frMm (t := t) this)
      · exact ok_mono hh (fun r σ2 hp => ⟨hp.1.1, hp.1.2.1, hp.1.2.2, hp.2⟩)
      · unfold f_X12_dented
        exact ok_call (s_mark (so := 0) wf rm h0 mm hM he he3 (by decide) hb his) (fun r σ2 hp => ok_ret hp)
set_option maxHeartbeats 400000 in
theorem api_held {N : Nat} (a1 a2 a3 : Int32) (h3 : a3 = 0 ∨ a3 = 1) : Api Inv (fun ρ σ => f_X11_held N ρ 0 a1 a2 a3 σ) (fun ρ σ => f_X12_held N ρ 90 a1 a2 a3 σ) := by
  refine api_mem (fun t c σ M T mk ht wf rc mem => ?_)
  have mx := MX_of mem
  have hns := wf.2.1
  obtain ⟨is, his, rfl⟩ : ∃ is, is ≤ 1 ∧ a3 = nI is := by
    rcases h3 with h3 | h3
    · exact ⟨0, by decide, h3⟩
    · exact ⟨1, by decide, h3⟩
  by_cases hbad : ns c = 0 ∨ (a1 < 1 ∨ 3 < a1) ∨ (a2 < 0 ∨ 99 < a2) ∨ M = 30
  · refine ⟨-1, M, T, mk, mem.1, mem.2.1, fun j hj => (mem.2.2.2.2.2.2 j hj).1, nc_mx mx ?_, fun σ1 rm mm => nc_mm mm ?_⟩
    · unfold f_X11_held f_X11_held_25
      rw [r_0_2 rfl, r_0_11 rfl, rc.2.1]
      by_cases h0 : ns c = 0
      · rw [h0, if_pos (show nI 0 = 0 from rfl)]
      · rw [if_neg (nI_ne0 (by omega) (by omega)), bnd_e (tell_bad mx mem.1 (hbad.resolve_left h0))]
    · unfold f_X12_held
      rw [bnd_e (mark_bad rm mm mem.1 hbad)]
  · obtain ⟨e, he, he3, rfl⟩ := one_three (fun z => hbad (Or.inr (Or.inl z)))
    obtain ⟨b, hb, rfl⟩ := to_99 (fun z => hbad (Or.inr (Or.inr (Or.inl z))))
    have hM : M < 30 := by have := mem.1; omega
    have h0 : ns c ≠ 0 := fun z => hbad (Or.inl z)
    refine ⟨nI M, M + 1, T, mkN mk M e 1 b is T, by omega, mem.2.1, fun j hj => mkN_ok (fun j hj => (mem.2.2.2.2.2.2 j hj).1) he he3 (by decide) hb his mem.2.1 hj, ?_, fun σ1 rm mm => ?_⟩
    · have hh := ok_ag (P := fun σ' => Ag AMx σ σ') (o := f_X11_held N (RR t) 0 (nI e) (nI b) (nI is) σ) (Q := fun r σ1 => r = nI M ∧ MX (M + 1) T (mkN mk M e 1 b is T) σ1) ?_ (fun r σ' e => by have := m_X11_held e; rw [r_0_11 rfl, r_68_0 rfl, r_68_1 rfl, r_68_2 rfl, r_68_3 rfl, r_68_4 rfl, r_68_5 rfl] at this; exact frMx (t := t) this)
      · exact ok_mono hh (fun r σ1 hp => ⟨hp.1.1, hp.1.2, hp.2⟩)
      · unfold f_X11_held f_X11_held_25
        rw [r_0_2 rfl, r_0_11 rfl, rc.2.1]
        exact ok_neg (nI_ne0 (by omega) (by omega)) (ok_call (s_tell (so := 1) mx hM he he3 (by decide) hb his) (fun r σ1 hp => ok_ret hp))
    · have hh := ok_ag (P := fun σ' => Ag AMm σ1 σ') (o := f_X12_held N (RR t) 90 (nI e) (nI b) (nI is) σ1) (Q := fun r σ2 => r = nI M ∧ MM (M + 1) T (mkN mk M e 1 b is T) σ2 ∧ ∀ k, k ≠ 74 → k ≠ 75 → σ2.1 90 k = σ1.1 90 k) ?_ (fun r σ' e => by have := m_X12_held e; rw [r_90_68 rfl, r_90_69 rfl, r_90_70 rfl, r_90_71 rfl, r_90_72 rfl, r_90_73 rfl] at this; exact frMm (t := t) this)
      · exact ok_mono hh (fun r σ2 hp => ⟨hp.1.1, hp.1.2.1, hp.1.2.2, hp.2⟩)
      · unfold f_X12_held
        exact ok_call (s_mark (so := 1) wf rm h0 mm hM he he3 (by decide) hb his) (fun r σ2 hp => ok_ret hp)
/-- untold -/
def mkU (mk : Nat → Nat → Nat) (f T : Nat) : Nat → Nat → Nat := fun j k => if j = f ∧ k = 5 then T + 1 else mk j k
theorem mkU_n {mk : Nat → Nat → Nat} {f T j k : Nat} (h : ¬ (j = f ∧ k = 5)) : mkU mk f T j k = mk j k := if_neg h
theorem mkU_s {mk : Nat → Nat → Nat} {f T : Nat} : mkU mk f T f 5 = T + 1 := if_pos ⟨rfl, rfl⟩
theorem api_untell {N : Nat} (a1 : Int32) : Api Inv (fun ρ σ => f_X11_untell N ρ 0 a1 σ) (fun ρ σ => f_X12_untell N ρ 90 a1 σ) := by
  refine api_mem (fun t c σ M T mk ht wf rc mem => ?_)
  have mx := MX_of mem
  have hM := mem.1
  have hT := mem.2.1
  rcases ix_of a1 (show M < 2 ^ 31 by omega) with ⟨f, hf, rfl⟩ | hn
  · have ok5 := (mem.2.2.2.2.2.2 f hf).1.2.2.2.2.2.2
    have i30 : ib (nI f) 30 = true := ib_nI (by omega) (by decide)
    by_cases hu : mk f 5 = 0
    · refine ⟨1, M, T, mkU mk f T, hM, hT, fun j hj => ?_, ?_, fun σ1 rm mm => ?_⟩
      · have := (mem.2.2.2.2.2.2 j hj).1
        unfold MkOk
        rw [mkU_n (by omega), mkU_n (by omega), mkU_n (by omega), mkU_n (by omega), mkU_n (by omega)]
        refine ⟨this.1, this.2.1, this.2.2.1, this.2.2.2.1, this.2.2.2.2.1, this.2.2.2.2.2.1, ?_⟩
        by_cases ej : j = f
        · subst ej; rw [mkU_s]; omega
        · rw [mkU_n (fun z => ej z.1)]; exact this.2.2.2.2.2.2
      · unfold f_X11_untell f_X6_takeBack
        rw [r_0_11 rfl, r_68_5 rfl, mx.1, nI_clamp (show f < 2 ^ 31 by omega), (mx.2.2 f hf).2.2.2.2.2, hu]
        rw [if_neg (nI_pos (show f < 2 ^ 31 by omega)), if_neg (nI_ge hf (by omega)), if_neg (show ¬ (30 : Int32) ≤ nI f from show ¬ nI 30 ≤ nI f from nI_ge (by omega) (by decide)), gd_t i30, if_pos (show sv 0 = -1 from rfl), gd_t i30]
        show Ok (some ((1 : Int32), sI σ 74 f (σ.1 68 7))) _
        have n1 : ∀ p, p ≠ 74 → (sI σ 74 f (σ.1 68 7)).1 p = σ.1 p := fun p hp => sI_ne hp
        refine ok_ret ⟨rfl, ⟨by rw [n1 68 (by decide)]; exact mx.1, by rw [n1 68 (by decide)]; exact mx.2.1, fun j hj => ?_⟩, fun p hp => ⟨n1 p (fun z => hp (by unfold AMx; omega)), rfl⟩⟩
        have := mx.2.2 j hj
        unfold MkX
        rw [n1 69 (by decide), n1 70 (by decide), n1 71 (by decide), n1 72 (by decide), n1 73 (by decide), mkU_n (by omega), mkU_n (by omega), mkU_n (by omega), mkU_n (by omega), mkU_n (by omega), sI_up]
        refine ⟨this.1, this.2.1, this.2.2.1, this.2.2.2.1, this.2.2.2.2.1, ?_⟩
        by_cases ej : j = f
        · subst ej; rw [pk_us, mkU_s, mx.2.1]; rfl
        · rw [pk_un ej, mkU_n (fun z => ej z.1)]; exact this.2.2.2.2.2
      · unfold f_X12_untell
        rw [r_90_72 rfl, mm.1, bnd_e (isIn_y (by omega) hf), if_neg (by decide), gd_t i30, nI_clamp (show f < 2 ^ 31 by omega), (mm.2.2 f hf).2.2.2.2.2, hu, if_pos (show sv 0 < 0 by decide), gd_t i30]
        show Ok (some ((1 : Int32), sI σ1 132 f (σ1.1 90 75))) _
        have n1 : ∀ p, p ≠ 132 → (sI σ1 132 f (σ1.1 90 75)).1 p = σ1.1 p := fun p hp => sI_ne hp
        refine ok_ret ⟨rfl, ⟨by rw [n1 90 (by decide)]; exact mm.1, by rw [n1 90 (by decide)]; exact mm.2.1, fun j hj => ?_⟩, fun k _ _ => by rw [n1 90 (by decide)], fun p hp => ⟨n1 p (fun z => hp (by unfold AMm; omega)), rfl⟩⟩
        have := mm.2.2 j hj
        unfold MkM
        rw [n1 129 (by decide), n1 128 (by decide), n1 130 (by decide), n1 133 (by decide), n1 131 (by decide), mkU_n (by omega), mkU_n (by omega), mkU_n (by omega), mkU_n (by omega), mkU_n (by omega), sI_up]
        refine ⟨this.1, this.2.1, this.2.2.1, this.2.2.2.1, this.2.2.2.2.1, ?_⟩
        by_cases ej : j = f
        · subst ej; rw [pk_us, mkU_s, mm.2.1]; rfl
        · rw [pk_un ej, mkU_n (fun z => ej z.1)]; exact this.2.2.2.2.2
    · refine ⟨0, M, T, mk, hM, hT, fun j hj => (mem.2.2.2.2.2.2 j hj).1, nc_mx mx ?_, fun σ1 rm mm => nc_mm mm ?_⟩
      · unfold f_X11_untell f_X6_takeBack f_X6_takeBack_28
        rw [r_0_11 rfl, r_68_5 rfl, mx.1, nI_clamp (show f < 2 ^ 31 by omega), (mx.2.2 f hf).2.2.2.2.2]
        rw [if_neg (nI_pos (show f < 2 ^ 31 by omega)), if_neg (nI_ge hf (by omega)), if_neg (show ¬ (30 : Int32) ≤ nI f from show ¬ nI 30 ≤ nI f from nI_ge (by omega) (by decide)), gd_t i30, if_neg (fun z => hu ((sv_m1 (by omega)).mp z))]
        rfl
      · unfold f_X12_untell f_X12_untell_23
        rw [r_90_72 rfl, mm.1, bnd_e (isIn_y (by omega) hf), if_neg (by decide), gd_t i30, nI_clamp (show f < 2 ^ 31 by omega), (mm.2.2 f hf).2.2.2.2.2, if_neg (i_nlt.mpr (sv_pos hu (by omega)))]
  · refine ⟨0, M, T, mk, hM, hT, fun j hj => (mem.2.2.2.2.2.2 j hj).1, nc_mx mx ?_, fun σ1 rm mm => nc_mm mm ?_⟩
    · unfold f_X11_untell f_X6_takeBack f_X6_takeBack_28
      rw [r_0_11 rfl, mx.1]
      by_cases h0 : a1 < 0
      · rw [if_pos h0]; rfl
      · rw [if_neg h0, if_pos (hn.resolve_left h0)]; rfl
    · unfold f_X12_untell f_X12_untell_23
      rw [mm.1, bnd_e (isIn_n (by omega) hn), if_pos rfl]
theorem api_later {N : Nat} (a1 : Int32) : Api Inv (fun ρ σ => f_X11_later N ρ 0 a1 σ) (fun ρ σ => f_X12_later N ρ 90 a1 σ) := by
  refine api_mem (fun t c σ M T mk ht wf rc mem => ?_)
  have mx := MX_of mem
  have hT := mem.2.1
  by_cases hgo : ∃ b, b ≤ 1000 ∧ a1 = nI b ∧ T + b ≤ 100000
  · obtain ⟨b, hb, rfl, hTb⟩ := hgo
    refine ⟨nI (T + b), M, T + b, mk, mem.1, hTb, fun j hj => (mem.2.2.2.2.2.2 j hj).1, ?_, fun σ1 rm mm => ?_⟩
    · unfold f_X11_later f_X6_goOn
      rw [r_0_11 rfl, mx.2.1, nI_add, if_neg (nI_pos (show b < 2 ^ 31 by omega)), if_neg (show ¬ (1000 : Int32) < nI b from show ¬ nI 1000 < nI b from nI_nlt hb (by decide)), if_pos (show nI (T + b) ≤ (100000 : Int32) from show nI (T + b) ≤ nI 100000 from nI_le hTb (by decide))]
      show Ok (some ((sI σ 68 7 (nI (T + b))).1 68 7, sI σ 68 7 (nI (T + b)))) _
      have n1 : ∀ p, p ≠ 68 → (sI σ 68 7 (nI (T + b))).1 p = σ.1 p := fun p hp => sI_ne hp
      refine ok_ret ⟨by rw [sI_up, pk_us], ⟨by rw [sI_up, pk_un (by decide)]; exact mx.1, by rw [sI_up, pk_us], fun j hj => MkX_cg (mx.2.2 j hj) (fun p h1 h2 => n1 p (by omega))⟩, fun p hp => ⟨n1 p (fun z => hp (by unfold AMx; omega)), rfl⟩⟩
    · unfold f_X12_later
      rw [mm.2.1, nI_add, if_neg (nI_pos (show b < 2 ^ 31 by omega)), if_neg (show ¬ (1000 : Int32) < nI b from show ¬ nI 1000 < nI b from nI_nlt hb (by decide)), if_pos (show nI (T + b) ≤ (100000 : Int32) from show nI (T + b) ≤ nI 100000 from nI_le hTb (by decide))]
      show Ok (some ((sI σ1 90 75 (nI (T + b))).1 90 75, sI σ1 90 75 (nI (T + b)))) _
      have n1 : ∀ p, p ≠ 90 → (sI σ1 90 75 (nI (T + b))).1 p = σ1.1 p := fun p hp => sI_ne hp
      refine ok_ret ⟨by rw [sI_up, pk_us], ⟨by rw [sI_up, pk_un (by decide)]; exact mm.1, by rw [sI_up, pk_us], fun j hj => MkM_cg (mm.2.2 j hj) (fun p h1 h2 => n1 p (by omega))⟩, fun k k1 k2 => by rw [sI_up, pk_un k2], fun p hp => ⟨n1 p (fun z => hp (by unfold AMm; omega)), rfl⟩⟩
  · have key : ∀ (a b : Option (Int32 × St)) (d : Int32 × St), (b = some d) → (if a1 < 0 then some d else if 1000 < a1 then some d else if nI T + a1 ≤ 100000 then a else b) = some d := by
      intro a b d hb
      by_cases h0 : a1 < 0
      · rw [if_pos h0]
      · rw [if_neg h0]
        by_cases h1 : 1000 < a1
        · rw [if_pos h1]
        · rw [if_neg h1]
          obtain ⟨k, hk, rfl⟩ := nI_of2 (M := 1000) (n := 1000) rfl h0 (i_nlt.mp h1)
          rw [nI_add, if_neg (show ¬ nI (T + k) ≤ (100000 : Int32) from show ¬ nI (T + k) ≤ nI 100000 from nI_ge (by
            have : ¬ T + k ≤ 100000 := fun z => hgo ⟨k, hk, rfl, z⟩
            omega) (by omega)), hb]
    refine ⟨-1, M, T, mk, mem.1, hT, fun j hj => (mem.2.2.2.2.2.2 j hj).1, nc_mx mx ?_, fun σ1 rm mm => nc_mm mm ?_⟩
    · unfold f_X11_later f_X6_goOn f_X6_goOn_22
      rw [r_0_11 rfl, mx.2.1, key _ _ (-1, σ) rfl]
      rfl
    · unfold f_X12_later f_X12_later_23
      rw [mm.2.1]
      exact key _ _ (-1, σ1) rfl
