/-! ACTS, both -/
def AX (t p : Nat) : Prop := ScX t p ∨ (41 ≤ p ∧ p ≤ 45) ∨ p = 51 ∨ p = 52
def AM (p : Nat) : Prop := ScM p ∨ p = 90 ∨ p = 119 ∨ p = 124
theorem api_a {f g : (Nat → Nat → Nat) → St → Option (Int32 × St)} (h : ∀ t c S σ d u H, Iv t c S σ → HOk d u c H S → HX d u c H σ → HM d u c H σ → ∃ v S' d' u' H', WfS c S' ∧ S' 4 0 ≤ 999 ∧ HOk d' u' c H' S' ∧ Ok (f (RR t) σ) (fun r σ1 => r = v ∧ RepS 41 c S' σ1 ∧ HX d' u' c H' σ1 ∧ Ag (AX t) σ σ1) ∧ (∀ σ1, Ag (AX t) σ σ1 → RepM c σ1 → RepA 119 c S σ1 → σ1.1 90 27 = 0 → HM d u c H σ1 → Ok (g (RR t) σ1) (fun r σ2 => r = v ∧ RepA 119 c S' σ2 ∧ HM d' u' c H' σ2 ∧ (∀ k, k ≠ 62 → k ≠ 63 → σ2.1 90 k = σ1.1 90 k) ∧ Ag AM σ1 σ2))) : Api Inv f g := by
  intro ρ σ hI
  obtain ⟨t, c, S, rfl, hi⟩ := hI
  have hi' := hi
  obtain ⟨ht, wf, ws, hd, ⟨rc, rs⟩, ⟨rm, ra, hx⟩, ⟨d, u, H, ho, hX, hM⟩, hbox, hlie, hflt, ⟨M, T, mk, hmem⟩, ⟨L, bt, htap⟩, hwrd⟩ := hi'
  have tl := isT_le ht
  obtain ⟨v, S', d', u', H', w1, w2, w3, ⟨r1, σ1, e1, rfl, rs1, hx1, a1⟩, hg⟩ := h t c S σ d u H hi ho hX hM
  have z1 : ∀ p, 90 ≤ p → σ1.1 p = σ.1 p := fun p hp => (a1 p (by unfold AX ScX; omega)).1
  obtain ⟨r2, σ2, e2, rfl, ra2, hm2, e90, a2⟩ := hg σ1 a1 (RepM_cg rm (fun p hp => z1 p (by omega))) (RepA_cg ra (z1 119 (by decide))) (by rw [z1 90 (by decide)]; exact hx) (HM_cg hM (by rw [z1 90 (by decide)]) (by rw [z1 90 (by decide)]) (z1 124 (by decide)))
  have z2 : ∀ p, p < 90 → σ2.1 p = σ1.1 p ∧ σ2.2 p = σ1.2 p := fun p hp => a2 p (by unfold AM ScM; omega)
  have y : ∀ p, ¬ AX t p → ¬ AM p → σ2.1 p = σ.1 p ∧ σ2.2 p = σ.2 p := fun p h1 h2 => ⟨(a2 p h2).1.trans (a1 p h1).1, (a2 p h2).2.trans (a1 p h1).2⟩
  have y90 : ∀ k, k ≠ 62 → k ≠ 63 → σ2.1 90 k = σ.1 90 k := fun k h1 h2 => by rw [e90 k h1 h2, z1 90 (by decide)]
  have y' : ∀ p, p ≤ 6 ∨ p = 53 ∨ p = 54 ∨ (68 ≤ p ∧ p ≤ 74) ∨ p = 89 ∨ p = 91 ∨ p = 125 ∨ (128 ≤ p ∧ p ≤ 133) ∨ p = 138 ∨ p = 139 ∨ (96 ≤ p ∧ p ≤ 98) ∨ (111 ≤ p ∧ p ≤ 118) → σ2.1 p = σ.1 p ∧ σ2.2 p = σ.2 p := fun p hp => y p (by unfold AX ScX; omega) (by unfold AM ScM; omega)
  refine ⟨r2, σ1, σ2, e1, e2, t, c, S', rfl, ht, wf, w1, w2, ⟨RepC_cg rc (fun p h1 h2 h3 => (y p (by unfold AX ScX; omega) (by unfold AM ScM; omega)).1), RepS_cg rs1 (fun p h1 h2 => (z2 p (by omega)).1)⟩, ⟨RepM_cg2 rm (fun k hk => y90 k (by omega) (by omega)) (fun p hp => (y' p (by omega)).1), ra2, by rw [y90 27 (by decide) (by decide)]; exact hx⟩, ⟨d', u', H', w3, HX_cg hx1 (z2 51 (by decide)).1 (z2 52 (by decide)).1, hm2⟩, BoxI_cg hbox (y' 53 (by omega)).1 (y' 54 (by omega)).1 (y' 138 (by omega)).1 (y' 139 (by omega)).1, LieI_cg hlie (by rw [(y' 0 (by omega)).1]) (y90 65 (by decide) (by decide)) (y' 89 (by omega)).1 (y' 125 (by omega)).1, FltI_cg hflt (by rw [(y' 0 (by omega)).1]) (by rw [(y' 0 (by omega)).1]) (y90 2 (by decide) (by decide)) (y90 3 (by decide) (by decide)), ⟨M, T, mk, MemI_cg hmem (y' 68 (by omega)).1 (y90 74 (by decide) (by decide)) (y90 75 (by decide) (by decide)) (fun p h1 h2 => (y' p (by omega)).1) (fun p h1 h2 => (y' p (by omega)).1)⟩, ⟨L, bt, TapI_cg htap (y' 4 (by omega)).1 (y90 1 (by decide) (by decide)) (y' 91 (by omega)).1 (y' 5 (by omega)).1⟩, WrdI_cg hwrd (y' 6 (by omega)).2⟩
/-- nothing done -/
theorem nc_x {t d u : Nat} {c : CDat} {S : SDat} {H : Nat → SDat} {o : Option (Int32 × St)} {v : Int32} {σ : St} (ht : isT t) (rs : RepS 41 c S σ) (hx : HX d u c H σ) (h : Ok o (fun r σ1 => r = v ∧ Ag (ScX t) σ σ1)) : Ok o (fun r σ1 => r = v ∧ RepS 41 c S σ1 ∧ HX d u c H σ1 ∧ Ag (AX t) σ σ1) := by
  have tl := isT_le ht
  refine ok_mono h (fun r σ1 hp => ⟨hp.1, RepS_cg rs (fun p a b => (hp.2 p (by unfold ScX; omega)).1), HX_cg hx (hp.2 51 (by unfold ScX; omega)).1 (hp.2 52 (by unfold ScX; omega)).1, ag_mono hp.2 (fun p hq => Or.inl hq)⟩)
theorem nc_m {d u : Nat} {c : CDat} {S : SDat} {H : Nat → SDat} {o : Option (Int32 × St)} {v : Int32} {σ : St} (ra : RepA 119 c S σ) (hm : HM d u c H σ) (h : Ok o (fun r σ2 => r = v ∧ Ag ScM σ σ2)) : Ok o (fun r σ2 => r = v ∧ RepA 119 c S σ2 ∧ HM d u c H σ2 ∧ (∀ k, k ≠ 62 → k ≠ 63 → σ2.1 90 k = σ.1 90 k) ∧ Ag AM σ σ2) := by
  refine ok_mono h (fun r σ2 hp => ?_)
  have e90 : σ2.1 90 = σ.1 90 := (hp.2 90 (by unfold ScM; omega)).1
  exact ⟨hp.1, RepA_cg ra (hp.2 119 (by unfold ScM; omega)).1, HM_cg hm (by rw [e90]) (by rw [e90]) (hp.2 124 (by unfold ScM; omega)).1, fun k _ _ => by rw [e90], ag_mono hp.2 (fun p hq => Or.inl hq)⟩
theorem s_roomC {N t h : Nat} {c : CDat} {S : SDat} {σ : St} (hN : 20000 ≤ N) (ht : isT t) (wf : WfC c) (ws : WfS c S) (rc : RepC t c σ) (rs : RepS 41 c S σ) (hh : h < nh c) : f_X11_hasRoomNow N (RR t) 0 (nI h) σ = some (if mny c S h < dt c 2 h then 1 else 0, σ) := by
  have hnh := wf.1
  have hns := wf.2.1
  have d2 := (wf.2.2.1 h hh).2.2.2.1
  have hm := mny_le (S := S) (h := h) wf
  unfold f_X11_hasRoomNow f_X11_hasRoomNow_28
  rw [r_0_2 rfl, r_0_4 rfl, rt2 rfl ht, bnd_e (s_setAt hN rfl q41 wf ws rs (by omega)), bnd_e (s_bitCount (by omega)), gd_t (ib_nI (by omega) (by decide)), nI_clamp (by omega), show σ.1 (t + 3) h = nI (dt c 2 h) from rc.2.2.2.2.2.1 2 h (by decide) hh]
  by_cases hl : mny c S h < dt c 2 h
  · rw [if_pos hl, if_neg (nI_ge (show cnt (atH S h) (ns c) < dt c 2 h from hl) (by omega))]
    rfl
  · rw [if_neg hl, if_pos (nI_le (show dt c 2 h ≤ cnt (atH S h) (ns c) from Nat.not_lt.mp hl) (by unfold mny at hm; omega))]
    rfl
theorem s_roomM {N t h : Nat} {c : CDat} {S : SDat} {σ : St} (hN : 20000 ≤ N) (wf : WfC c) (ws : WfS c S) (rm : RepM c σ) (ra : RepA 120 c S σ) (hh : h < nh c) : f_X12_hasRoom N (RR t) 90 (nI h) σ = some (if mny c S h < dt c 2 h then 1 else 0, σ) := by
  have hnh := wf.1
  have hns := wf.2.1
  have d2 := (wf.2.2.1 h hh).2.2.2.1
  have hm := mny_le (S := S) (h := h) wf
  unfold f_X12_hasRoom f_X12_hasRoom_22
  rw [r_90_38 rfl, bnd_e (s_sentTo hN rfl wf ws rm ra (by omega)), bnd_e (s_members hN (by omega)), gd_t (ib_nI (by omega) (by decide)), nI_clamp (by omega), show σ.1 113 h = nI (dt c 2 h) from rm.2.2.2.2.2.1 2 h (by decide) hh]
  by_cases hl : mny c S h < dt c 2 h
  · rw [if_pos hl, if_neg (nI_ge (show cnt (atH S h) (ns c) < dt c 2 h from hl) (by omega))]
    rfl
  · rw [if_neg hl, if_pos (nI_le (show dt c 2 h ≤ cnt (atH S h) (ns c) from Nat.not_lt.mp hl) (by unfold mny at hm; omega))]
    rfl
theorem pu3_wf {c : CDat} {S : SDat} {s v : Nat} (ws : WfS c S) (hv : v ≤ nh c) : WfS c (pu S 3 s v) := by
  refine ⟨fun k hk => ?_, ?_, ?_⟩
  · have := ws.1 k hk
    rw [pu_n (by omega), pu_n (by omega), pu_n (by omega)]
    refine ⟨this.1, this.2.1, this.2.2.1, ?_⟩
    by_cases e : k = s
    · subst e; rw [pu_s]; exact hv
    · rw [pu_n (fun z => e z.2)]; exact this.2.2.2
  · rw [pu_n (by omega)]; exact ws.2.1
  · rw [pu_n (by omega)]; exact ws.2.2
/-- a sending, or a calling back, done -/
theorem s_sentC {N t d u s v : Nat} {c : CDat} {S : SDat} {H : Nat → SDat} {x y : Int32} {σ : St} (ht : isT t) (wf : WfC c) (ho : HOk d u c H S) (hx : HX d u c H σ) (rs : RepS 41 c S σ) (hs : s < ns c) (hv : x = sv v) :
    Ok (nmd (sI σ 45 s x) fun σ17 => bnd (f_X4_add N (RR t) 51 41 σ17) fun _ σ19 => some (y, σ19)) (fun r σ1 => r = y ∧ RepS 41 c (pu S 3 s v) σ1 ∧ HX (hD d) 0 c (hH d H (pu S 3 s v)) σ1 ∧ Ag (AX t) σ σ1) := by
  have tl := isT_le ht
  show Ok (bnd (f_X4_add N (RR t) 51 41 (sI σ 45 s x)) fun _ σ19 => some (y, σ19)) _
  have n1 : ∀ p, p ≠ 45 → (sI σ 45 s x).1 p = σ.1 p := fun p hp => sI_ne hp
  have rs1 : RepS 41 c (pu S 3 s v) (sI σ 45 s x) := RepS_w3 rs (p0 := 45) rfl hs n1 sI_up hv
  refine ok_call (s_addC rfl wf ho.1 (HX_cg hx (n1 51 (by decide)) (n1 52 (by decide))) rs1) (fun _ σ2 h2 => ok_ret ⟨rfl, RepS_cg rs1 (fun p a b => (h2.2 p (by omega)).1), h2.1, ?_⟩)
  intro p hp
  have e := h2.2 p (fun z => hp (by unfold AX; omega))
  rw [e.1, e.2]
  exact ⟨n1 p (fun z => hp (by unfold AX; omega)), rfl⟩
theorem s_sentM {N t d u s v : Nat} {c : CDat} {S : SDat} {H : Nat → SDat} {x : Int32} {σ : St} (hN : 20000 ≤ N) (wf : WfC c) (ho : HOk d u c H S) (hm : HM d u c H σ) (ra : RepA 119 c S σ) (hs : s < ns c) (hv : x = sv v) :
    Ok (bnd (f_X12_act N (RR t) 90 σ) fun _ σ19 => gd (ib (nI (15 + s)) 22) <| nmd (σ19.1 119 (15 + s)) fun y22 => gd (ib (nI (15 + s)) 22) <| nmd (sI σ19 119 (15 + s) x) fun σ24 => some (y22, σ24)) (fun r σ2 => r = sv (S 3 s) ∧ RepA 119 c (pu S 3 s v) σ2 ∧ HM (hD d) 0 c (hH d H (pu S 3 s v)) σ2 ∧ (∀ k, k ≠ 62 → k ≠ 63 → σ2.1 90 k = σ.1 90 k) ∧ Ag AM σ σ2) := by
  have hns := wf.2.1
  refine ok_call (s_act hN rfl wf ho hm ra (pu S 3 s v)) (fun _ σ1 h1 => ?_)
  obtain ⟨⟨g1, g2, g3⟩, a1⟩ := h1
  have ra1 : RepA 119 c S σ1 := RepA_cg ra (a1 119 (by decide)).1
  have ib1 : ib (nI (15 + s)) 22 = true := ib_nI (by omega) (by decide)
  refine ok_gd ib1 (ok_nmd (ok_gd ib1 ?_))
  show Ok (some (σ1.1 119 (15 + s), sI σ1 119 (15 + s) x)) _
  have n2 : ∀ p, p ≠ 119 → (sI σ1 119 (15 + s) x).1 p = σ1.1 p := fun p hp => sI_ne hp
  refine ok_ret ⟨(ra1.1 s hs).2.2.2, RepA_w3 ra1 hns (by omega) rfl sI_up hv, HM_cg g1 (by rw [n2 90 (by decide)]) (by rw [n2 90 (by decide)]) (n2 124 (by decide)), fun k k1 k2 => by rw [n2 90 (by decide)]; exact g3 k k1 k2, ?_⟩
  intro p hp
  have e := a1 p (fun z => hp (by unfold AM ScM; omega))
  exact ⟨(n2 p (fun z => hp (by unfold AM ScM; omega))).trans e.1, e.2⟩
set_option maxHeartbeats 400000 in
theorem api_send {N : Nat} (hN : 20000 ≤ N) (a1 a2 : Int32) : Api Inv (fun ρ σ => f_X11_send N ρ 0 a1 a2 σ) (fun ρ σ => f_X12_send N ρ 90 a1 a2 σ) := by
  refine api_a (fun t c S σ d u H hi ho hX hM => ?_)
  obtain ⟨ht, wf, ws, hd, ⟨rc, rs⟩, _⟩ := hi
  have hnh := wf.1
  have hns := wf.2.1
  rcases ix_of a1 (show ns c < 2 ^ 31 by omega) with ⟨s, hs, rfl⟩ | hn
  · rcases ix_of a2 (show nh c < 2 ^ 31 by omega) with ⟨h, hh, rfl⟩ | hn2
    · have h3b := (ws.1 s hs).2.2.2
      have esv := sv_eq (v := S 3 s) (h := h) (by omega) (by omega)
      by_cases e : S 3 s = h + 1
      · refine ⟨-2, S, d, u, H, ws, hd, ho, nc_x ht rs hX ?_, fun σ1 _ rm ra hx hm => nc_m ra hm ?_⟩
        · show Ok (f_X11_send N (RR t) 0 (nI s) (nI h) σ) _
          unfold f_X11_send f_X11_send_48
          rw [r_0_2 rfl, r_0_4 rfl, rq3 rfl q41, nI_clamp (show s < 2 ^ 31 by omega)]
          refine ok_bnd (hasS_y rc.2.1 hns hs) (ok_neg (by decide) (ok_bnd (hasH_y rc.1 hnh hh) (ok_neg (by decide) (ok_gd (ib_nI (by omega) (by decide)) (ok_nmd ?_)))))
          rw [(rs.1 s hs).2.2.2]
          exact ok_pos (esv.mpr e) (ok_ret ⟨rfl, ag_refl⟩)
        · show Ok (f_X12_send N (RR t) 90 (nI s) (nI h) σ1) _
          unfold f_X12_send f_X12_send_41
          rw [n15, r_90_57 rfl, nI_clamp (show 15 + s < 2 ^ 31 by omega)]
          refine m_fill hN rfl wf rm ra hx (fun _ σ2 a2 rm2 ra2 _ _ hx2 => ok_bnd (isS_y wf rm2 hs) (ok_neg (by decide) (ok_bnd (isH_y wf rm2 hh) (ok_neg (by decide) (ok_gd (ib_nI (by omega) (by decide)) ?_)))))
          rw [(ra2.1 s hs).2.2.2]
          exact ok_pos (esv.mpr e) (ok_ret ⟨rfl, a120 a2⟩)
      · by_cases hr : mny c S h < dt c 2 h
        · refine ⟨sv (S 3 s), pu S 3 s (h + 1), hD d, 0, hH d H (pu S 3 s (h + 1)), pu3_wf ws (by omega), by rw [pu_n (by omega)]; exact hd, HOk_add ho (pu3_wf ws (by omega)) (by rw [pu_n (by omega)]; exact hd), ?_, fun σ1 _ rm ra hx hm => ?_⟩
          · show Ok (f_X11_send N (RR t) 0 (nI s) (nI h) σ) _
            unfold f_X11_send
            rw [r_0_2 rfl, r_0_4 rfl, r_0_6 rfl, rq3 rfl q41, nI_clamp (show s < 2 ^ 31 by omega)]
            refine ok_bnd (hasS_y rc.2.1 hns hs) (ok_neg (by decide) (ok_bnd (hasH_y rc.1 hnh hh) (ok_neg (by decide) (ok_gd (ib_nI (by omega) (by decide)) (ok_nmd ?_)))))
            rw [(rs.1 s hs).2.2.2]
            refine ok_neg (fun z => e (esv.mp z)) (ok_bnd (s_roomC hN ht wf ws rc rs hh) ?_)
            rw [if_pos hr]
            exact ok_neg (by decide) (ok_gd (ib_nI (by omega) (by decide)) (s_sentC ht wf ho hX rs hs rfl))
          · show Ok (f_X12_send N (RR t) 90 (nI s) (nI h) σ1) _
            unfold f_X12_send
            rw [n15, r_90_56 rfl, r_90_57 rfl, nI_clamp (show 15 + s < 2 ^ 31 by omega)]
            refine m_fill hN rfl wf rm ra hx (fun _ σ2 a2 rm2 ra2 ra3 e90 hx2 => ok_bnd (isS_y wf rm2 hs) (ok_neg (by decide) (ok_bnd (isH_y wf rm2 hh) (ok_neg (by decide) (ok_gd (ib_nI (by omega) (by decide)) ?_)))))
            rw [(ra2.1 s hs).2.2.2]
            refine ok_neg (fun z => e (esv.mp z)) (ok_bnd (s_roomM hN wf ws rm2 ra2 hh) ?_)
            rw [if_pos hr]
            refine ok_neg (by decide) ?_
            refine ok_mono (s_sentM (t := t) (v := h + 1) hN wf ho (HM_cg hm (by rw [e90]) (by rw [e90]) (a2 124 (by decide)).1) ra3 hs rfl) (fun r σ3 hp => ⟨hp.1, hp.2.1, hp.2.2.1, fun k k1 k2 => by rw [hp.2.2.2.1 k k1 k2, e90], ag_trans (ag_mono (a120 a2) (fun p hq => Or.inl hq)) hp.2.2.2.2⟩)
        · refine ⟨-2, S, d, u, H, ws, hd, ho, nc_x ht rs hX ?_, fun σ1 _ rm ra hx hm => nc_m ra hm ?_⟩
          · show Ok (f_X11_send N (RR t) 0 (nI s) (nI h) σ) _
            unfold f_X11_send f_X11_send_48
            rw [r_0_2 rfl, r_0_4 rfl, rq3 rfl q41, nI_clamp (show s < 2 ^ 31 by omega)]
            refine ok_bnd (hasS_y rc.2.1 hns hs) (ok_neg (by decide) (ok_bnd (hasH_y rc.1 hnh hh) (ok_neg (by decide) (ok_gd (ib_nI (by omega) (by decide)) (ok_nmd ?_)))))
            rw [(rs.1 s hs).2.2.2]
            refine ok_neg (fun z => e (esv.mp z)) (ok_bnd (s_roomC hN ht wf ws rc rs hh) ?_)
            rw [if_neg hr]
            exact ok_pos rfl (ok_ret ⟨rfl, ag_refl⟩)
          · show Ok (f_X12_send N (RR t) 90 (nI s) (nI h) σ1) _
            unfold f_X12_send f_X12_send_41
            rw [n15, r_90_57 rfl, nI_clamp (show 15 + s < 2 ^ 31 by omega)]
            refine m_fill hN rfl wf rm ra hx (fun _ σ2 a2 rm2 ra2 _ _ hx2 => ok_bnd (isS_y wf rm2 hs) (ok_neg (by decide) (ok_bnd (isH_y wf rm2 hh) (ok_neg (by decide) (ok_gd (ib_nI (by omega) (by decide)) ?_)))))
            rw [(ra2.1 s hs).2.2.2]
            refine ok_neg (fun z => e (esv.mp z)) (ok_bnd (s_roomM hN wf ws rm2 ra2 hh) ?_)
            rw [if_neg hr]
            exact ok_pos rfl (ok_ret ⟨rfl, a120 a2⟩)
    · refine ⟨-2, S, d, u, H, ws, hd, ho, nc_x ht rs hX ?_, fun σ1 _ rm ra hx hm => nc_m ra hm ?_⟩
      · show Ok (f_X11_send N (RR t) 0 (nI s) a2 σ) _
        unfold f_X11_send f_X11_send_22
        rw [r_0_2 rfl]
        exact ok_bnd (hasS_y rc.2.1 hns hs) (ok_neg (by decide) (ok_bnd (hasH_n rc.1 hn2) (ok_pos rfl (ok_ret ⟨rfl, ag_refl⟩))))
      · show Ok (f_X12_send N (RR t) 90 (nI s) a2 σ1) _
        unfold f_X12_send f_X12_send_41
        exact m_fill hN rfl wf rm ra hx (fun _ σ2 a2 rm2 ra2 _ _ hx2 => ok_bnd (isS_y wf rm2 hs) (ok_neg (by decide) (ok_bnd (isH_n wf rm2 hn2) (ok_pos rfl (ok_ret ⟨rfl, a120 a2⟩)))))
  · refine ⟨-2, S, d, u, H, ws, hd, ho, nc_x ht rs hX ?_, fun σ1 _ rm ra hx hm => nc_m ra hm ?_⟩
    · show Ok (f_X11_send N (RR t) 0 a1 a2 σ) _
      unfold f_X11_send f_X11_send_22
      rw [r_0_2 rfl]
      exact ok_bnd (hasS_n rc.2.1 hn) (ok_pos rfl (ok_ret ⟨rfl, ag_refl⟩))
    · show Ok (f_X12_send N (RR t) 90 a1 a2 σ1) _
      unfold f_X12_send f_X12_send_41
      exact m_fill hN rfl wf rm ra hx (fun _ σ2 a2 rm2 ra2 _ _ hx2 => ok_bnd (isS_n wf rm2 hn) (ok_pos rfl (ok_ret ⟨rfl, a120 a2⟩)))
theorem api_call {N : Nat} (hN : 20000 ≤ N) (a1 : Int32) : Api Inv (fun ρ σ => f_X11_call N ρ 0 a1 σ) (fun ρ σ => f_X12_call N ρ 90 a1 σ) := by
  refine api_a (fun t c S σ d u H hi ho hX hM => ?_)
  obtain ⟨ht, wf, ws, hd, ⟨rc, rs⟩, _⟩ := hi
  have hnh := wf.1
  have hns := wf.2.1
  rcases ix_of a1 (show ns c < 2 ^ 31 by omega) with ⟨s, hs, rfl⟩ | hn
  · have h3b := (ws.1 s hs).2.2.2
    by_cases h3 : S 3 s = 0
    · refine ⟨-1, S, d, u, H, ws, hd, ho, nc_x ht rs hX ?_, fun σ1 _ rm ra hx hm => nc_m ra hm ?_⟩
      · show Ok (f_X11_call N (RR t) 0 (nI s) σ) _
        unfold f_X11_call
        exact ok_bnd (s_isSent_n ht wf rc rs (Or.inr ⟨s, hs, rfl, h3⟩)) (ok_pos rfl (ok_ret ⟨rfl, ag_refl⟩))
      · show Ok (f_X12_call N (RR t) 90 (nI s) σ1) _
        unfold f_X12_call f_X12_call_20
        rw [n15, r_90_56 rfl, nI_clamp (show 15 + s < 2 ^ 31 by omega)]
        refine ok_bnd (isS_y wf rm hs) (ok_neg (by decide) (ok_gd (ib_nI (by omega) (by decide)) ?_))
        rw [(ra.1 s hs).2.2.2]
        exact ok_neg (sv_neg h3) (ok_ret ⟨rfl, ag_refl⟩)
    · refine ⟨sv (S 3 s), pu S 3 s 0, hD d, 0, hH d H (pu S 3 s 0), pu3_wf ws (by omega), by rw [pu_n (by omega)]; exact hd, HOk_add ho (pu3_wf ws (by omega)) (by rw [pu_n (by omega)]; exact hd), ?_, fun σ1 _ rm ra hx hm => ?_⟩
      · show Ok (f_X11_call N (RR t) 0 (nI s) σ) _
        unfold f_X11_call
        rw [r_0_4 rfl, r_0_6 rfl, rq3 rfl q41, nI_clamp (show s < 2 ^ 31 by omega)]
        refine ok_bnd (s_isSent_y ht wf ws rc rs hs h3) (ok_neg (by decide) (ok_gd (ib_nI (by omega) (by decide)) (ok_nmd (ok_gd (ib_nI (by omega) (by decide)) ?_))))
        rw [(rs.1 s hs).2.2.2]
        exact s_sentC ht wf ho hX rs hs rfl
      · show Ok (f_X12_call N (RR t) 90 (nI s) σ1) _
        unfold f_X12_call
        rw [n15, r_90_56 rfl, nI_clamp (show 15 + s < 2 ^ 31 by omega)]
        refine ok_bnd (isS_y wf rm hs) (ok_neg (by decide) (ok_gd (ib_nI (by omega) (by decide)) ?_))
        rw [(ra.1 s hs).2.2.2]
        exact ok_pos (sv_pos h3 (by omega)) (s_sentM (t := t) (v := 0) hN wf ho hm ra hs rfl)
  · refine ⟨-1, S, d, u, H, ws, hd, ho, nc_x ht rs hX ?_, fun σ1 _ rm ra hx hm => nc_m ra hm ?_⟩
    · show Ok (f_X11_call N (RR t) 0 a1 σ) _
      unfold f_X11_call
      exact ok_bnd (s_isSent_n ht wf rc rs (Or.inl hn)) (ok_pos rfl (ok_ret ⟨rfl, ag_refl⟩))
    · show Ok (f_X12_call N (RR t) 90 a1 σ1) _
      unfold f_X12_call f_X12_call_20
      exact ok_bnd (isS_n wf rm hn) (ok_pos rfl (ok_ret ⟨rfl, ag_refl⟩))
