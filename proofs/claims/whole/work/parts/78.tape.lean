/-! THE TAPE: FEED, END -/
def TX (L : Nat) (bt : Nat → Nat) (σ : St) : Prop := σ.1 4 1 = nI L ∧ ∀ j, j < L → σ.1 5 j = sb (bt j)
def TMo (L : Nat) (bt : Nat → Nat) (σ : St) : Prop := σ.1 90 1 = nI L ∧ ∀ j, j < L → σ.1 91 j = nI (bt j)
theorem TX_cg {L : Nat} {bt : Nat → Nat} {σ σ' : St} (h : TX L bt σ) (e4 : σ'.1 4 = σ.1 4) (e5 : σ'.1 5 = σ.1 5) : TX L bt σ' := by
  unfold TX
  rw [e4, e5]
  exact h
def ATx (p : Nat) : Prop := p = 4 ∨ p = 5
def ATm (p : Nat) : Prop := p = 90 ∨ p = 91
theorem api_tape {f g : (Nat → Nat → Nat) → St → Option (Int32 × St)} (h : ∀ t σ L bt, L ≤ 1600 → (∀ j, j < L → bt j < 256) → TX L bt σ → ∃ v L' bt', L' ≤ 1600 ∧ (∀ j, j < L' → bt' j < 256) ∧ Ok (f (RR t) σ) (fun r σ1 => r = v ∧ TX L' bt' σ1 ∧ Ag ATx σ σ1) ∧ ∀ σ1, TMo L bt σ1 → Ok (g (RR t) σ1) (fun r σ2 => r = v ∧ TMo L' bt' σ2 ∧ (∀ k, k ≠ 1 → σ2.1 90 k = σ1.1 90 k) ∧ Ag ATm σ1 σ2)) : Api Inv f g := by
  intro ρ σ hI
  obtain ⟨t, c, S, rfl, hi⟩ := hI
  have hi' := hi
  obtain ⟨ht, wf, ws, hd, ⟨rc, rs⟩, ⟨rm, ra, hx⟩, hhist, hbox, hlie, hflt, ⟨M, T, mk, hmem⟩, ⟨L, bt, htap⟩, hwrd⟩ := hi'
  have tl := isT_le ht
  obtain ⟨hL, t1, t2, t3⟩ := htap
  obtain ⟨v, L', bt', hL', hb', ⟨r1, σ1, e1, rfl, tx1, a1⟩, hg⟩ := h t σ L bt hL (fun j hj => (t3 j hj).1) ⟨t1, fun j hj => (t3 j hj).2.2⟩
  have z1 : ∀ p, ¬ ATx p → σ1.1 p = σ.1 p ∧ σ1.2 p = σ.2 p := fun p hp => a1 p hp
  obtain ⟨r2, σ2, e2, rfl, tm2, e90, a2⟩ := hg σ1 ⟨by rw [(z1 90 (by unfold ATx; omega)).1]; exact t2, fun j hj => by rw [(z1 91 (by unfold ATx; omega)).1]; exact (t3 j hj).2.1⟩
  have y90 : ∀ k, k ≠ 1 → σ2.1 90 k = σ.1 90 k := fun k h1 => by rw [e90 k h1, (z1 90 (by unfold ATx; omega)).1]
  have y' : ∀ p, p < 4 ∨ (6 ≤ p ∧ p < 90) ∨ 92 ≤ p → σ2.1 p = σ.1 p ∧ σ2.2 p = σ.2 p := fun p hp => ⟨(a2 p (by unfold ATm; omega)).1.trans (z1 p (by unfold ATx; omega)).1, (a2 p (by unfold ATm; omega)).2.trans (z1 p (by unfold ATx; omega)).2⟩
  have tx2 := TX_cg tx1 (a2 4 (by unfold ATm; omega)).1 (a2 5 (by unfold ATm; omega)).1
  refine ⟨r2, σ1, σ2, e1, e2, t, c, S, rfl, Iv_gen hi (fun p hp => (y' p (by unfold CoreP at hp; omega)).1) (fun k hk => y90 k (by omega)) (LieI_cg hlie (by rw [(y' 0 (by omega)).1]) (y90 65 (by decide)) (y' 89 (by omega)).1 (y' 125 (by omega)).1) (FltI_cg hflt (by rw [(y' 0 (by omega)).1]) (by rw [(y' 0 (by omega)).1]) (y90 2 (by decide)) (y90 3 (by decide))) ⟨M, T, mk, MemI_cg hmem (y' 68 (by omega)).1 (y90 74 (by decide)) (y90 75 (by decide)) (fun p h1 h2 => (y' p (by omega)).1) (fun p h1 h2 => (y' p (by omega)).1)⟩ ⟨L', bt', hL', tx2.1, tm2.1, fun j hj => ⟨hb' j hj, tm2.2 j hj, tx2.2 j hj⟩⟩ (WrdI_cg hwrd (y' 6 (by omega)).2)⟩
theorem nc_tx {L : Nat} {bt : Nat → Nat} {o : Option (Int32 × St)} {v : Int32} {σ : St} (tx : TX L bt σ) (h : o = some (v, σ)) : Ok o (fun r σ1 => r = v ∧ TX L bt σ1 ∧ Ag ATx σ σ1) := ok_eq h ⟨rfl, tx, ag_refl⟩
theorem nc_tm {L : Nat} {bt : Nat → Nat} {o : Option (Int32 × St)} {v : Int32} {σ : St} (tm : TMo L bt σ) (h : o = some (v, σ)) : Ok o (fun r σ2 => r = v ∧ TMo L bt σ2 ∧ (∀ k, k ≠ 1 → σ2.1 90 k = σ.1 90 k) ∧ Ag ATm σ σ2) := ok_eq h ⟨rfl, tm, fun _ _ => rfl, ag_refl⟩
theorem api_end {N : Nat} (a1 : Int32) : Api Inv (fun ρ σ => f_X11_end N ρ 0 a1 σ) (fun ρ σ => f_X12_end N ρ 90 a1 σ) := by
  refine api_tape (fun t σ L bt hL hb tx => ?_)
  rcases ix_of a1 (show L + 1 < 2 ^ 31 by omega) with ⟨n, hn, rfl⟩ | hn
  · refine ⟨nI n, n, bt, by omega, fun j hj => hb j (by omega), ?_, fun σ1 tm => ?_⟩
    · unfold f_X11_end
      rw [r_0_0 rfl, tx.1, if_neg (nI_pos (show n < 2 ^ 31 by omega)), if_pos (nI_le (by omega) (by omega))]
      show Ok (some (nI n, sI σ 4 1 (nI n))) _
      exact ok_ret ⟨rfl, ⟨by rw [sI_up, pk_us], fun j hj => by rw [sI_ne (by decide)]; exact tx.2 j (by omega)⟩, fun p hp => ⟨sI_ne (fun z => hp (by unfold ATx; omega)), rfl⟩⟩
    · unfold f_X12_end
      rw [tm.1, if_neg (nI_pos (show n < 2 ^ 31 by omega)), if_pos (nI_le (by omega) (by omega))]
      show Ok (some (nI n, sI σ1 90 1 (nI n))) _
      exact ok_ret ⟨rfl, ⟨by rw [sI_up, pk_us], fun j hj => by rw [sI_ne (by decide)]; exact tm.2 j (by omega)⟩, fun k hk => by rw [sI_up, pk_un hk], fun p hp => ⟨sI_ne (fun z => hp (by unfold ATm; omega)), rfl⟩⟩
  · have key : ∀ a d : Option (Int32 × St), (if a1 < 0 then d else if a1 ≤ nI L then a else d) = d := by
      intro a d
      by_cases h0 : a1 < 0
      · rw [if_pos h0]
      · rw [if_neg h0, if_neg (nI_gap (by omega) (hn.resolve_left h0))]
    refine ⟨-1, L, bt, hL, hb, nc_tx tx ?_, fun σ1 tm => nc_tm tm ?_⟩
    · unfold f_X11_end f_X11_end_15
      rw [r_0_0 rfl, tx.1, key]
    · unfold f_X12_end f_X12_end_12
      rw [tm.1, key]
/-- bytes -/
def shv (i : Nat) : Int32 := ([24, 16, 8, 0] : List Int32).getD i (-8)
def byt (a : Int32) (k : Nat) : Nat := (a.toBitVec.toNat / 2 ^ (24 - 8 * k)) % 256
theorem byt_lt {a : Int32} {k : Nat} : byt a k < 256 := Nat.mod_lt _ (by decide)
theorem four {i : Nat} (h : i < 4) : i = 0 ∨ i = 1 ∨ i = 2 ∨ i = 3 := by omega
theorem i_nat (x : Int32) : x.toInt = if 2 * x.toBitVec.toNat < 4294967296 then (x.toBitVec.toNat : Int) else (x.toBitVec.toNat : Int) - 4294967296 := BitVec.toInt_eq_toNat_cond x.toBitVec
theorem i_lt (x : Int32) : x.toBitVec.toNat < 4294967296 := x.toBitVec.isLt
theorem shr_nat {x a : Int32} {k : Nat} (d : Nat) (hd : d = 2 ^ k) (h : x.toInt = a.toInt >>> k) : x.toInt = a.toInt / (d : Int) := by
  rw [h, Int.shiftRight_eq_div_pow, hd]
theorem byt_m {a : Int32} {i : Nat} (hi : i < 4) : (a >>> (shv i &&& 31)) &&& 255 = nI (byt a i) := by
  rw [pk_and _ (m := 255) 8 rfl]
  congr 1
  have ha := i_nat a
  have hl := i_lt a
  rcases four hi with rfl | rfl | rfl | rfl
  · have h := shr_nat 16777216 rfl (pk_shr a 24 24 rfl)
    have h1 := i_nat (a >>> 24)
    have h2 := i_lt (a >>> 24)
    show (a >>> 24).toBitVec.toNat % 256 = (a.toBitVec.toNat / 16777216) % 256
    generalize (a >>> 24).toBitVec.toNat = y at *
    generalize a.toBitVec.toNat = z at *
    split at ha <;> split at h1 <;> omega
  · have h := shr_nat 65536 rfl (pk_shr a 16 16 rfl)
    have h1 := i_nat (a >>> 16)
    have h2 := i_lt (a >>> 16)
    show (a >>> 16).toBitVec.toNat % 256 = (a.toBitVec.toNat / 65536) % 256
    generalize (a >>> 16).toBitVec.toNat = y at *
    generalize a.toBitVec.toNat = z at *
    split at ha <;> split at h1 <;> omega
  · have h := shr_nat 256 rfl (pk_shr a 8 8 rfl)
    have h1 := i_nat (a >>> 8)
    have h2 := i_lt (a >>> 8)
    show (a >>> 8).toBitVec.toNat % 256 = (a.toBitVec.toNat / 256) % 256
    generalize (a >>> 8).toBitVec.toNat = y at *
    generalize a.toBitVec.toNat = z at *
    split at ha <;> split at h1 <;> omega
  · have h := shr_nat 1 rfl (pk_shr a 0 0 rfl)
    have h1 := i_nat (a >>> 0)
    have h2 := i_lt (a >>> 0)
    show (a >>> 0).toBitVec.toNat % 256 = (a.toBitVec.toNat / 1) % 256
    generalize (a >>> 0).toBitVec.toNat = y at *
    generalize a.toBitVec.toNat = z at *
    split at ha <;> split at h1 <;> omega
theorem sb_toInt {b : Nat} (h : b < 256) : (sb b).toInt = if b < 128 then (b : Int) else (b : Int) - 256 := by
  unfold sb
  by_cases hb : b < 128
  · rw [if_pos hb, if_pos hb, nI_toInt (by omega)]
  · rw [if_neg hb, if_neg hb]
    exact pk_sub_toInt (b := 256) (by omega) (by decide)
theorem i8_sb (y : Int32) : y.toInt8.toInt32 = sb (y.toBitVec.toNat % 256) := by
  apply Int32.toInt_inj.mp
  rw [sb_toInt (Nat.mod_lt _ (by decide)), Int8.toInt_toInt32, Int32.toInt_toInt8]
  have h1 := i_nat y
  rw [Int.bmod_def]
  generalize y.toBitVec.toNat = z at *
  generalize y.toInt = w at *
  by_cases hz : 2 * z < 4294967296
  · rw [if_pos hz] at h1
    subst h1
    by_cases hb : z % 256 < 128
    · rw [if_pos hb, if_pos (by omega)]; omega
    · rw [if_neg hb, if_neg (by omega)]; omega
  · rw [if_neg hz] at h1
    subst h1
    by_cases hb : z % 256 < 128
    · rw [if_pos hb, if_pos (by omega)]; omega
    · rw [if_neg hb, if_neg (by omega)]; omega
theorem byt_c {a : Int32} {i : Nat} (hi : i < 4) : vp_nar .byte ((ushr a (shv i)).toInt8.toInt32) = sb (byt a i) := by
  rw [pk_vb, i8_sb]
  congr 1
  rcases four hi with rfl | rfl | rfl | rfl
  · rw [show (ushr a (shv 0)).toBitVec.toNat = _ from pk_ushr a 24 24 rfl]; rfl
  · rw [show (ushr a (shv 1)).toBitVec.toNat = _ from pk_ushr a 16 16 rfl]; rfl
  · rw [show (ushr a (shv 2)).toBitVec.toNat = _ from pk_ushr a 8 8 rfl]; rfl
  · rw [show (ushr a (shv 3)).toBitVec.toNat = _ from pk_ushr a 0 0 rfl]; rfl
theorem shv_nn : ∀ i, i < 4 → ¬ shv i < 0 := by decide +kernel
theorem shv_s : ∀ i, i < 4 → shv i + (-8) = shv (i + 1) := by decide +kernel
def apt (bt : Nat → Nat) (L : Nat) (a : Int32) : Nat → Nat := fun j => if j < L then bt j else byt a (j - L)
theorem apt_lt {bt : Nat → Nat} {L : Nat} {a : Int32} {K : Nat} (h : ∀ j, j < L → bt j < 256) : ∀ j, j < K → apt bt L a j < 256 := by
  intro j _
  unfold apt
  split
  · exact h j (by assumption)
  · exact byt_lt
theorem s_put {N t L : Nat} {bt : Nat → Nat} {a : Int32} {σ : St} (hN : 20000 ≤ N) (hL : L + 4 ≤ 1600) (tx : TX L bt σ) : Ok (f_X10_put N (RR t) 4 a σ) (fun _ σ' => TX (L + 4) (apt bt L a) σ') := by
  refine lp (F := fun n i σ' => f_X10_put_3 N (RR t) 4 a n (shv i) σ') 4 (fun i σ' => TX (L + i) (apt bt L a) σ') ?_ ?_ N 0 σ (Nat.zero_le _) (by omega) ⟨tx.1, fun j hj => by rw [apt, if_pos (show j < L from hj)]; exact tx.2 j hj⟩
  · intro n i σ1 hi t1 kk
    show Ok (b_X10_put_3 _ _ _ _ _ _ _) _
    unfold b_X10_put_3 f_X10_put_47
    rw [r_4_0 rfl, t1.1, nI_clamp (show L + i < 2 ^ 31 by omega), byt_c hi, shv_s i hi]
    refine ok_neg (shv_nn i hi) (ok_neg (nI_pos (by omega)) (ok_neg (show ¬ nI 1600 ≤ nI (L + i) from nI_ge (by omega) (by decide)) (ok_gd (ib_nI (by omega) (by decide)) (ok_sI fun σ2 n2 u2 => ok_sI fun σ3 n3 u3 => ?_))))
    refine kk σ3 ⟨?_, fun j hj => ?_⟩
    · rw [u3, pk_us, n2 4 (by decide), t1.1, nI_1]
      rfl
    · rw [n3 5 (by decide), u2]
      by_cases ej : j = L + i
      · subst ej
        rw [pk_us, apt, if_neg (by omega), Nat.add_sub_cancel_left]
      · rw [pk_un ej]
        exact t1.2 j (by omega)
  · intro n σ1 t1
    show Ok (b_X10_put_3 _ _ _ _ _ _ _) _
    unfold b_X10_put_3
    exact ok_pos (show shv 4 < 0 by decide) (ok_ret t1)
theorem s_four {N t L : Nat} {bt : Nat → Nat} {a : Int32} {σ : St} (hN : 20000 ≤ N) (hL : L + 4 ≤ 1600) (tm : TMo L bt σ) : Ok (f_X12_four N (RR t) 90 a σ) (fun _ σ' => TMo (L + 4) (apt bt L a) σ' ∧ ∀ k, k ≠ 1 → σ'.1 90 k = σ.1 90 k) := by
  refine lp (F := fun n i σ' => f_X12_four_3 N (RR t) 90 a n (shv i) σ') 4 (fun i σ' => TMo (L + i) (apt bt L a) σ' ∧ ∀ k, k ≠ 1 → σ'.1 90 k = σ.1 90 k) ?_ ?_ N 0 σ (Nat.zero_le _) (by omega) ⟨⟨tm.1, fun j hj => by rw [apt, if_pos (show j < L from hj)]; exact tm.2 j hj⟩, fun _ _ => rfl⟩
  · rintro n i σ1 hi ⟨t1, k1⟩ kk
    show Ok (b_X12_four_3 _ _ _ _ _ _ _) _
    unfold b_X12_four_3
    rw [r_90_0 rfl, t1.1, nI_clamp (show L + i < 2 ^ 31 by omega), byt_m hi, shv_s i hi]
    refine ok_neg (shv_nn i hi) (ok_gd (ib_nI (by omega) (by decide)) (ok_sI fun σ2 n2 u2 => ok_sI fun σ3 n3 u3 => ?_))
    refine kk σ3 ⟨⟨?_, fun j hj => ?_⟩, fun k hk => ?_⟩
    · rw [u3, pk_us, n2 90 (by decide), t1.1, nI_1]
      rfl
    · rw [n3 91 (by decide), u2]
      by_cases ej : j = L + i
      · subst ej
        rw [pk_us, apt, if_neg (by omega), Nat.add_sub_cancel_left]
      · rw [pk_un ej]
        exact t1.2 j (by omega)
    · rw [u3, pk_un hk, n2 90 (by decide)]
      exact k1 k hk
  · rintro n σ1 ⟨t1, k1⟩
    show Ok (b_X12_four_3 _ _ _ _ _ _ _) _
    unfold b_X12_four_3
    exact ok_pos (show shv 4 < 0 by decide) (ok_ret ⟨t1, k1⟩)
set_option maxHeartbeats 400000 in
theorem api_feed {N : Nat} (hN : 20000 ≤ N) (a1 a2 a3 a4 a5 : Int32) : Api Inv (fun ρ σ => f_X11_feed N ρ 0 a1 a2 a3 a4 a5 σ) (fun ρ σ => f_X12_feed N ρ 90 a1 a2 a3 a4 a5 σ) := by
  refine api_tape (fun t σ L bt hL hb tx => ?_)
  have e20 : nI L + 20 = nI (L + 20) := nI_add L 20
  by_cases h : L + 20 ≤ 1600
  · refine ⟨nI (L + 20), L + 20, apt (apt (apt (apt (apt bt L a1) (L + 4) a2) (L + 8) a3) (L + 12) a4) (L + 16) a5, h, apt_lt (apt_lt (apt_lt (apt_lt (apt_lt hb)))), ?_, fun σ1 tm => ?_⟩
    · have hh := ok_ag (P := fun σ' => Ag ATx σ σ') (o := f_X11_feed N (RR t) 0 a1 a2 a3 a4 a5 σ) (Q := fun r σ1 => r = nI (L + 20) ∧ TX (L + 20) (apt (apt (apt (apt (apt bt L a1) (L + 4) a2) (L + 8) a3) (L + 12) a4) (L + 16) a5) σ1) ?_ (fun r σ' e => by have := m_X11_feed e; rw [r_0_0 rfl, r_4_0 rfl] at this; exact ag_mono this (fun p hp => by unfold ATx; omega))
      · exact ok_mono hh (fun r σ1 hp => ⟨hp.1.1, hp.1.2, hp.2⟩)
      · unfold f_X11_feed
        rw [r_0_0 rfl]
        refine ok_bnd (r := 1) (σ := σ) (by unfold f_X10_hasRoomFor f_X10_hasRoomFor_17; rw [tx.1, e20, if_neg (show ¬ (1600 : Int32) < nI (L + 20) from show ¬ nI 1600 < nI (L + 20) from nI_nlt h (by decide))]; rfl) (ok_neg (by decide) ?_)
        refine ok_call (s_put hN (by omega) tx) (fun _ σ1 t1 => ok_call (s_put hN (by omega) t1) (fun _ σ2 t2 => ok_call (s_put hN (by omega) t2) (fun _ σ3 t3 => ok_call (s_put hN (by omega) t3) (fun _ σ4 t4 => ok_call (s_put hN (by omega) t4) (fun _ σ5 t5 => ok_ret ⟨t5.1, t5⟩)))))
    · have hh := ok_ag (P := fun σ' => Ag ATm σ1 σ') (o := f_X12_feed N (RR t) 90 a1 a2 a3 a4 a5 σ1) (Q := fun r σ2 => r = nI (L + 20) ∧ TMo (L + 20) (apt (apt (apt (apt (apt bt L a1) (L + 4) a2) (L + 8) a3) (L + 12) a4) (L + 16) a5) σ2 ∧ ∀ k, k ≠ 1 → σ2.1 90 k = σ1.1 90 k) ?_ (fun r σ' e => by have := m_X12_feed e; rw [r_90_0 rfl] at this; exact ag_mono this (fun p hp => by unfold ATm; omega))
      · exact ok_mono hh (fun r σ2 hp => ⟨hp.1.1, hp.1.2.1, hp.1.2.2, hp.2⟩)
      · unfold f_X12_feed
        rw [tm.1, e20]
        refine ok_pos (show nI (L + 20) ≤ nI 1600 from nI_le h (by decide)) ?_
        refine ok_call (s_four hN (by omega) tm) (fun _ σ2 t2 => ok_call (s_four hN (by omega) t2.1) (fun _ σ3 t3 => ok_call (s_four hN (by omega) t3.1) (fun _ σ4 t4 => ok_call (s_four hN (by omega) t4.1) (fun _ σ5 t5 => ok_call (s_four hN (by omega) t5.1) (fun _ σ6 t6 => ok_ret ⟨t6.1.1, t6.1, fun k hk => ?_⟩)))))
        rw [t6.2 k hk, t5.2 k hk, t4.2 k hk, t3.2 k hk, t2.2 k hk]
  · refine ⟨-1, L, bt, hL, hb, nc_tx tx ?_, fun σ1 tm => nc_tm tm ?_⟩
    · unfold f_X11_feed f_X10_hasRoomFor f_X10_hasRoomFor_17
      rw [r_0_0 rfl, tx.1, e20, if_pos (show (1600 : Int32) < nI (L + 20) from show nI 1600 < nI (L + 20) from nI_lt (by omega) (by omega))]
      rfl
    · unfold f_X12_feed
      rw [tm.1, e20, if_neg (show ¬ nI (L + 20) ≤ (1600 : Int32) from show ¬ nI (L + 20) ≤ nI 1600 from nI_ge (by omega) (by omega))]
