/-! THE MODEL's TOKEN, whole -/
def TkQ (τ : Tape) (p : Nat) (σ σ' : St) : Prop := LexM τ p σ' ∧ (∀ k, k ≠ 4 → k ≠ 6 → k ≠ 7 → k ≠ 8 → σ'.1 90 k = σ.1 90 k)
theorem fl_0 {b : Bool} : fl b = 0 ↔ ¬ b = true := by
  cases b
  · exact ⟨fun _ h => (by cases h), fun _ => rfl⟩
  · exact ⟨fun h => absurd h (by decide), fun h => absurd rfl h⟩
theorem tkE {N t p n : Nat} {τ : Tape} {σ σ0 : St} {x : Nat} (hn : n < 2 ^ 30) (hp : tq τ p + n < 2 ^ 30) (h4 : σ.1 90 4 = nI (tq τ p)) (h7 : σ.1 90 7 = nI (tq τ p)) (hx : x = srt (tk τ p)) (hb : x < 2 ^ 30) (hv : tk τ p = 100 → σ.1 90 8 = nI (tv τ p)) (hw : tk τ p ≤ 19 ∨ tk τ p = 101 → σ.2 90 9 = lO (vM (tw τ p))) (en : tk τ p ≠ 103 → tn τ p = tq τ p + n) (h3 : x = 3 ↔ tk τ p = 103) (hk : ∀ k, k ≠ 4 → k ≠ 6 → k ≠ 7 → k ≠ 8 → σ.1 90 k = σ0.1 90 k) :
    Ok (nmd (sI σ 90 6 (nI x)) fun σ39 => f_X12_token_232 N (RR t) 90 (nI n) σ39) (fun _ σ' => TkQ τ p σ0 σ') := by
  refine ok_sI2 fun σ1 n1 u1 f1 => ?_
  unfold f_X12_token_232 f_X12_token_250
  rw [u1, pk_us, pk_un (show 4 ≠ 6 by decide), h4, nI_add]
  by_cases c : x = 3
  · refine ok_pos (by rw [c]; rfl) (ok_ret ⟨⟨?_, ?_, fun z => ?_, fun z => ?_, fun z => absurd (h3.mp c) z⟩, fun k a b d e => ?_⟩)
    · rw [u1, pk_un (by decide)]; exact h7
    · rw [u1, pk_us, hx]
    · rw [u1, pk_un (by decide)]; exact hv z
    · rw [f1]; exact hw z
    · rw [u1, pk_un b]; exact hk k a b d e
  · refine ok_neg (fun z => c ((nI_eq (b := 3) (by omega) (by decide)).mp z)) (ok_sI2 fun σ2 n2 u2 f2 => ok_ret ⟨⟨?_, ?_, fun z => ?_, fun z => ?_, fun z => ?_⟩, fun k a b d e => ?_⟩)
    · rw [u2, pk_un (by decide), u1, pk_un (by decide)]; exact h7
    · rw [u2, pk_un (by decide), u1, pk_us, hx]
    · rw [u2, pk_un (by decide), u1, pk_un (by decide)]; exact hv z
    · rw [f2, f1]; exact hw z
    · rw [u2, pk_us, en z]
    · rw [u2, pk_un a, u1, pk_un b]; exact hk k a b d e
theorem srt_w {k : Nat} (h : (1 ≤ k ∧ k ≤ 19) ∨ k = 101) : srt k = 1 := by
  unfold srt
  rw [if_neg (by omega), if_pos (by omega)]
set_option maxHeartbeats 1600000 in
theorem s_token {N t p : Nat} {τ : Tape} {σ : St} (hN : 20000 ≤ N) (tm : TapM τ σ) (hp : p ≤ τ.1) (h4 : σ.1 90 4 = nI p) :
    Ok (f_X12_token N (RR t) 90 σ) (fun _ σ' => TkQ τ p σ σ' ∧ Ag (fun q => q = 90) σ σ') := by
  have hL := tm.1
  have hq := tq_le hp
  have hge : p ≤ tq τ p := rnP_ge
  refine ok_ag ?_ (fun r σ' e => m_X12_token e)
  unfold f_X12_token
  refine lp (F := fun n i σ' => f_X12_token_0 N (RR t) 90 n σ') (tq τ p - p) (fun i σ' => σ'.1 90 4 = nI (p + i) ∧ (∀ k, k ≠ 4 → σ'.1 90 k = σ.1 90 k) ∧ ∀ q, q ≠ 90 → σ'.1 q = σ.1 q) ?_ ?_ N 0 σ (Nat.zero_le _) (by omega) ⟨h4, fun _ _ => rfl, fun _ _ => rfl⟩
  · rintro n i σ1 hi ⟨a1, k1, n1⟩ kk
    obtain ⟨hi1, hi2⟩ := rnP_in (P := isB) (τ := τ) (p := p) (i := p + i) (by omega) (by unfold tq at hi; omega)
    have tm1 : TapM τ σ1 := TapM_cg tm (k1 5 (by decide)) (n1 91 (by decide))
    have hb := of_decide_eq_true hi2
    have hj := (tm.2.2 _ hi1).1
    have h0 := s_here (N := N) (t := t) (k := 0) tm1 a1 (by omega)
    have go : Ok (f_X12_token_20 N (RR t) 90 (f_X12_token_0 N (RR t) 90 n) σ1) (fun _ σ' => TkQ τ p σ σ') := by
      unfold f_X12_token_20
      rw [a1, nI_1 (p + i)]
      exact ok_sI fun σ2 n2 u2 => kk σ2 ⟨by rw [u2, pk_us]; rfl, fun k hk => by rw [u2, pk_un hk]; exact k1 k hk, fun q hq => (n2 q hq).trans (n1 q hq)⟩
    show Ok (b_X12_token_0 _ _ _ _ _) _
    unfold b_X12_token_0
    refine ok_bnd h0 ?_
    rw [show hr τ (p + i + 0) = nI (τ.2 (p + i)) from if_pos hi1]
    by_cases h32 : τ.2 (p + i) = 32
    · exact ok_pos (by rw [h32]; rfl) go
    · refine ok_neg (fun z => h32 ((nI_eq (b := 32) (by omega) (by decide)).mp z)) (ok_bnd h0 ?_)
      rw [show hr τ (p + i + 0) = nI (τ.2 (p + i)) from if_pos hi1]
      exact ok_pos (by rw [show τ.2 (p + i) = 10 by omega]; rfl) go
  · rintro n σ1 ⟨a1, k1, n1⟩
    rw [show p + (tq τ p - p) = tq τ p by omega] at a1
    have ho : ¬ (tq τ p < τ.1 ∧ isB (τ.2 (tq τ p)) = true) := rnP_out
    have tm1 : TapM τ σ1 := TapM_cg tm (k1 5 (by decide)) (n1 91 (by decide))
    have h0 := s_here (N := N) (t := t) (k := 0) tm1 a1 (by omega)
    have hnb : ¬ hr τ (tq τ p + 0) = 32 ∧ ¬ hr τ (tq τ p + 0) = 10 := by
      show ¬ hr τ (tq τ p) = 32 ∧ ¬ hr τ (tq τ p) = 10
      unfold hr
      by_cases hz : tq τ p < τ.1
      · have hj := (tm.2.2 _ hz).1
        rw [if_pos hz]
        exact ⟨fun z => ho ⟨hz, decide_eq_true (Or.inl ((nI_eq (b := 32) (by omega) (by decide)).mp z))⟩, fun z => ho ⟨hz, decide_eq_true (Or.inr ((nI_eq (b := 10) (by omega) (by decide)).mp z))⟩⟩
      · rw [if_neg hz]; decide
    show Ok (b_X12_token_0 _ _ _ _ _) _
    unfold b_X12_token_0
    refine ok_bnd h0 (ok_neg hnb.1 (ok_bnd h0 (ok_neg hnb.2 (ok_sI2 fun σ2 n2 u2 f2 => ?_))))
    have a2 : σ2.1 90 4 = nI (tq τ p) := by rw [u2, pk_un (by decide)]; exact a1
    have b2 : σ2.1 90 7 = nI (tq τ p) := by rw [u2, pk_us]; exact a1
    have tm2 : TapM τ σ2 := TapM_cg tm1 (by rw [u2, pk_un (by decide)]) (n2 91 (by decide))
    refine ok_bnd (s_here (N := N) (t := t) (k := 0) tm2 a2 (by omega)) (ok_sJ fun σ3 e3 u3 _ => ok_sI2 fun σ4 n4 u4 f4 => ?_)
    have a4 : σ4.1 90 4 = nI (tq τ p) := by rw [u4, pk_un (by decide), e3]; exact a2
    have b4 : σ4.1 90 7 = nI (tq τ p) := by rw [u4, pk_un (by decide), e3]; exact b2
    have v4 : σ4.1 90 8 = nI 0 := by rw [u4, pk_us]; rfl
    have w4 : σ4.2 90 9 = lO 0 := by rw [f4, u3, if_pos rfl]; rfl
    have k4 : ∀ k, k ≠ 4 → k ≠ 6 → k ≠ 7 → k ≠ 8 → σ4.1 90 k = σ.1 90 k := fun k a b d e => by rw [u4, pk_un e, e3, u2, pk_un d, k1 k a]
    have tm4 : TapM τ σ4 := TapM_cg tm2 (by rw [u4, pk_un (by decide), e3]) (by rw [n4 91 (by decide), e3])
    rw [Nat.add_zero]
    by_cases hz : tq τ p < τ.1
    · have hj := (tm.2.2 _ hz).1
      refine ok_pos (by unfold hr; rw [if_pos hz]; exact nI_pos' (by omega)) (ok_bnd (s_isLet tm) ?_)
      rw [decide_eq_true hz, Bool.true_and]
      by_cases hl : isL (τ.2 (tq τ p)) = true
      · have hlen := tl_le hq
        have en : tn τ p = tq τ p + tl τ p := by unfold tn; rw [if_pos hz, if_pos hl]
        have ek : tk τ p = if tl τ p ≤ 8 then kw (tw τ p) else 103 := by unfold tk; rw [if_pos hz, if_pos hl]; rfl
        refine ok_neg (fun z => fl_0.mp z hl) ?_
        refine lp (F := fun n i σ' => f_X12_token_78 N (RR t) 90 n (nI i) σ') (tl τ p) (fun i σ' => σ'.1 = σ4.1 ∧ (i ≤ 8 → σ'.2 90 9 = lO (vM (lw τ.2 (tq τ p) i)))) ?_ ?_ N 0 σ4 (Nat.zero_le _) (by omega) ⟨rfl, fun _ => w4⟩
        · rintro n i σ5 hi ⟨e5, v5⟩ kk
          obtain ⟨hi1, hi2⟩ := tl_in hi
          have tm5 : TapM τ σ5 := by unfold TapM; rw [e5]; exact tm4
          have a5 : σ5.1 90 4 = nI (tq τ p) := by rw [e5]; exact a4
          have h5 := s_here (N := N) (t := t) (k := i) tm5 a5 (by omega)
          have hib := (tm.2.2 _ hi1).1
          show Ok (b_X12_token_78 _ _ _ _ _ _) _
          unfold b_X12_token_78 f_X12_token_113
          rw [nI_1 i]
          refine ok_bnd h5 (ok_bnd (s_isLet tm) ?_)
          rw [decide_eq_true hi1, hi2]
          refine ok_neg (by decide) ?_
          by_cases c8' : 8 ≤ i
          · exact ok_pos (nI_le (a := 8) c8' (by omega)) (kk σ5 ⟨e5, fun z => by omega⟩)
          · refine ok_neg (nI_ge (b := 8) (by omega) (by decide)) (ok_bnd h5 (ok_sJ fun σ6 e6 u6 _ => kk σ6 ⟨e6.trans e5, fun _ => ?_⟩))
            have hlw : ∀ b ∈ lw τ.2 (tq τ p) i, 97 ≤ b ∧ b ≤ 122 := lw_in i (fun j hj => (tl_in (by omega)).2)
            have hvb := (vM_lt hlw).2
            rw [lw_len] at hvb
            have hp7 : (256 : Nat) ^ i ≤ 256 ^ 7 := Nat.pow_le_pow_right (by decide) (by omega)
            have c7 : (256 : Nat) ^ 7 = 72057594037927936 := by decide
            rw [u6, if_pos rfl, v5 (by omega), show hr τ (tq τ p + i) = nI (τ.2 (tq τ p + i)) from if_pos hi1, sh8 (by omega) hib]
            rfl
        · rintro n σ5 ⟨e5, v5⟩
          have tm5 : TapM τ σ5 := by unfold TapM; rw [e5]; exact tm4
          have a5 : σ5.1 90 4 = nI (tq τ p) := by rw [e5]; exact a4
          have h5 := s_here (N := N) (t := t) (k := tl τ p) tm5 a5 (by omega)
          show Ok (b_X12_token_78 _ _ _ _ _ _) _
          unfold b_X12_token_78 f_X12_token_131
          refine ok_bnd h5 (ok_bnd (s_isLet tm) (ok_pos (fl_0.mpr (fun z => ?_)) ?_))
          · rw [Bool.and_eq_true, decide_eq_true_eq] at z
            exact tl_out z
          · by_cases c8' : tl τ p ≤ 8
            · have hk := kw_r (tw τ p)
              rw [if_pos c8'] at ek
              rw [← ek] at hk
              exact ok_pos (show nI (tl τ p) ≤ nI 8 from nI_le c8' (by decide)) (tkE (x := 1) (by omega) (by omega) a5 (by rw [e5]; exact b4) (srt_w hk).symm (by decide) (fun z => by omega) (fun _ => v5 c8') (fun _ => en) ⟨fun z => by omega, fun z => by omega⟩ (by rw [e5]; exact k4))
            · rw [if_neg c8'] at ek
              exact ok_neg (show ¬ nI (tl τ p) ≤ nI 8 from nI_ge (by omega) (by omega)) (tkE (x := 3) (by omega) (by omega) a5 (by rw [e5]; exact b4) (by rw [ek]; rfl) (by decide) (fun z => by omega) (fun z => by omega) (fun _ => en) ⟨fun _ => ek, fun _ => rfl⟩ (by rw [e5]; exact k4))
      · refine ok_pos (fl_0.mpr hl) (ok_bnd (s_isDig tm) ?_)
        rw [decide_eq_true hz, Bool.true_and]
        by_cases hd : isD (τ.2 (tq τ p)) = true
        · have hlen := td_le hq
          have en : tn τ p = tq τ p + td τ p := by unfold tn; rw [if_pos hz, if_neg hl, if_pos hd]
          have ek : tk τ p = (if td τ p ≤ 4 ∧ ¬ (tq τ p + td τ p < τ.1 ∧ isL (τ.2 (tq τ p + td τ p)) = true) then 100 else 103) := by unfold tk; rw [if_pos hz, if_neg hl, if_pos hd]
          refine ok_neg (fun z => fl_0.mp z hd) ?_
          refine lp (F := fun n i σ' => f_X12_token_144 N (RR t) 90 n (nI i) σ') (td τ p) (fun i σ' => σ'.2 = σ4.2 ∧ (∀ k, k ≠ 8 → σ'.1 90 k = σ4.1 90 k) ∧ (∀ q, q ≠ 90 → σ'.1 q = σ4.1 q) ∧ (i ≤ 4 → σ'.1 90 8 = nI (nvl τ.2 (tq τ p) i))) ?_ ?_ N 0 σ4 (Nat.zero_le _) (by omega) ⟨rfl, fun _ _ => rfl, fun _ _ => rfl, fun _ => v4⟩
          · rintro n i σ5 hi ⟨f5, k5, n5, v5⟩ kk
            obtain ⟨hi1, hi2⟩ := td_in hi
            have tm5 : TapM τ σ5 := TapM_cg tm4 (k5 5 (by decide)) (n5 91 (by decide))
            have a5 : σ5.1 90 4 = nI (tq τ p) := by rw [k5 4 (by decide)]; exact a4
            have h5 := s_here (N := N) (t := t) (k := i) tm5 a5 (by omega)
            have hib := of_decide_eq_true hi2
            show Ok (b_X12_token_144 _ _ _ _ _ _) _
            unfold b_X12_token_144 f_X12_token_180
            rw [nI_1 i]
            refine ok_bnd h5 (ok_bnd (s_isDig tm) ?_)
            rw [decide_eq_true hi1, hi2]
            refine ok_neg (by decide) ?_
            by_cases c4 : 4 ≤ i
            · exact ok_pos (nI_le (a := 4) c4 (by omega)) (kk σ5 ⟨f5, k5, n5, fun z => by omega⟩)
            · refine ok_neg (nI_ge (b := 4) (by omega) (by decide)) (ok_bnd h5 (ok_sI2 fun σ6 n6 u6 f6 => kk σ6 ⟨f6.trans f5, fun k hk => by rw [u6, pk_un hk]; exact k5 k hk, fun q hq => (n6 q hq).trans (n5 q hq), fun _ => ?_⟩))
              rw [u6, pk_us, v5 (by omega), show hr τ (tq τ p + i) = nI (τ.2 (tq τ p + i)) from if_pos hi1, show (10 : Int32) = nI 10 from rfl, pk_mul, nI_add, show (48 : Int32) = nI 48 from rfl, pk_sub (by omega)]
              rw [show nvl τ.2 (tq τ p) (i + 1) = nvl τ.2 (tq τ p) i * 10 + (τ.2 (tq τ p + i) - 48) from rfl]
              exact congrArg nI (by omega)
          · rintro n σ5 ⟨f5, k5, n5, v5⟩
            have tm5 : TapM τ σ5 := TapM_cg tm4 (k5 5 (by decide)) (n5 91 (by decide))
            have a5 : σ5.1 90 4 = nI (tq τ p) := by rw [k5 4 (by decide)]; exact a4
            have b5 : σ5.1 90 7 = nI (tq τ p) := by rw [k5 7 (by decide)]; exact b4
            have k5' : ∀ k, k ≠ 4 → k ≠ 6 → k ≠ 7 → k ≠ 8 → σ5.1 90 k = σ.1 90 k := fun k a b d e => by rw [k5 k e]; exact k4 k a b d e
            have h5 := s_here (N := N) (t := t) (k := td τ p) tm5 a5 (by omega)
            have bad : ¬ (td τ p ≤ 4 ∧ ¬ (tq τ p + td τ p < τ.1 ∧ isL (τ.2 (tq τ p + td τ p)) = true)) → Ok (f_X12_token_203 N (RR t) 90 (nI (td τ p)) σ5) (fun _ σ' => TkQ τ p σ σ') := by
              intro hn
              rw [if_neg hn] at ek
              unfold f_X12_token_203 f_X12_token_208
              exact tkE (x := 3) (by omega) (by omega) a5 b5 (by rw [ek]; rfl) (by decide) (fun z => by omega) (fun z => by omega) (fun _ => en) ⟨fun _ => ek, fun _ => rfl⟩ k5'
            show Ok (b_X12_token_144 _ _ _ _ _ _) _
            unfold b_X12_token_144
            refine ok_bnd h5 (ok_bnd (s_isDig tm) (ok_pos (fl_0.mpr (fun z => ?_)) ?_))
            · rw [Bool.and_eq_true, decide_eq_true_eq] at z
              exact td_out z
            · by_cases c4 : td τ p ≤ 4
              · refine ok_neg (show ¬ nI 4 < nI (td τ p) from nI_nlt c4 (by decide)) (ok_bnd h5 (ok_bnd (s_isLet tm) ?_))
                by_cases hb : tq τ p + td τ p < τ.1 ∧ isL (τ.2 (tq τ p + td τ p)) = true
                · exact ok_neg (fun z => fl_0.mp z (by rw [decide_eq_true hb.1, hb.2]; rfl)) (bad (fun z => z.2 hb))
                · rw [if_pos ⟨c4, hb⟩] at ek
                  refine ok_pos (fl_0.mpr (fun z => hb (by rw [Bool.and_eq_true, decide_eq_true_eq] at z; exact z))) ?_
                  unfold f_X12_token_208
                  exact tkE (x := 2) (by omega) (by omega) a5 b5 (by rw [ek]; rfl) (by decide) (fun _ => v5 c4) (fun z => by omega) (fun _ => en) ⟨fun z => by omega, fun z => by omega⟩ k5'
              · exact ok_pos (show nI 4 < nI (td τ p) from nI_lt (by omega) (by omega)) (bad (fun z => c4 z.1))
        · have en : tn τ p = tq τ p + 1 := by unfold tn; rw [if_pos hz, if_neg hl, if_neg hd]
          refine ok_pos (fl_0.mpr hd) ?_
          rw [show hr τ (tq τ p) = nI (τ.2 (tq τ p)) from if_pos hz]
          refine ok_bnd (s_isSig hj) ?_
          unfold f_X12_token_229
          by_cases hs : isSg (τ.2 (tq τ p)) = true
          · have ek : tk τ p = τ.2 (tq τ p) := by unfold tk; rw [if_pos hz, if_neg hl, if_neg hd, if_pos hs]
            have hr' := sg_lb _ hj hs
            exact ok_neg (fun z => fl_0.mp z hs) (tkE (n := 1) (x := τ.2 (tq τ p)) (by decide) (by omega) a4 b4 (by rw [ek]; unfold srt; rw [if_neg (by omega), if_neg (by omega), if_neg (by omega), if_neg (by omega)]) (by omega) (fun z => by omega) (fun z => by omega) (fun _ => en) ⟨fun z => by omega, fun z => by omega⟩ k4)
          · have ek : tk τ p = 103 := by unfold tk; rw [if_pos hz, if_neg hl, if_neg hd, if_neg hs]
            exact ok_pos (fl_0.mpr hs) (tkE (n := 1) (x := 3) (by decide) (by omega) a4 b4 (by rw [ek]; rfl) (by decide) (fun z => by omega) (fun z => by omega) (fun _ => en) ⟨fun _ => ek, fun _ => rfl⟩ k4)
    · have ek : tk τ p = 102 := by unfold tk; rw [if_neg hz]
      have en : tn τ p = tq τ p + 0 := by unfold tn; rw [if_neg hz]; rfl
      refine ok_neg (by unfold hr; rw [if_neg hz]; decide) ?_
      exact tkE (n := 0) (x := 0) (by decide) (by omega) a4 b4 (by rw [ek]; rfl) (by decide) (fun z => by omega) (fun z => by omega) (fun _ => en) ⟨fun z => by omega, fun z => by omega⟩ k4
