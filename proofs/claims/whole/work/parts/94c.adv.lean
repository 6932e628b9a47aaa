/-! THE CLASS's ADVANCE, REFUSE, PASS -/
def sgs (j : Nat) : Nat := ([59, 40, 41, 60, 62, 61, 43, 45, 42, 47, 37] : List Nat).getD j 0
theorem rom_sg : ∀ j, j < 11 → romB 1 j = nI (sgs j) := by decide +kernel
theorem sgs_in : ∀ j, j < 11 → isSg (sgs j) = true ∧ sgs j < 128 := by decide +kernel
theorem sgs_all : ∀ b, b < 128 → isSg b = true → ∃ j, j < 11 ∧ sgs j = b := by decide +kernel
theorem chr_v : ∀ b, b < 128 → ((sb b).toUInt32 % 65536).toInt32 = nI b ∧ (nI b).toInt8.toInt32 = nI b := by decide +kernel
theorem s_signs {N b : Nat} {ρ : Nat → Nat → Nat} {σ : St} (hN : 20000 ≤ N) (hb : b < 128) : Ok (f_J0_indexOf_0f7a4 N ρ 1 (nI b) σ) (fun r σ' => σ' = σ ∧ (r < 0 ↔ ¬ isSg b = true)) := by
  unfold f_J0_indexOf_0f7a4 f_J0_indexOf_7cf53 f_J0_isLatin1_aae02 f_J0_isLatin1_aae02_18 f_J0_length_8abf5 f_J0_coder_7d493 f_J0_coder_7d493_14 f_J1_indexOf_4cfef f_J1_canEncode_9a6ad f_J1_canEncode_9a6ad_16 f_J0_indexOf_7cf53_36 f_J1_indexOfChar_4cfef
  refine ok_call (P := fun r σ' => σ' = σ ∧ (r < 0 ↔ ¬ isSg b = true)) ?_ (fun r σ' h => ok_ret h)
  rw [if_neg (by decide), if_pos rfl]
  refine ok_bnd (r := 1) (σ := σ) rfl (ok_neg (by decide) (ok_bnd (r := nI 11) (σ := σ) (by rw [if_neg (by decide), gd_t (by decide)]; exact congrArg (fun x => some (x, σ)) (show nI (romL 1) >>> ((0 : Int32) &&& 31) = nI 11 by decide)) ?_))
  refine ok_call (P := fun r σ' => σ' = σ ∧ (r < 0 ↔ ¬ isSg b = true)) ?_ (fun r σ' h => ok_ret h)
  rw [if_neg (nI_pos (by omega)), if_neg (show ¬ (255 : Int32) < nI b from (nI_nlt (show b ≤ 255 by omega) (by decide) : ¬ nI 255 < nI b))]
  refine ok_bnd (r := 1) (σ := σ) rfl (ok_neg (by decide) ?_)
  refine ok_nmd (ok_nmd (ok_pos (by decide) ?_))
  refine ok_call (P := fun r σ' => σ' = σ ∧ (r < 0 ↔ ¬ isSg b = true)) ?_ (fun r σ' h => ok_ret h)
  rw [(chr_v b hb).2]
  refine ok_nmd ?_
  refine lp (β := Unit) (F := fun n i _ => f_J1_indexOfChar_4cfef_7 N ρ 1 (nI b) 0 (nI 11) n (nI b) (nI i) σ) 11 (fun i _ => ∀ j, j < i → sgs j ≠ b) ?_ ?_ N 0 () (by decide) (by omega) (fun j hj => absurd hj (by omega))
  · intro n i _ hi hno kk
    show Ok (b_J1_indexOfChar_4cfef_7 _ _ _ _ _ _ _ _ _ _) _
    unfold b_J1_indexOfChar_4cfef_7
    rw [nI_clamp (show i < 2 ^ 31 by omega), rom_sg i hi, nI_1 i]
    refine ok_neg (nI_ge hi (by decide)) (ok_gd (ib_nI hi (by decide)) ?_)
    by_cases e : sgs i = b
    · refine ok_pos (by rw [e]) (ok_ret ⟨rfl, ?_⟩)
      have h1 : ¬ nI i < 0 := nI_pos (by omega)
      have h2 : isSg b = true := by rw [← e]; exact (sgs_in i hi).1
      exact ⟨fun z => absurd z h1, fun z => absurd h2 z⟩
    · have := (sgs_in i hi).2
      refine ok_neg (fun z => e ((nI_eq (by omega) (by omega)).mp z)) (kk () (fun j hj => ?_))
      by_cases ej : j = i
      · subst ej; exact e
      · exact hno j (by omega)
  · intro n _ hno
    show Ok (b_J1_indexOfChar_4cfef_7 _ _ _ _ _ _ _ _ _ _) _
    unfold b_J1_indexOfChar_4cfef_7
    refine ok_pos (Int32.le_refl _) (ok_ret ⟨rfl, fun _ h => ?_, fun _ => by decide⟩)
    obtain ⟨j, hj, e⟩ := sgs_all b hb h
    exact hno j hj e
def LexX (τ : Tape) (p : Nat) (σ : St) : Prop := σ.1 3 3 = nI (tq τ p) ∧ σ.1 3 4 = nI (tk τ p) ∧ (tk τ p = 100 → σ.1 3 5 = nI (tv τ p)) ∧ (tk τ p ≤ 19 ∨ tk τ p = 101 → σ.2 3 6 = lO (vX (tw τ p))) ∧ σ.1 3 2 = nI (tn τ p)
theorem sg_lb : ∀ b, b < 256 → isSg b = true → 37 ≤ b ∧ b ≤ 62 := by decide +kernel
theorem tq_le {τ : Tape} {p : Nat} (h : p ≤ τ.1) : tq τ p ≤ τ.1 := rnP_le h
set_option maxHeartbeats 800000 in
theorem s_advance {N t p : Nat} {τ : Tape} {σ : St} (hN : 20000 ≤ N) (tx : TapX τ σ) (wd : WrdI σ) (hp : p ≤ τ.1) (h2 : σ.1 3 2 = nI p) :
    Ok (f_X5_advance N (RR t) 3 σ) (fun _ σ' => (LexX τ p σ' ∧ σ'.1 3 7 = σ.1 3 7 ∧ σ'.1 3 8 = σ.1 3 8) ∧ Ag (fun q => q = 3) σ σ') := by
  have hL := tx.1
  have hq := tq_le hp
  have hge : p ≤ tq τ p := rnP_ge
  refine ok_ag ?_ (fun r σ' e => m_X5_advance e)
  unfold f_X5_advance
  rw [h2]
  refine ok_nmd ?_
  have go : Ok (f_X5_advance_46 N (RR t) 3 (nI (tq τ p)) σ) (fun _ σ' => LexX τ p σ' ∧ σ'.1 3 7 = σ.1 3 7 ∧ σ'.1 3 8 = σ.1 3 8) := by
    unfold f_X5_advance_46 f_X5_advance_159
    rw [nI_1 (tq τ p)]
    refine ok_sI2 fun σ1 n1 u1 f1 => ok_sI2 fun σ2 n2 u2 f2 => ?_
    have k2 : ∀ k, k ≠ 2 → k ≠ 3 → σ2.1 3 k = σ.1 3 k := fun k a b => by rw [u2, pk_un a, u1, pk_un b]
    have k3 : σ2.1 3 3 = nI (tq τ p) := by rw [u2, pk_un (by decide), u1, pk_us]
    have k22 : σ2.1 3 2 = nI (tq τ p + 1) := by rw [u2, pk_us]
    have nn : ∀ q, q ≠ 3 → σ2.1 q = σ.1 q := fun q h => by rw [n2 q h, n1 q h]
    have tx2 : TapX τ σ2 := TapX_cg tx (nn 4 (by decide)) (nn 5 (by decide))
    have wd2 : WrdI σ2 := WrdI_cg wd (by rw [f2, f1])
    rw [r_3_0 rfl, r_4_0 rfl, tx2.2.1, nI_clamp (show tq τ p < 2 ^ 31 by omega)]
    by_cases hz : tq τ p < τ.1
    · have hj := tx2.2.2 _ hz
      have hib : ib (nI (tq τ p)) 1600 = true := ib_nI (by omega) (by decide)
      rw [hj.2]
      refine ok_pos (nI_lt hz (by omega)) (ok_gd hib (ok_let hj.1 hib (fun hlet => ?_) (fun hnl => ?_)))
      · refine ok_call (s_takeWord hN tx2 wd2 hq k3) (fun _ σ3 h3 => ok_ret ?_)
        obtain ⟨w1, w2, w3, w4⟩ := h3
        have ek : tk τ p = (if tl τ p ≤ 8 then kw (tw τ p) else 103) := by unfold tk; rw [if_pos hz, if_pos hlet]; rfl
        have en : tn τ p = tq τ p + tl τ p := by unfold tn; rw [if_pos hz, if_pos hlet]
        have k100 : tk τ p ≠ 100 := by
          rw [ek]
          split
          · have : ∀ w n, n < 20 → kwn w n ≠ 100 := by
              intro w n
              induction n with
              | zero => intro _ z; exact absurd (show 101 = 100 from z) (by decide)
              | succ n ih =>
                intro hn
                rw [kwn]
                split
                · omega
                · exact ih (by omega)
            exact this _ 19 (by decide)
          · decide
        exact ⟨⟨by rw [w4 3 (by decide) (by decide)]; exact k3, by rw [w2, ek], fun z => absurd z k100, fun _ => w3, by rw [w1, en]⟩, by rw [w4 7 (by decide) (by decide), k2 7 (by decide) (by decide)], by rw [w4 8 (by decide) (by decide), k2 8 (by decide) (by decide)]⟩
      · unfold f_X5_advance_106 f_X5_advance_159
        rw [r_3_0 rfl, r_4_0 rfl, nI_clamp (show tq τ p < 2 ^ 31 by omega), hj.2]
        refine ok_gd hib (ok_dig hj.1 hib (fun hd => ?_) (fun hnd => ?_))
        · refine ok_call (s_takeNumber hN tx2 hq k3) (fun _ σ3 h3 => ok_ret ?_)
          obtain ⟨w1, w2, w3, w4⟩ := h3
          have ek : tk τ p = (if td τ p ≤ 4 ∧ ¬ (tq τ p + td τ p < τ.1 ∧ isL (τ.2 (tq τ p + td τ p)) = true) then 100 else 103) := by unfold tk; rw [if_pos hz, if_neg hnl, if_pos hd]
          have en : tn τ p = tq τ p + td τ p := by unfold tn; rw [if_pos hz, if_neg hnl, if_pos hd]
          exact ⟨⟨by rw [w4 3 (by decide) (by decide) (by decide)]; exact k3, by rw [w2, ek], fun _ => w3, fun z => (by rw [ek] at z; split at z <;> omega), by rw [w1, en]⟩, by rw [w4 7 (by decide) (by decide) (by decide), k2 7 (by decide) (by decide)], by rw [w4 8 (by decide) (by decide) (by decide), k2 8 (by decide) (by decide)]⟩
        · have en : tn τ p = tq τ p + 1 := by unfold tn; rw [if_pos hz, if_neg hnl, if_neg hnd]
          have fin : ∀ x σ3, σ3 = σ2 → x = tk τ p → (x = 103 ∨ (37 ≤ x ∧ x ≤ 62)) → Ok (f_X5_advance_156 N (RR t) 3 (nI x) σ3) (fun _ σ' => LexX τ p σ' ∧ σ'.1 3 7 = σ.1 3 7 ∧ σ'.1 3 8 = σ.1 3 8) := by
            intro x σ3 e3 hx hb
            subst e3
            unfold f_X5_advance_156 f_X5_advance_159
            refine ok_sI2 fun σ4 n4 u4 f4 => ok_ret ⟨⟨?_, by rw [u4, pk_us, hx], fun z => by omega, fun z => by omega, ?_⟩, ?_, ?_⟩
            · rw [u4, pk_un (by decide)]; exact k3
            · rw [u4, pk_un (by decide), en]; exact k22
            · rw [u4, pk_un (by decide), k2 7 (by decide) (by decide)]
            · rw [u4, pk_un (by decide), k2 8 (by decide) (by decide)]
          unfold f_X5_advance_129 f_X5_advance_154
          rw [r_3_0 rfl, r_4_0 rfl, nI_clamp (show tq τ p < 2 ^ 31 by omega), hj.2]
          refine ok_gd hib ?_
          have hs := (sb_l _ hj.1).2.2.2.2.2.2
          by_cases h0 : sb (τ.2 (tq τ p)) ≤ 0
          · refine ok_pos h0 (fin 103 σ2 rfl ?_ (Or.inl rfl))
            unfold tk
            rw [if_pos hz, if_neg hnl, if_neg hnd, if_neg (fun z => by have := sg_lb _ hj.1 z; have := hs.mp h0; omega)]
          · have hb : τ.2 (tq τ p) < 128 := by
              have : ¬ (τ.2 (tq τ p) = 0 ∨ 128 ≤ τ.2 (tq τ p)) := fun z => h0 (hs.mpr z)
              omega
            refine ok_neg h0 (ok_gd hib ?_)
            rw [(chr_v _ hb).1]
            refine ok_call (s_signs hN hb) (fun r σ3 h3 => ?_)
            obtain ⟨rfl, hr⟩ := h3
            by_cases hsg : isSg (τ.2 (tq τ p)) = true
            · refine ok_neg (fun z => hr.mp z hsg) (ok_gd hib ?_)
              rw [hj.2, show sb (τ.2 (tq τ p)) = nI (τ.2 (tq τ p)) from if_pos hb]
              refine fin _ _ rfl ?_ (Or.inr (sg_lb _ hj.1 hsg))
              unfold tk
              rw [if_pos hz, if_neg hnl, if_neg hnd, if_pos hsg]
            · refine ok_pos (hr.mpr hsg) (fin 103 _ rfl ?_ (Or.inl rfl))
              unfold tk
              rw [if_pos hz, if_neg hnl, if_neg hnd, if_neg hsg]
    · have ek : tk τ p = 102 := by unfold tk; rw [if_neg hz]
      have en : tn τ p = tq τ p := by unfold tn; rw [if_neg hz]
      refine ok_neg (nI_nlt (by omega) (by omega)) (ok_sI fun σ3 n3 u3 => ok_sI fun σ4 n4 u4 => ok_ret ⟨⟨?_, ?_, fun z => by omega, fun z => by omega, ?_⟩, ?_, ?_⟩)
      · rw [u4, pk_un (by decide), u3, pk_un (by decide)]; exact k3
      · rw [u4, pk_un (by decide), u3, pk_us, ek]; rfl
      · rw [u4, pk_us, en]
      · rw [u4, pk_un (by decide), u3, pk_un (by decide), k2 7 (by decide) (by decide)]
      · rw [u4, pk_un (by decide), u3, pk_un (by decide), k2 8 (by decide) (by decide)]
  refine ok_cast (b := f_X5_advance_13 N (RR t) 3 N (nI (p + 0)) σ) rfl ?_
  refine lp (β := Unit) (F := fun n i _ => f_X5_advance_13 N (RR t) 3 n (nI (p + i)) σ) (tq τ p - p) (fun _ _ => True) ?_ ?_ N 0 () (Nat.zero_le _) (by omega) trivial
  · intro n i _ hi _ kk
    obtain ⟨hi1, hi2⟩ := rnP_in (P := isB) (τ := τ) (p := p) (i := p + i) (by omega) (by unfold tq at hi; omega)
    have hj := tx.2.2 _ hi1
    have hib : ib (nI (p + i)) 1600 = true := ib_nI (by omega) (by decide)
    have k1 := kk () trivial
    show Ok (b_X5_advance_13 _ _ _ _ _ _) _
    unfold b_X5_advance_13 f_X5_advance_40
    rw [r_3_0 rfl, r_4_0 rfl, tx.2.1, nI_clamp (show p + i < 2 ^ 31 by omega), hj.2, nI_1 (p + i)]
    refine ok_neg (nI_ge hi1 (by omega)) (ok_gd hib ?_)
    have hb := of_decide_eq_true hi2
    by_cases h32 : τ.2 (p + i) = 32
    · exact ok_pos ((sb_l _ hj.1).2.2.2.2.1.mpr h32) k1
    · exact ok_neg (fun z => h32 ((sb_l _ hj.1).2.2.2.2.1.mp z)) (ok_gd hib (ok_pos ((sb_l _ hj.1).2.2.2.2.2.1.mpr (by omega)) k1))
  · intro n _ _
    have ho := rnP_out (P := isB) (τ := τ) (p := p)
    show Ok (b_X5_advance_13 _ _ _ _ _ _) _
    unfold b_X5_advance_13
    rw [show p + (tq τ p - p) = tq τ p by omega, r_3_0 rfl, r_4_0 rfl, tx.2.1, nI_clamp (show tq τ p < 2 ^ 31 by omega)]
    by_cases hz : τ.1 ≤ tq τ p
    · exact ok_pos (nI_le hz (by omega)) go
    · have hj := tx.2.2 (tq τ p) (by omega)
      have hib : ib (nI (tq τ p)) 1600 = true := ib_nI (by omega) (by decide)
      have hnb : ¬ (τ.2 (tq τ p) = 32 ∨ τ.2 (tq τ p) = 10) := fun z => ho ⟨by show tq τ p < τ.1; omega, decide_eq_true z⟩
      rw [hj.2]
      exact ok_neg (nI_ge (by omega) (by omega)) (ok_gd hib (ok_neg (fun z => hnb (Or.inl ((sb_l _ hj.1).2.2.2.2.1.mp z))) (ok_gd hib (ok_neg (fun z => hnb (Or.inr ((sb_l _ hj.1).2.2.2.2.2.1.mp z))) go))))
