/-! AN EVENING, by the model; draws; who is saved -/
def Ai (S : Nat → Prop) (σ σ' : St) : Prop := ∀ p, ¬ S p → σ'.1 p = σ.1 p
theorem ai_refl {S : Nat → Prop} {σ : St} : Ai S σ σ := fun _ _ => rfl
theorem ai_of {S : Nat → Prop} {σ σ' : St} (h : Ag S σ σ') : Ai S σ σ' := fun p hp => (h p hp).1
theorem ai_tr {S : Nat → Prop} {σ τ υ : St} (h : Ai S σ τ) (k : Ai S τ υ) : Ai S σ υ := fun p hp => (k p hp).trans (h p hp)
theorem ai_mono {S S' : Nat → Prop} {σ τ : St} (h : Ai S' σ τ) (hs : ∀ p, S' p → S p) : Ai S σ τ := fun p hp => h p (fun q => hp (hs p q))
theorem ai_w {S : Nat → Prop} {σ σ' : St} {b : Nat} (n : ∀ p, p ≠ b → σ'.1 p = σ.1 p) (hb : S b) : Ai S σ σ' := fun p hp => n p (fun e => hp (by rw [e]; exact hb))
def Sg (p : Nat) : Prop := p = 100 ∨ p = 102 ∨ p = 121 ∨ p = 122 ∨ p = 123
def Se (p : Nat) : Prop := p = 100 ∨ p = 102 ∨ p = 120 ∨ p = 121 ∨ p = 122 ∨ p = 123
theorem RepM_ai {c : CDat} {σ σ' : St} (h : RepM c σ) (a : Ai Se σ σ') : RepM c σ' := RepM_cg h (fun p hp => a p (by unfold Se; omega))
theorem sg_se {σ σ' : St} (a : Ai Sg σ σ') : Ai Se σ σ' := ai_mono a (fun p hp => by unfold Sg at hp; unfold Se; omega)
theorem sm_sg {σ σ' : St} (a : Ag Sm σ σ') : Ai Sg σ σ' := ai_mono (ai_of a) (fun p hp => by unfold Sm at hp; unfold Sg; omega)
theorem Tm_0 {c : CDat} {S : SDat} {k : Nat → Bool} {i : Nat} (hf : evF c S k i = 0) : pu (Tm c S k i) 0 i (min (dt c 5 i) (S 0 i + 2)) = Tm c S k (i + 1) := by
  funext r s
  by_cases hs : s = i
  · subst hs
    match r with
    | 0 => simp [pu, Tm, ev, ev0, hf]
    | 1 => simp [pu, Tm, ev, hf]
    | 2 => simp [pu, Tm, ev, hf]
    | r + 3 => simp [pu, Tm, show ¬ (r + 3 < 3) by omega]
  · have h2 : s < i + 1 ↔ s < i := by omega
    simp only [pu, hs, and_false, if_false, Tm, h2]
theorem Tm_1 {c : CDat} {S : SDat} {k : Nat → Bool} {i : Nat} (hf : evF c S k i = 1) : pu (pu (pu (Tm c S k i) 2 i (min 99 (S 2 i + 1))) 1 i (min 99 (S 1 i + evL c S i / 5))) 0 i (S 0 i - evW c S i) = Tm c S k (i + 1) := by
  funext r s
  by_cases hs : s = i
  · subst hs
    match r with
    | 0 => simp [pu, Tm, ev, ev0, hf]
    | 1 => simp [pu, Tm, ev, hf]
    | 2 => simp [pu, Tm, ev, hf]
    | r + 3 => simp [pu, Tm, show ¬ (r + 3 < 3) by omega]
  · have h2 : s < i + 1 ↔ s < i := by omega
    simp only [pu, hs, and_false, if_false, Tm, h2]
theorem Tm_2 {c : CDat} {S : SDat} {k : Nat → Bool} {i : Nat} (hf : evF c S k i = 2) : pu (Tm c S k i) 0 i (S 0 i / 2) = Tm c S k (i + 1) := by
  funext r s
  by_cases hs : s = i
  · subst hs
    match r with
    | 0 => simp [pu, Tm, ev, ev0, hf]
    | 1 => simp [pu, Tm, ev, hf]
    | 2 => simp [pu, Tm, ev, hf]
    | r + 3 => simp [pu, Tm, show ¬ (r + 3 < 3) by omega]
  · have h2 : s < i + 1 ↔ s < i := by omega
    simp only [pu, hs, and_false, if_false, Tm, h2]
theorem evF_le {c : CDat} {S : SDat} {k : Nat → Bool} {s : Nat} : evF c S k s ≤ 3 := by
  unfold evF
  split
  · decide
  · exact fare_le
theorem evF_nz {c : CDat} {S : SDat} {k : Nat → Bool} {s : Nat} (h : evF c S k s ≠ 0) : S 3 s ≠ 0 := by
  intro e
  apply h
  unfold evF
  rw [if_neg (fun z => z.1 e)]
  exact fare_0.mpr e
def Ar (c : CDat) (S : SDat) (k : Nat → Bool) (i : Nat) (σ : St) : Prop := ∀ s, s < i → σ.1 121 s = nI (evF c S k s) ∧ (evF c S k s = 1 → σ.1 122 s = lod c S 0 s ∧ σ.1 123 s = wr c S s (S 3 s - 1) (mny c S (S 3 s - 1)))
theorem Ar_cg {c : CDat} {S : SDat} {k : Nat → Bool} {i : Nat} {σ σ' : St} (h : Ar c S k i σ) (e1 : σ'.1 121 = σ.1 121) (e2 : σ'.1 122 = σ.1 122) (e3 : σ'.1 123 = σ.1 123) : Ar c S k i σ' := fun s hs => by
  rw [e1, e2, e3]
  exact h s hs
set_option maxHeartbeats 800000 in
theorem s_goPhase2 {N t : Nat} {ρ : Nat → Nat → Nat} {c : CDat} {S : SDat} {k : Nat → Bool} {a1 : Int32} {σ : St} (hN : 20000 ≤ N) (hρ : ρ = RR t) (wf : WfC c) (ws : WfS c S) (rm : RepM c σ) (ra : RepA 120 c S σ) (ar : Ar c S k (ns c) σ) :
    Ok (f_X12_goEvening_108 N ρ 90 a1 N 0 σ) (fun _ σ' => RepA 120 c (ev c S k) σ') := by
  have hns := wf.2.1
  refine lp_ok (F := fun n (a : Int32 × St) => f_X12_goEvening_108 N ρ 90 a1 n a.1 a.2) (ns c) (fun i a => a.1 = nI i ∧ RepA 120 c (Tm c S k i) a.2 ∧ Ai (fun p => p = 120) σ a.2) ?_ ?_ N 0 (0, σ) (Nat.zero_le _) (by omega) ⟨rfl, RepA_pt ra (fun r s _ _ => by simp [Tm]) Tm4 Tm4, ai_refl⟩
  · rintro n i ⟨j, σ1⟩ hi ⟨e2, ra1, ha⟩ kk
    have e2 : j = _ := e2
    have ha : Ai (fun p => p = 120) σ σ1 := ha
    have ra1 : RepA 120 c (Tm c S k i) σ1 := ra1
    subst e2
    have rm1 := RepM_ai rm (ai_mono ha (fun p hp => by unfold Se; omega))
    have ar1 := Ar_cg ar (ha 121 (by decide)) (ha 122 (by decide)) (ha 123 (by decide)) i hi
    have wsr := ws.1 i hi
    have wsi := WfS_lt wf ws hi
    have d5 := (wf.2.2.2.1 i hi).2.1
    have r0 : σ1.1 120 i = nI (S 0 i) := by rw [(ra1.1 i hi).1, Tm_i]
    have r1 : σ1.1 120 (5 + i) = nI (S 1 i) := by rw [(ra1.1 i hi).2.1, Tm_i]
    have r2 : σ1.1 120 (10 + i) = nI (S 2 i) := by rw [(ra1.1 i hi).2.2.1, Tm_i]
    have i5 : ib (nI i) 5 = true := ib_nI (by omega) (by decide)
    have i22 : ib (nI i) 22 = true := ib_nI (by omega) (by decide)
    have i522 : ib (nI (5 + i)) 22 = true := ib_nI (by omega) (by decide)
    have i1022 : ib (nI (10 + i)) 22 = true := ib_nI (by omega) (by decide)
    show Ok (b_X12_goEvening_108 N ρ 90 a1 (f_X12_goEvening_108 N ρ 90 a1 n) (nI i) σ1) _
    unfold b_X12_goEvening_108 f_X12_goEvening_254
    rw [rm1.2.1, r_90_57 hρ, r_90_58 hρ, r_90_59 hρ, r_90_60 hρ, r_90_41 hρ, n10, n5, nI_clamp (show i < 2 ^ 31 by omega), nI_clamp (show 10 + i < 2 ^ 31 by omega), nI_clamp (show 5 + i < 2 ^ 31 by omega), nI_1, ar1.1]
    refine ok_neg (nI_ge hi (by omega)) (ok_gd i5 ?_)
    have hle := evF_le (c := c) (S := S) (k := k) (s := i)
    by_cases f0 : evF c S k i = 0
    · rw [f0]
      refine ok_pos rfl (ok_gd i22 (ok_gd i5 (ok_bnd s_within (ok_gd i22 (ok_sI fun σ2 n2 u2 => ?_)))))
      have := RepA_w (r := 0) (v := min (dt c 5 i) (S 0 i + 2)) ra1 hns (by decide) (show i < 5 by omega) (by omega) u2 (by
        rw [r0, show σ1.1 116 i = nI (dt c 5 i) from rm1.2.2.2.2.2.2.1 5 i (by decide) (by decide) hi, show (2 : Int32) = nI 2 from rfl, nI_add, wth_min (by omega) (by omega), Nat.min_comm])
      rw [Tm_0 f0] at this
      exact kk (_, σ2) ⟨rfl, this, ai_tr ha (ai_w n2 rfl)⟩
    · by_cases f1 : evF c S k i = 1
      · obtain ⟨l, hl1, hl2⟩ := ld_nI (c := c) (S := S) (s := i) (h := S 3 i - 1) (m := mny c S (S 3 i - 1)) (x := 0)
        have hl2 : lod c S 0 i = nI l := hl2
        obtain ⟨w, hw1, hw2⟩ := wr_nI (c := c) (S := S) (s := i) (h := S 3 i - 1) (m := mny c S (S 3 i - 1)) wsi.1
        have hL : evL c S i = l := by unfold evL; rw [hl2, nI_clamp (by omega)]
        have hW : evW c S i = w := by unfold evW; rw [hw2, nI_clamp (by omega)]
        obtain ⟨b1, b2⟩ := ar1.2 f1
        rw [f1]
        refine ok_neg (by decide) (ok_gd i5 (ok_pos rfl (ok_gd i1022 (ok_bnd s_within (ok_gd i1022 (ok_sI fun σ2 n2 u2 => ok_gd i522 (ok_gd i5 (ok_bnd s_within (ok_gd i522 (ok_sI fun σ3 n3 u3 => ok_gd i22 (ok_gd i5 (ok_gd i22 (ok_sI fun σ4 n4 u4 => ?_)))))))))))))
        have q2 := RepA_w (r := 2) (v := min 99 (S 2 i + 1)) ra1 hns (by decide) (show i < 5 by omega) (by omega) u2 (by
          rw [r2, nI_1, show (99 : Int32) = nI 99 from rfl, wth_min (by omega) (by decide), Nat.min_comm])
        have q3 := RepA_w (r := 1) (v := min 99 (S 1 i + evL c S i / 5)) q2 hns (by decide) (show i < 5 by omega) (by omega) u3 (by
          rw [u2, pk_un (by omega), r1, n2 122 (by decide), b1, hl2, hL, show (5 : Int32) = nI 5 from rfl, pk_div (by omega) (by decide) (by decide), nI_add, show (99 : Int32) = nI 99 from rfl, wth_min (by omega) (by decide), Nat.min_comm])
        have q4 := RepA_w (r := 0) (v := S 0 i - evW c S i) q3 hns (by decide) (show i < 5 by omega) (by omega) u4 (by
          rw [u3, pk_un (by omega), u2, pk_un (by omega), r0, n3 123 (by decide), n2 123 (by decide), b2, hw2, hW, pk_sub hw1])
        rw [Tm_1 f1] at q4
        exact kk (_, σ4) ⟨rfl, q4, ai_tr ha (ai_tr (ai_w n2 rfl) (ai_tr (ai_w n3 rfl) (ai_w n4 rfl)))⟩
      · by_cases f2 : evF c S k i = 2
        · rw [f2]
          refine ok_neg (by decide) (ok_gd i5 (ok_neg (by decide) (ok_gd i5 (ok_pos rfl (ok_gd i22 (ok_gd i22 (ok_sI fun σ2 n2 u2 => ?_)))))))
          have := RepA_w (r := 0) (v := S 0 i / 2) ra1 hns (by decide) (show i < 5 by omega) (by omega) u2 (by
            rw [r0, show (2 : Int32) = nI 2 from rfl, pk_div (by omega) (by decide) (by decide)])
          rw [Tm_2 f2] at this
          exact kk (_, σ2) ⟨rfl, this, ai_tr ha (ai_w n2 rfl)⟩
        · have f3 : evF c S k i = 3 := by omega
          rw [f3]
          refine ok_neg (by decide) (ok_gd i5 (ok_neg (by decide) (ok_gd i5 (ok_neg (by decide) ?_))))
          rw [Tm_not f3] at ra1
          exact kk (_, σ1) ⟨rfl, ra1, ha⟩
  · rintro n ⟨j, σ1⟩ ⟨e2, ra1, ha⟩
    have e2 : j = _ := e2
    have ha : Ai (fun p => p = 120) σ σ1 := ha
    have ra1 : RepA 120 c (Tm c S k (ns c)) σ1 := ra1
    subst e2
    have rm1 := RepM_ai rm (ai_mono ha (fun p hp => by unfold Se; omega))
    show Ok (b_X12_goEvening_108 N ρ 90 a1 (f_X12_goEvening_108 N ρ 90 a1 n) (nI (ns c)) σ1) _
    unfold b_X12_goEvening_108
    rw [rm1.2.1, r_90_57 hρ]
    refine ok_pos (Int32.le_refl _) (ok_gd rfl (ok_gd rfl (ok_sI fun σ2 n2 u2 => ok_ret ?_)))
    have := RepA_w4 (j := 0) (v := S 4 0 + 1) ra1 hns (by decide) (show (20 : Int32).toNatClampNeg = 20 + 0 from rfl) u2 (by
      rw [show σ1.1 120 (20 : Int32).toNatClampNeg = nI (Tm c S k (ns c) 4 0) from ra1.2.1, Tm4, nI_1])
    exact RepA_pt this (fun r s hr hs => Tm_ev hr hs) (by rw [pu_s, ev40]) (by rw [pu_n (by omega), Tm4, ev41])
set_option maxHeartbeats 800000 in
theorem s_goEvening {N t m : Nat} {ρ : Nat → Nat → Nat} {c : CDat} {S : SDat} {k : Nat → Bool} {σ : St} (hN : 20000 ≤ N) (hρ : ρ = RR t) (wf : WfC c) (ws : WfS c S) (rm : RepM c σ) (ra : RepA 120 c S σ) (hx : σ.1 90 27 = 0) (hm : nh c ≤ m) (hm6 : m ≤ 6) :
    Ok (f_X12_goEvening N ρ 90 (bits k m) σ) (fun _ σ' => RepA 120 c (ev c S k) σ' ∧ Ag Se σ σ') := by
  have hns := wf.2.1
  have hnh := wf.1
  refine ok_ag ?_ (fun r σ' e => by have := m_X12_goEvening e; rw [r_90_18 hρ, r_90_26 hρ, r_90_57 hρ, r_90_58 hρ, r_90_59 hρ, r_90_60 hρ] at this; exact ag_mono this (fun p hp => by unfold Se; omega))
  refine lp_ok (F := fun n (a : Int32 × St) => f_X12_goEvening_2 N ρ 90 (bits k m) n a.1 a.2) (ns c) (fun i a => a.1 = nI i ∧ Ar c S k i a.2 ∧ Ai Sg σ a.2) ?_ ?_ N 0 (0, σ) (Nat.zero_le _) (by omega) ⟨rfl, fun s hs => absurd hs (by omega), ai_refl⟩
  · rintro n i ⟨j, σ1⟩ hi ⟨e2, ar1, ha⟩ kk
    have e2 : j = _ := e2
    have ha : Ai Sg σ σ1 := ha
    have ar1 : Ar c S k i σ1 := ar1
    subst e2
    have rmA : ∀ σ', Ai Sg σ σ' → RepM c σ' := fun σ' h => RepM_ai rm (sg_se h)
    have raA : ∀ σ', Ai Sg σ σ' → RepA 120 c S σ' := fun σ' h => RepA_cg ra (h 120 (by unfold Sg; omega))
    have hxA : ∀ σ', Ai Sg σ σ' → σ'.1 90 27 = 0 := fun σ' h => by rw [h 90 (by unfold Sg; omega)]; exact hx
    have wsr := ws.1 i hi
    have wsi := WfS_lt wf ws hi
    have i5 : ib (nI i) 5 = true := ib_nI (by omega) (by decide)
    have key : ∀ (σ2 : St) (v : Nat), Ai Sg σ σ2 → Ar c S k i σ2 → v = evF c S k i → Ok (f_X12_goEvening_47 N ρ 90 (bits k m) (f_X12_goEvening_2 N ρ 90 (bits k m) n) (nI i) (sv (S 3 i)) (nI v) (nI i) σ2) (fun _ σ' => RepA 120 c (ev c S k) σ') := by
      intro σ2 v hA hAr hv
      subst hv
      unfold f_X12_goEvening_47 f_X12_goEvening_100
      rw [r_90_57 hρ, r_90_58 hρ, r_90_59 hρ, r_90_60 hρ, nI_clamp (show i < 2 ^ 31 by omega), nI_1]
      refine ok_gd i5 (ok_sI fun σ3 n3 u3 => ok_gd i5 ?_)
      rw [u3, pk_us]
      have hA3 : Ai Sg σ σ3 := ai_tr hA (ai_w n3 (by unfold Sg; omega))
      have lift : ∀ σ' : St, σ'.1 121 = σ3.1 121 → (∀ s, s < i → σ'.1 122 s = σ3.1 122 s ∧ σ'.1 123 s = σ3.1 123 s) → (evF c S k i = 1 → σ'.1 122 i = lod c S 0 i ∧ σ'.1 123 i = wr c S i (S 3 i - 1) (mny c S (S 3 i - 1))) → Ar c S k (i + 1) σ' := by
        intro σ' z1 z2 z3 s hs
        rw [z1, u3]
        by_cases es : s = i
        · subst es
          rw [pk_us]
          exact ⟨rfl, z3⟩
        · have hsi : s < i := by omega
          rw [pk_un es, (z2 s hsi).1, (z2 s hsi).2, n3 122 (by decide), n3 123 (by decide)]
          exact hAr s hsi
      by_cases f1 : evF c S k i = 1
      · have h3 : S 3 i ≠ 0 := evF_nz (by rw [f1]; decide)
        refine ok_pos (by rw [f1]; rfl) ?_
        rw [sv_nz h3]
        refine ok_call (s_loadOf (x := 0) hN hρ wf ws (rmA _ hA3) (raA _ hA3) (hxA _ hA3) hi h3) (fun r σ4 h4 => ok_gd i5 (ok_sI fun σ5 n5 u5 => ?_))
        have hA4 : Ai Sg σ σ4 := ai_tr hA3 (sm_sg h4.2)
        have hA5 : Ai Sg σ σ5 := ai_tr hA4 (ai_w n5 (by unfold Sg; omega))
        refine ok_bnd (s_sentTo hN hρ wf ws (rmA _ hA5) (raA _ hA5) (by omega)) (ok_bnd (s_members hN (by omega)) (ok_gd (ib_nI (by omega) (by decide)) ?_))
        rw [((raA _ hA5).1 i hi).1]
        refine ok_call (s_wearM (m := mny c S (S 3 i - 1)) hN hρ wf (rmA _ hA5) (raA _ hA5) (hxA _ hA5) hi (by omega)) (fun r6 σ6 h6 => ok_gd i5 (ok_sI fun σ7 n7 u7 => ?_))
        have hA7 : Ai Sg σ σ7 := ai_tr (ai_tr hA5 (sm_sg h6.2)) (ai_w n7 (by unfold Sg; omega))
        have k4 : ∀ p, p ≠ 100 → p ≠ 102 → σ4.1 p = σ3.1 p := fun p z1 z2 => (h4.2 p (by unfold Sm; omega)).1
        have k6 : ∀ p, p ≠ 100 → p ≠ 102 → σ6.1 p = σ5.1 p := fun p z1 z2 => (h6.2 p (by unfold Sm; omega)).1
        refine kk (_, σ7) ⟨rfl, lift σ7 ?_ ?_ ?_, hA7⟩
        · rw [n7 121 (by decide), k6 121 (by decide) (by decide), n5 121 (by decide), k4 121 (by decide) (by decide)]
        · intro s hs
          refine ⟨?_, ?_⟩
          · rw [n7 122 (by decide), k6 122 (by decide) (by decide), u5, pk_un (by omega), k4 122 (by decide) (by decide)]
          · rw [u7, pk_un (by omega), k6 123 (by decide) (by decide), n5 123 (by decide), k4 123 (by decide) (by decide)]
        · intro _
          refine ⟨?_, ?_⟩
          · rw [n7 122 (by decide), k6 122 (by decide) (by decide), u5, pk_us, h4.1]
          · rw [u7, pk_us, h6.1]
      · have hle := evF_le (c := c) (S := S) (k := k) (s := i)
        refine ok_neg (fun z => f1 ((nI_eq (show evF c S k i < 2 ^ 31 by omega) (show 1 < 2 ^ 31 by decide)).mp z)) ?_
        exact kk (_, σ3) ⟨rfl, lift σ3 rfl (fun s _ => ⟨rfl, rfl⟩) (fun z => absurd z f1), hA3⟩
    have key42 : evF c S k i = fare c S 0 i → Ok (f_X12_goEvening_42 N ρ 90 (bits k m) (f_X12_goEvening_2 N ρ 90 (bits k m) n) (nI i) (sv (S 3 i)) (nI i) σ1) (fun _ σ' => RepA 120 c (ev c S k) σ') := by
      intro hf
      unfold f_X12_goEvening_42
      refine ok_call (s_fareOf (x := 0) hN hρ wf ws (rmA _ ha) (raA _ ha) (hxA _ ha) hi) (fun r σ2 h2 => ?_)
      rw [h2.1]
      have k2 : ∀ p, p ≠ 100 → p ≠ 102 → σ2.1 p = σ1.1 p := fun p z1 z2 => (h2.2 p (by unfold Sm; omega)).1
      exact key σ2 _ (ai_tr ha (sm_sg h2.2)) (Ar_cg ar1 (k2 121 (by decide) (by decide)) (k2 122 (by decide) (by decide)) (k2 123 (by decide) (by decide))) hf.symm
    show Ok (b_X12_goEvening_2 N ρ 90 (bits k m) (f_X12_goEvening_2 N ρ 90 (bits k m) n) (nI i) σ1) _
    unfold b_X12_goEvening_2
    rw [(rmA _ ha).2.1, r_90_57 hρ, n15, nI_clamp (show 15 + i < 2 ^ 31 by omega), ((raA _ ha).1 i hi).2.2.2]
    refine ok_neg (nI_ge hi (by omega)) (ok_gd (ib_nI (by omega) (by decide)) (ok_nmd ?_))
    by_cases h3 : S 3 i = 0
    · refine ok_pos (by rw [h3]; decide) (key42 ?_)
      unfold evF
      rw [if_neg (fun z => z.1 h3)]
    · obtain ⟨h, e⟩ : ∃ h, S 3 i = h + 1 := ⟨S 3 i - 1, by omega⟩
      refine ok_neg (by rw [sv_nz h3]; exact nI_pos (by omega)) ?_
      have eb : ((bits k m >>> (sv (S 3 i) &&& 31)) &&& 1) = if k h = true then 1 else 0 := by
        rw [e, sv_s]
        exact bits_in hm6 (show h < m by omega)
      rw [eb]
      by_cases hk : k h = true
      · rw [if_pos hk]
        refine ok_pos rfl (key σ1 3 ha ar1 ?_)
        unfold evF
        rw [if_pos ⟨h3, by rw [show S 3 i - 1 = h by omega]; exact hk⟩]
      · rw [if_neg hk]
        refine ok_neg (by decide) (key42 ?_)
        unfold evF
        rw [if_neg (fun z => by rw [show S 3 i - 1 = h by omega] at z; exact hk z.2)]
  · rintro n ⟨j, σ1⟩ ⟨e2, ar1, ha⟩
    have e2 : j = _ := e2
    have ha : Ai Sg σ σ1 := ha
    have ar1 : Ar c S k (ns c) σ1 := ar1
    subst e2
    have rm1 := RepM_ai rm (sg_se ha)
    show Ok (b_X12_goEvening_2 N ρ 90 (bits k m) (f_X12_goEvening_2 N ρ 90 (bits k m) n) (nI (ns c)) σ1) _
    unfold b_X12_goEvening_2
    rw [rm1.2.1]
    exact ok_pos (Int32.le_refl _) (s_goPhase2 hN hρ wf ws rm1 (RepA_cg ra (ha 120 (by unfold Sg; omega))) ar1)
