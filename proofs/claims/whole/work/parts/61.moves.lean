/-! DRAWS, WHO IS SAVED, STATES MOVED -/
def sd (s0 : Nat) : Nat → Nat
  | 0 => s0
  | i + 1 => (sd s0 i * 137 + 71) % 1000
theorem sd_lt {s0 : Nat} (h : s0 ≤ 999) : ∀ i, sd s0 i ≤ 999
  | 0 => h
  | i + 1 => by
    show (sd s0 i * 137 + 71) % 1000 ≤ 999
    omega
def cld (c : CDat) (S : SDat) (h : Nat) : Bool := decide (sd (S 4 1) (h + 1) % 100 < dt c 8 1)
def drS (c : CDat) (S : SDat) : SDat := pu S 4 1 (sd (S 4 1) (nh c))
theorem pu_pu {S : SDat} {r s a b : Nat} : pu (pu S r s a) r s b = pu S r s b := by
  funext r' s'
  by_cases h : r' = r ∧ s' = s
  · simp [pu, h]
  · rw [pu_n h, pu_n h, pu_n h]
theorem pu_id {S : SDat} {r s : Nat} : pu S r s (S r s) = S := by
  funext r' s'
  by_cases h : r' = r ∧ s' = s
  · obtain ⟨rfl, rfl⟩ := h
    rw [pu_s]
  · rw [pu_n h]
theorem drS_wf {c : CDat} {S : SDat} (ws : WfS c S) : WfS c (drS c S) := by
  refine ⟨fun s hs => ?_, ?_, ?_⟩
  · have := ws.1 s hs
    unfold drS
    rw [pu_n (by omega), pu_n (by omega), pu_n (by omega), pu_n (by omega)]
    exact this
  · unfold drS
    rw [pu_n (by omega)]; exact ws.2.1
  · unfold drS
    rw [pu_s]; exact sd_lt ws.2.2 _
theorem sd_step {a : Nat} (h : a ≤ 999) : irem (nI a * 137 + 71) 1000 = nI ((a * 137 + 71) % 1000) := by
  rw [show (137 : Int32) = nI 137 from rfl, pk_mul, show (71 : Int32) = nI 71 from rfl, nI_add]
  exact pk_rem (by omega) (by decide) (by decide)
theorem rem100 {a : Nat} (h : a ≤ 999) : irem (nI a) 100 = nI (a % 100) := pk_rem (by omega) (by decide) (by decide)
set_option maxHeartbeats 400000 in
theorem s_drawCold {N t q : Nat} {ρ : Nat → Nat → Nat} {c : CDat} {S : SDat} {σ : St} (hN : 20000 ≤ N) (ht : isT t) (hq : isQ q) (wf : WfC c) (ws : WfS c S) (rc : RepC t c σ) (rs : RepS q c S σ) :
    Ok (f_X9_drawCold N ρ q t σ) (fun r σ' => (r = bits (cld c S) (nh c) ∧ RepS q c (drS c S) σ') ∧ Ag (Sk t q) σ σ') := by
  have hnh := wf.1
  have tl := isT_le ht
  have ql := isQ_le hq
  refine ok_ag ?_ (fun r σ' e => ag_mono (m_X9_drawCold e) (fun p hp => by unfold Sk; omega))
  refine lp_ok (F := fun n (a : Int32 × Int32 × St) => f_X9_drawCold_4 N ρ q t n a.1 a.2.1 a.2.2) (nh c) (fun i a => a.1 = bits (cld c S) i ∧ a.2.1 = nI i ∧ RepS q c (pu S 4 1 (sd (S 4 1) i)) a.2.2 ∧ Ai (fun p => p = q) σ a.2.2) ?_ ?_ N 0 (0, 0, σ) (Nat.zero_le _) (by omega) ⟨rfl, rfl, by rw [show sd (S 4 1) 0 = S 4 1 from rfl, pu_id]; exact rs, ai_refl⟩
  · rintro n i ⟨b, j, σ1⟩ hi ⟨e1, e2, rs1, ha⟩ kk
    have e1 : b = _ := e1
    have e2 : j = _ := e2
    have ha : Ai (fun p => p = q) σ σ1 := ha
    have rs1 : RepS q c (pu S 4 1 (sd (S 4 1) i)) σ1 := rs1
    subst e1 e2
    have et : σ1.1 t = σ.1 t := ha t (by omega)
    have e5 : σ1.1 q 5 = nI (sd (S 4 1) i) := by rw [rs1.2.2.2, pu_s]
    have b0 := sd_lt ws.2.2 i
    have b1 := sd_lt ws.2.2 (i + 1)
    show Ok (b_X9_drawCold_4 N ρ q t (f_X9_drawCold_4 N ρ q t n) _ (nI i) σ1) _
    unfold b_X9_drawCold_4 f_X9_drawCold_51
    rw [et, rc.1, nI_1]
    refine ok_neg (nI_ge hi (by omega)) (ok_sI fun σ2 n2 u2 => ?_)
    rw [e5, sd_step b0] at u2
    have rs2 := RepS_w4 (j := 1) (v := sd (S 4 1) (i + 1)) rs1 (by decide) n2 u2 rfl
    rw [pu_pu] at rs2
    have e5' : σ2.1 q 5 = nI (sd (S 4 1) (i + 1)) := by rw [rs2.2.2.2, pu_s]
    rw [n2 t (by omega), et, rc.2.2.2.1, e5', rem100 b1]
    have hcd := wf.2.2.2.2.2.2.1
    by_cases hl : sd (S 4 1) (i + 1) % 100 < dt c 8 1
    · refine ok_neg (nI_ge hl (by omega)) (ok_nmd ?_)
      exact kk (_, _, σ2) ⟨bits_y (by simp [cld, hl]), rfl, rs2, ai_tr ha (ai_w n2 rfl)⟩
    · refine ok_pos (nI_le (by omega) (by omega)) ?_
      exact kk (_, _, σ2) ⟨bits_n (by simp [cld, hl]), rfl, rs2, ai_tr ha (ai_w n2 rfl)⟩
  · rintro n ⟨b, j, σ1⟩ ⟨e1, e2, rs1, ha⟩
    have e1 : b = _ := e1
    have e2 : j = _ := e2
    have ha : Ai (fun p => p = q) σ σ1 := ha
    subst e1 e2
    show Ok (b_X9_drawCold_4 N ρ q t (f_X9_drawCold_4 N ρ q t n) _ (nI (nh c)) σ1) _
    unfold b_X9_drawCold_4
    rw [ha t (by omega), rc.1]
    exact ok_pos (Int32.le_refl _) (ok_ret ⟨rfl, rs1⟩)
set_option maxHeartbeats 400000 in
theorem s_drawColdM {N t : Nat} {ρ : Nat → Nat → Nat} {c : CDat} {S : SDat} {σ : St} (hN : 20000 ≤ N) (hρ : ρ = RR t) (wf : WfC c) (ws : WfS c S) (rm : RepM c σ) (ra : RepA 120 c S σ) :
    Ok (f_X12_drawCold N ρ 90 σ) (fun r σ' => (r = bits (cld c S) (nh c) ∧ RepA 120 c (drS c S) σ') ∧ Ag Se σ σ') := by
  have hnh := wf.1
  have hns := wf.2.1
  refine ok_ag ?_ (fun r σ' e => by have := m_X12_drawCold e; rw [r_90_57 hρ] at this; exact ag_mono this (fun p hp => by unfold Se; omega))
  refine lp_ok (F := fun n (a : Int32 × Int32 × St) => f_X12_drawCold_4 N ρ 90 n a.1 a.2.1 a.2.2) (nh c) (fun i a => a.1 = bits (cld c S) i ∧ a.2.1 = nI i ∧ RepA 120 c (pu S 4 1 (sd (S 4 1) i)) a.2.2 ∧ Ai (fun p => p = 120) σ a.2.2) ?_ ?_ N 0 (0, 0, σ) (Nat.zero_le _) (by omega) ⟨rfl, rfl, by rw [show sd (S 4 1) 0 = S 4 1 from rfl, pu_id]; exact ra, ai_refl⟩
  · rintro n i ⟨b, j, σ1⟩ hi ⟨e1, e2, ra1, ha⟩ kk
    have e1 : b = _ := e1
    have e2 : j = _ := e2
    have ha : Ai (fun p => p = 120) σ σ1 := ha
    have ra1 : RepA 120 c (pu S 4 1 (sd (S 4 1) i)) σ1 := ra1
    subst e1 e2
    have et : σ1.1 90 = σ.1 90 := ha 90 (by decide)
    have e5 : σ1.1 120 (21 : Int32).toNatClampNeg = nI (sd (S 4 1) i) := by rw [show σ1.1 120 (21 : Int32).toNatClampNeg = _ from ra1.2.2, pu_s]
    have b0 := sd_lt ws.2.2 i
    have b1 := sd_lt ws.2.2 (i + 1)
    show Ok (b_X12_drawCold_4 N ρ 90 (f_X12_drawCold_4 N ρ 90 n) _ (nI i) σ1) _
    unfold b_X12_drawCold_4 f_X12_drawCold_60
    rw [et, rm.1, nI_1, r_90_57 hρ]
    refine ok_neg (nI_ge hi (by omega)) (ok_gd rfl (ok_gd rfl (ok_sI fun σ2 n2 u2 => ok_gd rfl ?_)))
    rw [e5, sd_step b0] at u2
    have ra2 := RepA_w4 (j := 1) (v := sd (S 4 1) (i + 1)) ra1 hns (by decide) (show (21 : Int32).toNatClampNeg = 20 + 1 from rfl) u2 rfl
    rw [pu_pu] at ra2
    have e5' : σ2.1 120 (21 : Int32).toNatClampNeg = nI (sd (S 4 1) (i + 1)) := by rw [show σ2.1 120 (21 : Int32).toNatClampNeg = _ from ra2.2.2, pu_s]
    rw [n2 90 (by decide), et, rm.2.2.2.1, e5', rem100 b1]
    have hcd := wf.2.2.2.2.2.2.1
    have hb := bits_t (p := cld c S) (show i < 6 by omega)
    by_cases hl : sd (S 4 1) (i + 1) % 100 < dt c 8 1
    · refine ok_neg (nI_ge hl (by omega)) (ok_bnd s_truth (ok_nmd ?_))
      refine kk (_, _, σ2) ⟨?_, rfl, ra2, ai_tr ha (ai_w n2 rfl)⟩
      rw [← hb]
      simp [cld, hl]
    · refine ok_pos (nI_le (by omega) (by omega)) (ok_bnd s_truth (ok_nmd ?_))
      refine kk (_, _, σ2) ⟨?_, rfl, ra2, ai_tr ha (ai_w n2 rfl)⟩
      rw [← hb]
      simp [cld, hl]
  · rintro n ⟨b, j, σ1⟩ ⟨e1, e2, ra1, ha⟩
    have e1 : b = _ := e1
    have e2 : j = _ := e2
    have ha : Ai (fun p => p = 120) σ σ1 := ha
    subst e1 e2
    show Ok (b_X12_drawCold_4 N ρ 90 (f_X12_drawCold_4 N ρ 90 n) _ (nI (nh c)) σ1) _
    unfold b_X12_drawCold_4
    rw [ha 90 (by decide), rm.1]
    exact ok_pos (Int32.le_refl _) (ok_ret ⟨rfl, ra1⟩)
/-- saved -/
def svd (c : CDat) (S : SDat) (s : Nat) : Bool := decide (dt c 8 0 ≤ S 2 s)
theorem s_isSaved {N t q s : Nat} {ρ : Nat → Nat → Nat} {c : CDat} {S : SDat} {σ : St} (hρ : ρ = RR t) (hq : isQ q) (wf : WfC c) (ws : WfS c S) (rc : RepC t c σ) (rs : RepS q c S σ) (hs : s < ns c) : f_X9_isSaved N ρ q t (nI s) σ = some (if svd c S s = true then 1 else 0, σ) := by
  have hns := wf.2.1
  have h8 := wf.2.2.2.2.2.1
  have h2 := (ws.1 s hs).2.2.1
  unfold f_X9_isSaved f_X9_isSaved_18
  rw [rq2 hρ hq, nI_clamp (by omega), gd_t (ib_nI (by omega) (by decide)), (rs.1 s hs).2.2.1, rc.2.2.1]
  by_cases h : dt c 8 0 ≤ S 2 s
  · rw [if_neg (nI_nlt h (by omega)), if_pos (by simp [svd, h])]
    rfl
  · rw [if_pos (nI_lt (by omega) (by omega)), if_neg (by simp [svd, h])]
    rfl
theorem s_savedBits {N t q : Nat} {ρ : Nat → Nat → Nat} {c : CDat} {S : SDat} {σ : St} (hN : 20000 ≤ N) (hρ : ρ = RR t) (hq : isQ q) (wf : WfC c) (ws : WfS c S) (rc : RepC t c σ) (rs : RepS q c S σ) : f_X9_savedBits N ρ q t σ = some (bits (svd c S) (ns c), σ) := by
  have hns := wf.2.1
  refine ok_is ?_
  refine lp_ok (F := fun n (a : Int32 × Int32) => f_X9_savedBits_4 N ρ q t n a.1 a.2 σ) (ns c) (fun i a => a.1 = bits (svd c S) i ∧ a.2 = nI i) ?_ ?_ N 0 (0, 0) (Nat.zero_le _) (by omega) ⟨rfl, rfl⟩
  · rintro n i ⟨b, j⟩ hi ⟨e1, e2⟩ kk
    have e1 : b = _ := e1
    have e2 : j = _ := e2
    subst e1 e2
    show Ok (b_X9_savedBits_4 N ρ q t (f_X9_savedBits_4 N ρ q t n) _ (nI i) σ) _
    unfold b_X9_savedBits_4 f_X9_savedBits_27
    rw [rc.2.1, nI_1]
    refine ok_neg (nI_ge hi (by omega)) (ok_bnd (s_isSaved hρ hq wf ws rc rs hi) ?_)
    by_cases h : svd c S i = true
    · rw [if_pos h]
      exact ok_neg (by decide) (ok_nmd (kk (_, _) ⟨bits_y h, rfl⟩))
    · rw [if_neg h]
      exact ok_pos rfl (kk (_, _) ⟨bits_n h, rfl⟩)
  · rintro n ⟨b, j⟩ ⟨e1, e2⟩
    have e1 : b = _ := e1
    have e2 : j = _ := e2
    subst e1 e2
    show Ok (b_X9_savedBits_4 N ρ q t (f_X9_savedBits_4 N ρ q t n) _ (nI (ns c)) σ) _
    unfold b_X9_savedBits_4
    rw [rc.2.1]
    exact ok_pos (Int32.le_refl _) (ok_ret ⟨rfl, rfl⟩)
theorem s_isSavedM {N t s : Nat} {ρ : Nat → Nat → Nat} {c : CDat} {S : SDat} {σ : St} (hρ : ρ = RR t) (wf : WfC c) (ws : WfS c S) (rm : RepM c σ) (ra : RepA 120 c S σ) (hs : s < ns c) : f_X12_isSaved N ρ 90 (nI s) σ = some (if svd c S s = true then 1 else 0, σ) := by
  have hns := wf.2.1
  have h8 := wf.2.2.2.2.2.1
  have h2 := (ws.1 s hs).2.2.1
  unfold f_X12_isSaved f_X12_isSaved_21
  rw [r_90_57 hρ, n10, nI_clamp (by omega), gd_t (ib_nI (by omega) (by decide)), (ra.1 s hs).2.2.1, rm.2.2.1]
  by_cases h : dt c 8 0 ≤ S 2 s
  · rw [if_neg (nI_nlt h (by omega)), if_pos (by simp [svd, h])]
    rfl
  · rw [if_pos (nI_lt (by omega) (by omega)), if_neg (by simp [svd, h])]
    rfl
theorem s_savedOnes {N t : Nat} {ρ : Nat → Nat → Nat} {c : CDat} {S : SDat} {σ : St} (hN : 20000 ≤ N) (hρ : ρ = RR t) (wf : WfC c) (ws : WfS c S) (rm : RepM c σ) (ra : RepA 120 c S σ) : f_X12_savedOnes N ρ 90 σ = some (bits (svd c S) (ns c), σ) := by
  have hns := wf.2.1
  refine ok_is ?_
  refine lp_ok (F := fun n (a : Int32 × Int32) => f_X12_savedOnes_4 N ρ 90 n a.1 a.2 σ) (ns c) (fun i a => a.1 = bits (svd c S) i ∧ a.2 = nI i) ?_ ?_ N 0 (0, 0) (Nat.zero_le _) (by omega) ⟨rfl, rfl⟩
  · rintro n i ⟨b, j⟩ hi ⟨e1, e2⟩ kk
    have e1 : b = _ := e1
    have e2 : j = _ := e2
    subst e1 e2
    show Ok (b_X12_savedOnes_4 N ρ 90 (f_X12_savedOnes_4 N ρ 90 n) _ (nI i) σ) _
    unfold b_X12_savedOnes_4
    rw [rm.2.1, nI_1]
    refine ok_neg (nI_ge hi (by omega)) (ok_bnd (s_isSavedM hρ wf ws rm ra hi) (ok_bnd s_truth (ok_nmd ?_)))
    refine kk (_, _) ⟨?_, rfl⟩
    rw [← bits_t (p := svd c S) (show i < 6 by omega)]
    by_cases h : svd c S i = true <;> simp [h]
  · rintro n ⟨b, j⟩ ⟨e1, e2⟩
    have e1 : b = _ := e1
    have e2 : j = _ := e2
    subst e1 e2
    show Ok (b_X12_savedOnes_4 N ρ 90 (f_X12_savedOnes_4 N ρ 90 n) _ (nI (ns c)) σ) _
    unfold b_X12_savedOnes_4
    rw [rm.2.1]
    exact ok_pos (Int32.le_refl _) (ok_ret ⟨rfl, rfl⟩)
/-- a state at an offset of an array -/
def RepK (p f : Nat) (c : CDat) (S : SDat) (σ : St) : Prop := (∀ s, s < ns c → σ.1 p (f + s) = nI (S 0 s) ∧ σ.1 p (f + (5 + s)) = nI (S 1 s) ∧ σ.1 p (f + (10 + s)) = nI (S 2 s) ∧ σ.1 p (f + (15 + s)) = sv (S 3 s)) ∧ σ.1 p (f + 20) = nI (S 4 0) ∧ σ.1 p (f + 21) = nI (S 4 1)
theorem RepK_0 {p : Nat} {c : CDat} {S : SDat} {σ : St} : RepK p 0 c S σ ↔ RepA p c S σ := by
  unfold RepK RepA
  simp only [Nat.zero_add]
theorem RepK_mv {p p' f f' : Nat} {c : CDat} {S : SDat} {σ σ' : St} (h : RepK p f c S σ) (hc : ns c ≤ 5) (e : ∀ j, j < 22 → σ'.1 p' (f' + j) = σ.1 p (f + j)) : RepK p' f' c S σ' := by
  obtain ⟨h1, h2, h3⟩ := h
  refine ⟨fun s hs => ?_, ?_, ?_⟩
  · rw [e s (by omega), e (5 + s) (by omega), e (10 + s) (by omega), e (15 + s) (by omega)]
    exact h1 s hs
  · rw [e 20 (by omega)]; exact h2
  · rw [e 21 (by omega)]; exact h3
theorem RepA_mv {p p' : Nat} {c : CDat} {S : SDat} {σ σ' : St} (h : RepA p c S σ) (hc : ns c ≤ 5) (e : ∀ j, j < 22 → σ'.1 p' j = σ.1 p j) : RepA p' c S σ' :=
  RepK_0.mp (RepK_mv (RepK_0.mpr h) hc (fun j hj => by rw [Nat.zero_add]; exact e j hj))
theorem s_fill {N t : Nat} {ρ : Nat → Nat → Nat} {σ : St} (hN : 20000 ≤ N) (hρ : ρ = RR t) : Ok (f_X12_fill N ρ 90 σ) (fun _ σ' => (∀ j, j < 22 → σ'.1 120 j = σ.1 119 j) ∧ Ag (fun p => p = 120) σ σ') := by
  refine ok_ag ?_ (fun r σ' e => by have := m_X12_fill e; rw [r_90_57 hρ] at this; exact this)
  refine lp_ok (F := fun n (a : Int32 × St) => f_X12_fill_2 N ρ 90 n a.1 a.2) 22 (fun i a => a.1 = nI i ∧ (∀ j, j < i → a.2.1 120 j = σ.1 119 j) ∧ a.2.1 119 = σ.1 119) ?_ ?_ N 0 (0, σ) (Nat.zero_le _) (by omega) ⟨rfl, fun j hj => absurd hj (by omega), rfl⟩
  · rintro n i ⟨j, σ1⟩ hi ⟨e2, h1, h2⟩ kk
    have e2 : j = _ := e2
    have h1 : ∀ j, j < i → σ1.1 120 j = σ.1 119 j := h1
    have h2 : σ1.1 119 = σ.1 119 := h2
    subst e2
    show Ok (b_X12_fill_2 N ρ 90 (f_X12_fill_2 N ρ 90 n) (nI i) σ1) _
    unfold b_X12_fill_2
    rw [r_90_56 hρ, r_90_57 hρ, nI_clamp (by omega), nI_1]
    refine ok_neg (show ¬ (22 : Int32) ≤ nI i from nI_ge (show i < 22 from hi) (by decide)) (ok_gd (ib_nI hi (by decide)) (ok_gd (ib_nI hi (by decide)) (ok_sI fun σ2 n2 u2 => ?_)))
    refine kk (_, σ2) ⟨rfl, fun j hj => ?_, ?_⟩
    · rw [u2]
      by_cases e : j = i
      · subst e; rw [pk_us, h2]
      · rw [pk_un e]; exact h1 j (by omega)
    · rw [n2 119 (by decide)]; exact h2
  · rintro n ⟨j, σ1⟩ ⟨e2, h1, h2⟩
    have e2 : j = _ := e2
    subst e2
    show Ok (b_X12_fill_2 N ρ 90 (f_X12_fill_2 N ρ 90 n) (nI 22) σ1) _
    unfold b_X12_fill_2
    exact ok_pos (show (22 : Int32) ≤ nI 22 by decide) (ok_ret h1)
theorem s_keepAir {N t : Nat} {ρ : Nat → Nat → Nat} {σ : St} (hN : 20000 ≤ N) (hρ : ρ = RR t) : Ok (f_X12_keepAir N ρ 90 σ) (fun _ σ' => (∀ j, j < 22 → σ'.1 119 j = σ.1 120 j) ∧ Ag (fun p => p = 119) σ σ') := by
  refine ok_ag ?_ (fun r σ' e => by have := m_X12_keepAir e; rw [r_90_56 hρ] at this; exact this)
  refine lp_ok (F := fun n (a : Int32 × St) => f_X12_keepAir_2 N ρ 90 n a.1 a.2) 22 (fun i a => a.1 = nI i ∧ (∀ j, j < i → a.2.1 119 j = σ.1 120 j) ∧ a.2.1 120 = σ.1 120) ?_ ?_ N 0 (0, σ) (Nat.zero_le _) (by omega) ⟨rfl, fun j hj => absurd hj (by omega), rfl⟩
  · rintro n i ⟨j, σ1⟩ hi ⟨e2, h1, h2⟩ kk
    have e2 : j = _ := e2
    have h1 : ∀ j, j < i → σ1.1 119 j = σ.1 120 j := h1
    have h2 : σ1.1 120 = σ.1 120 := h2
    subst e2
    show Ok (b_X12_keepAir_2 N ρ 90 (f_X12_keepAir_2 N ρ 90 n) (nI i) σ1) _
    unfold b_X12_keepAir_2
    rw [r_90_56 hρ, r_90_57 hρ, nI_clamp (by omega), nI_1]
    refine ok_neg (show ¬ (22 : Int32) ≤ nI i from nI_ge (show i < 22 from hi) (by decide)) (ok_gd (ib_nI hi (by decide)) (ok_gd (ib_nI hi (by decide)) (ok_sI fun σ2 n2 u2 => ?_)))
    refine kk (_, σ2) ⟨rfl, fun j hj => ?_, ?_⟩
    · rw [u2]
      by_cases e : j = i
      · subst e; rw [pk_us, h2]
      · rw [pk_un e]; exact h1 j (by omega)
    · rw [n2 120 (by decide)]; exact h2
  · rintro n ⟨j, σ1⟩ ⟨e2, h1, h2⟩
    have e2 : j = _ := e2
    subst e2
    show Ok (b_X12_keepAir_2 N ρ 90 (f_X12_keepAir_2 N ρ 90 n) (nI 22) σ1) _
    unfold b_X12_keepAir_2
    exact ok_pos (show (22 : Int32) ≤ nI 22 by decide) (ok_ret h1)
/-- copies in the class -/
theorem ok_cpy {σ : St} {a b : Nat} {sp dp n : Int32} {kk : St → Option (Int32 × St)} {Q : Int32 → St → Prop} (h : ∀ σ' : St, (∀ p, p ≠ b → σ'.1 p = σ.1 p) → (∀ j, σ'.1 b j = if dp.toNatClampNeg ≤ j ∧ j < dp.toNatClampNeg + n.toNatClampNeg then σ.1 a (sp.toNatClampNeg + (j - dp.toNatClampNeg)) else σ.1 b j) → Ok (kk σ') Q) : Ok (nmd (cpyI σ a b sp dp n) kk) Q := h _ (fun p hp => cpyI_ne hp) (fun j => by simp [cpyI])
theorem cpok_nI {n0 n1 a b n : Nat} (h0 : a + n ≤ n0) (h1 : b + n ≤ n1) (hn : n0 < 2 ^ 31) (hn1 : n1 < 2 ^ 31) : cpok n0 n1 (nI a) (nI b) (nI n) = true := by
  unfold cpok
  rw [nI_clamp (by omega), nI_clamp (by omega), nI_clamp (by omega)]
  have h1' : ¬ nI a < 0 := nI_pos (by omega)
  have h2' : ¬ nI b < 0 := nI_pos (by omega)
  have h3' : ¬ nI n < 0 := nI_pos (by omega)
  simp [h1', h2', h3']
  omega
