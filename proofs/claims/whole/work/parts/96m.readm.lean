/-! THE TEXT, read by the model -/
def RnM (τ : Tape) (σ : St) (o : Dr ⊕ Flt) (_ : Int32) (σ' : St) : Prop := (match o with
  | .inl D' => (σ'.1 90 2 = 0 ∧ σ'.1 90 3 = -1) ∧ DM D' σ'
  | .inr e => FMd τ e σ') ∧ KG σ σ'
theorem srt_0 {k : Nat} (hk : k < 104) : nI (srt k) = 0 ↔ k = 102 := by
  have key : ∀ k, k < 104 → (decide (nI (srt k) = 0)) = decide (k = 102) := by decide +kernel
  have := key k hk
  rw [Bool.eq_iff_iff] at this
  simpa using this
theorem s_runM {N t : Nat} {τ : Tape} (hN : 20000 ≤ N) (hb : ∀ j, j < τ.1 → τ.2 j < 256) : ∀ n p D o, RunR τ n p D o → ∀ m σ, n < m → WfD D → LMd τ p σ → DM D σ → Ok (f_X12_readAll_92 N (RR t) 90 m σ) (RnM τ σ o) := by
  intro n
  induction n with
  | zero => intro p D o h; exact h.elim
  | succ n ih =>
    intro p D o hr m σ hm wf h hx
    have hk := tk_lt (p := p) hb
    obtain ⟨m', rfl⟩ : ∃ m', m = m' + 1 := ⟨m - 1, by omega⟩
    show Ok (b_X12_readAll_92 N (RR t) 90 (f_X12_readAll_92 N (RR t) 90 m') σ) _
    unfold b_X12_readAll_92 f_X12_readAll_113
    rw [h.2.1.2.1]
    refine ok_pos h.2.2.2.1 ?_
    rcases hr with ⟨c, rfl⟩ | ⟨c, hr⟩
    · exact ok_pos ((srt_0 hk).mpr c) (ok_ret ⟨⟨⟨h.2.2.2.1, h.2.2.2.2⟩, hx⟩, fun _ _ => rfl⟩)
    · refine ok_neg (fun z => c ((srt_0 hk).mp z)) ?_
      rcases hr with ⟨e, hl, rfl⟩ | ⟨p', D', hl, wf', hr⟩
      · refine ok_call (s_lineM hN hb wf h hx hl) (fun r σ1 z => ?_)
        obtain ⟨z1, z2⟩ := z
        obtain ⟨m'', rfl⟩ : ∃ m'', m' = m'' + 1 := ⟨m' - 1, by omega⟩
        show Ok (b_X12_readAll_92 N (RR t) 90 (f_X12_readAll_92 N (RR t) 90 m'') σ1) _
        unfold b_X12_readAll_92 f_X12_readAll_113
        exact ok_neg (fm_nz z1).1 (ok_ret ⟨z1, z2⟩)
      · refine ok_call (s_lineM hN hb wf h hx hl) (fun r σ1 z => ?_)
        obtain ⟨⟨z1, z3⟩, z2⟩ := z
        exact ok_mono (ih p' D' o hr m' σ1 (by omega) wf' z1 z3) (fun _ _ y => ⟨y.1, kg_trans z2 y.2⟩)
def RaM (τ : Tape) (σ : St) (o : Dr ⊕ Flt) (_ : Int32) (σ' : St) : Prop := (match o with
  | .inl D' => (σ'.1 90 2 = 0 ∧ σ'.1 90 3 = -1) ∧ DM D' σ'
  | .inr e => FMd τ e σ') ∧ σ'.1 90 1 = 0 ∧ ∀ k, ¬ nG k → k ≠ 1 → k ≠ 5 → σ'.1 90 k = σ.1 90 k
theorem s_readM {N t n : Nat} {τ : Tape} {o : Dr ⊕ Flt} {σ : St} (hN : 20000 ≤ N) (hb : ∀ j, j < τ.1 → τ.2 j < 256) (hL : τ.1 ≤ 1600) (h1 : σ.1 90 1 = nI τ.1) (h91 : ∀ j, j < τ.1 → σ.1 91 j = nI (τ.2 j)) (hr : RunR τ n 0 D0 o) (hn : n < N) : Ok (f_X12_readAll N (RR t) 90 σ) (RaM τ σ o) := by
  unfold f_X12_readAll
  rw [r_90_19 rfl, z32.1, z32.2, show vp_nar .boolean 0 = (0 : Int32) from rfl]
  simp only [nmd_e]
  rw [gd_t (show ib 0 2 = true from rfl), gd_t (show ib 1 2 = true from rfl)]
  obtain ⟨σ1, e1⟩ : ∃ σ1, σ1 = sI (sI (sI (sI (sI (sI (sI (sI (sI (sI (sI (sI (sI (sI (sI (sI σ 90 5 (σ.1 90 1)) 90 1 0) 90 4 0) 90 2 0) 90 3 (-1)) 90 44 0) 90 45 0) 90 46 7) 90 47 0) 90 48 0) 90 53 0) 90 54 0) 90 55 0) 101 0 0) 101 1 0) 90 22 0 := ⟨_, rfl⟩
  rw [← e1]
  have v90 : σ1.1 90 = upd (upd (upd (upd (upd (upd (upd (upd (upd (upd (upd (upd (upd (upd (σ.1 90) 5 (σ.1 90 1)) 1 0) 4 0) 2 0) 3 (-1)) 44 0) 45 0) 46 7) 47 0) 48 0) 53 0) 54 0) 55 0) 22 0 := by
    rw [e1, sI_up, sI_ne (by decide), sI_ne (by decide)]
    simp only [sI_up]
  have v101 : σ1.1 101 = upd (upd (σ.1 101) 0 0) 1 0 := by
    rw [e1, sI_ne (by decide), sI_up, sI_up]
    simp only [sI_ne (show 101 ≠ 90 by decide)]
  have vn : ∀ q, q ≠ 90 → q ≠ 101 → σ1.1 q = σ.1 q := fun q a b => by
    rw [e1]
    simp only [sI_ne a, sI_ne b]
  have f1 : σ1.2 = σ.2 := by rw [e1]; rfl
  have k1 : ∀ k, ¬ nG k → k ≠ 1 → k ≠ 5 → σ1.1 90 k = σ.1 90 k := fun k hk a b => by
    have hk : ¬ (k = 2 ∨ k = 3 ∨ k = 4 ∨ k = 22 ∨ (44 ≤ k ∧ k ≤ 48) ∨ (53 ≤ k ∧ k ≤ 55)) := fun z => hk (by unfold nG nF; omega)
    rw [v90, pk_un (by omega), pk_un (by omega), pk_un (by omega), pk_un (by omega), pk_un (by omega), pk_un (by omega), pk_un (by omega), pk_un (by omega), pk_un (by omega), pk_un (by omega), pk_un (by omega), pk_un (by omega), pk_un (by omega), pk_un (by omega)]
  have tm1 : TapM τ σ1 := by
    refine ⟨hL, ?_, fun j hj => ⟨hb j hj, by rw [vn 91 (by decide) (by decide)]; exact h91 j hj⟩⟩
    rw [v90]
    exact h1
  have x1 : σ1.1 90 4 = nI 0 ∧ σ1.1 90 2 = 0 ∧ σ1.1 90 3 = -1 ∧ σ1.1 90 1 = 0 := by
    rw [v90]
    exact ⟨rfl, rfl, rfl, rfl⟩
  have dm1 : DM D0 σ1 := by
    have cz : ∀ b, cn (dc D0) b = 0 := fun b => by unfold cn; split <;> rfl
    refine ⟨⟨fun b hb => ?_, fun j hj => ?_, fun j hj => ?_, by rw [v90]; rfl⟩, ⟨by rw [v101]; rfl, by rw [v101]; rfl⟩, fun k i hk hi => ?_, fun b i hb hi => ?_, fun z => absurd rfl z, fun z => absurd rfl z⟩
    · rw [v90]
      rcases (show b = 0 ∨ b = 1 by omega) with rfl | rfl <;> rfl
    · rw [v90]
      rcases (show j = 0 ∨ j = 1 ∨ j = 2 by omega) with rfl | rfl | rfl <;> rfl
    · rw [v90]
      rcases (show j = 0 ∨ j = 1 ∨ j = 2 by omega) with rfl | rfl | rfl <;> rfl
    · rw [cz] at hi; exact absurd hi (Nat.not_lt_zero _)
    · rw [cz] at hi; exact absurd hi (Nat.not_lt_zero _)
  refine ok_call (s_token hN tm1 (Nat.zero_le _) x1.1) (fun _ σ2 z2 => ?_)
  obtain ⟨⟨l2, k2⟩, a2⟩ := z2
  have h2 : LMd τ 0 σ2 := ⟨TapM_cg tm1 (k2 5 (by decide) (by decide) (by decide) (by decide)) (a2 91 (by decide)).1, l2, Nat.zero_le _, by rw [k2 2 (by decide) (by decide) (by decide) (by decide)]; exact x1.2.1, by rw [k2 3 (by decide) (by decide) (by decide) (by decide)]; exact x1.2.2.1⟩
  have dm2 : DM D0 σ2 := DM_cg dm1 (fun k hk => k2 k (by omega) (by omega) (by omega) (by omega)) (fun q hq => (a2 q (by omega)).1) (fun b i _ _ => by rw [(a2 92 (by decide)).2])
  refine ok_mono (s_runM hN hb n 0 D0 o hr N σ2 hn D0_wf h2 dm2) (fun r σ3 z3 => ⟨z3.1, ?_, fun k hk a b => ?_⟩)
  · rw [z3.2 1 (by unfold nG nF; omega), k2 1 (by decide) (by decide) (by decide) (by decide)]; exact x1.2.2.2
  · rw [z3.2 k hk, k2 k (fun z => hk (by unfold nG nF; omega)) (fun z => hk (by unfold nG nF; omega)) (fun z => hk (by unfold nG nF; omega)) (fun z => hk (by unfold nG nF; omega)), k1 k hk a b]
