/-! WHAT HOLDS BETWEEN THE TWO OBJECTS -/
def HX (d u : Nat) (c : CDat) (H : Nat → SDat) (σ : St) : Prop := σ.1 51 1 = nI d ∧ σ.1 51 2 = nI u ∧ ∀ k, k ≤ d + u → RepKx 52 (22 * k) c (H k) σ
def HM (d u : Nat) (c : CDat) (H : Nat → SDat) (σ : St) : Prop := σ.1 90 62 = nI d ∧ σ.1 90 63 = nI u ∧ (∀ k, k < d → RepK 124 (22 * k) c (H k) σ) ∧ (∀ k, d ≤ k → k < d + u → RepK 124 (22 * k) c (H (k + 1)) σ)
def HOk (d u : Nat) (c : CDat) (H : Nat → SDat) (S : SDat) : Prop := d + u ≤ 40 ∧ H d = S ∧ ∀ k, k ≤ d + u → WfS c (H k) ∧ H k 4 0 ≤ 999
def HistI (c : CDat) (S : SDat) (σ : St) : Prop := ∃ (d u : Nat) (H : Nat → SDat), HOk d u c H S ∧ HX d u c H σ ∧ HM d u c H σ
def BoxI (c : CDat) (σ : St) : Prop := ∀ b, b < 3 → (σ.1 54 b = 0 ∧ σ.1 138 b = 0) ∨ (σ.1 54 b = 1 ∧ σ.1 138 b = 1 ∧ ∃ B : SDat, WfS c B ∧ B 4 0 ≤ 999 ∧ RepKx 53 (22 * b) c B σ ∧ RepK 139 (22 * b) c B σ)
def LieI (σ : St) : Prop := ∃ L, L ≤ 5 ∧ σ.1 0 14 = nI L ∧ σ.1 90 65 = nI L ∧ ∀ i, i < L → σ.1 89 i = σ.1 125 i
def FltI (σ : St) : Prop := σ.1 0 15 = σ.1 90 2 ∧ σ.1 0 16 = σ.1 90 3
/-- a mark: 0 evening, 1 sort (0 dent), 2 bound, 3 is, 4 told, 5 untold and 1 -/
def MkOk (mk : Nat → Nat → Nat) (j : Nat) : Prop := 1 ≤ mk j 0 ∧ mk j 0 ≤ 3 ∧ mk j 1 ≤ 1 ∧ mk j 2 ≤ 99 ∧ mk j 3 ≤ 1 ∧ mk j 4 ≤ 100000 ∧ mk j 5 ≤ 100001
def MkX (mk : Nat → Nat → Nat) (j : Nat) (σ : St) : Prop := σ.1 69 j = nI (mk j 0) ∧ σ.1 70 j = nI (1 - mk j 1) ∧ σ.1 71 j = nI (mk j 2) ∧ σ.1 72 j = nI (mk j 3) ∧ σ.1 73 j = nI (mk j 4) ∧ σ.1 74 j = sv (mk j 5)
def MkM (mk : Nat → Nat → Nat) (j : Nat) (σ : St) : Prop := σ.1 129 j = nI (mk j 0) ∧ σ.1 128 j = nI (mk j 1) ∧ σ.1 130 j = nI (mk j 2) ∧ σ.1 133 j = nI (mk j 3) ∧ σ.1 131 j = nI (mk j 4) ∧ σ.1 132 j = sv (mk j 5)
def MemI (M T : Nat) (mk : Nat → Nat → Nat) (σ : St) : Prop := M ≤ 30 ∧ T ≤ 100000 ∧ σ.1 68 6 = nI M ∧ σ.1 90 74 = nI M ∧ σ.1 68 7 = nI T ∧ σ.1 90 75 = nI T ∧ ∀ j, j < M → MkOk mk j ∧ MkX mk j σ ∧ MkM mk j σ
def sb (b : Nat) : Int32 := if b < 128 then nI b else nI b - 256
def TapI (L : Nat) (bt : Nat → Nat) (σ : St) : Prop := L ≤ 1600 ∧ σ.1 4 1 = nI L ∧ σ.1 90 1 = nI L ∧ ∀ j, j < L → bt j < 256 ∧ σ.1 91 j = nI (bt j) ∧ σ.1 5 j = sb (bt j)
def WrdI (σ : St) : Prop := ∀ k, k < 20 → σ.2 6 k = WT k
def RestI (c : CDat) (S : SDat) (σ : St) : Prop := HistI c S σ ∧ BoxI c σ ∧ LieI σ ∧ FltI σ ∧ (∃ M T mk, MemI M T mk σ) ∧ (∃ L bt, TapI L bt σ) ∧ WrdI σ
def Iv (t : Nat) (c : CDat) (S : SDat) (σ : St) : Prop := isT t ∧ WfC c ∧ WfS c S ∧ S 4 0 ≤ 999 ∧ (RepC t c σ ∧ RepS 41 c S σ) ∧ (RepM c σ ∧ RepA 119 c S σ ∧ σ.1 90 27 = 0) ∧ RestI c S σ
def Inv (ρ : Nat → Nat → Nat) (σ : St) : Prop := ∃ t c S, ρ = RR t ∧ Iv t c S σ
/-- scratch of questions -/
def ScX (t p : Nat) : Prop := p = t + 11 ∨ p = t + 14 ∨ p = t + 15 ∨ (46 ≤ p ∧ p ≤ 50) ∨ (55 ≤ p ∧ p ≤ 67) ∨ (75 ≤ p ∧ p ≤ 88)
def ScM (p : Nat) : Prop := p = 100 ∨ p = 102 ∨ (120 ≤ p ∧ p ≤ 123) ∨ p = 126 ∨ p = 127 ∨ (134 ≤ p ∧ p ≤ 137)
theorem RepK_cg {p f : Nat} {c : CDat} {S : SDat} {σ σ' : St} (h : RepK p f c S σ) (e : σ'.1 p = σ.1 p) : RepK p f c S σ' := by
  unfold RepK
  rw [e]
  exact h
theorem RepKx_cg {p f : Nat} {c : CDat} {S : SDat} {σ σ' : St} (h : RepKx p f c S σ) (e : σ'.1 p = σ.1 p) : RepKx p f c S σ' := by
  unfold RepKx RepK
  rw [e]
  exact h
theorem HX_cg {d u : Nat} {c : CDat} {H : Nat → SDat} {σ σ' : St} (h : HX d u c H σ) (e1 : σ'.1 51 = σ.1 51) (e2 : σ'.1 52 = σ.1 52) : HX d u c H σ' :=
  ⟨by rw [e1]; exact h.1, by rw [e1]; exact h.2.1, fun k hk => RepKx_cg (h.2.2 k hk) e2⟩
theorem HM_cg {d u : Nat} {c : CDat} {H : Nat → SDat} {σ σ' : St} (h : HM d u c H σ) (e3 : σ'.1 90 62 = σ.1 90 62) (e5 : σ'.1 90 63 = σ.1 90 63) (e4 : σ'.1 124 = σ.1 124) : HM d u c H σ' :=
  ⟨by rw [e3]; exact h.1, by rw [e5]; exact h.2.1, fun k hk => RepK_cg (h.2.2.1 k hk) e4, fun k a b => RepK_cg (h.2.2.2 k a b) e4⟩
theorem HistI_cg {c : CDat} {S : SDat} {σ σ' : St} (h : HistI c S σ) (e1 : σ'.1 51 = σ.1 51) (e2 : σ'.1 52 = σ.1 52) (e3 : σ'.1 90 62 = σ.1 90 62) (e5 : σ'.1 90 63 = σ.1 90 63) (e4 : σ'.1 124 = σ.1 124) : HistI c S σ' := by
  obtain ⟨d, u, H, h1, h2, h3⟩ := h
  exact ⟨d, u, H, h1, HX_cg h2 e1 e2, HM_cg h3 e3 e5 e4⟩
theorem BoxI_cg {c : CDat} {σ σ' : St} (h : BoxI c σ) (e1 : σ'.1 53 = σ.1 53) (e2 : σ'.1 54 = σ.1 54) (e3 : σ'.1 138 = σ.1 138) (e4 : σ'.1 139 = σ.1 139) : BoxI c σ' := by
  intro b hb
  rw [e2, e3]
  rcases h b hb with h | ⟨h1, h2, B, h3, h4, h5, h6⟩
  · exact Or.inl h
  · exact Or.inr ⟨h1, h2, B, h3, h4, RepKx_cg h5 e1, RepK_cg h6 e4⟩
theorem LieI_cg {σ σ' : St} (h : LieI σ) (e1 : σ'.1 0 14 = σ.1 0 14) (e2 : σ'.1 90 65 = σ.1 90 65) (e3 : σ'.1 89 = σ.1 89) (e4 : σ'.1 125 = σ.1 125) : LieI σ' := by
  unfold LieI
  rw [e1, e2, e3, e4]
  exact h
theorem FltI_cg {σ σ' : St} (h : FltI σ) (e1 : σ'.1 0 15 = σ.1 0 15) (e2 : σ'.1 0 16 = σ.1 0 16) (e3 : σ'.1 90 2 = σ.1 90 2) (e4 : σ'.1 90 3 = σ.1 90 3) : FltI σ' := by
  unfold FltI
  rw [e1, e2, e3, e4]
  exact h
theorem MkX_cg {mk : Nat → Nat → Nat} {j : Nat} {σ σ' : St} (h : MkX mk j σ) (e : ∀ p, 69 ≤ p → p ≤ 74 → σ'.1 p = σ.1 p) : MkX mk j σ' := by
  unfold MkX
  rw [e 69 (by decide) (by decide), e 70 (by decide) (by decide), e 71 (by decide) (by decide), e 72 (by decide) (by decide), e 73 (by decide) (by decide), e 74 (by decide) (by decide)]
  exact h
theorem MkM_cg {mk : Nat → Nat → Nat} {j : Nat} {σ σ' : St} (h : MkM mk j σ) (e : ∀ p, 128 ≤ p → p ≤ 133 → σ'.1 p = σ.1 p) : MkM mk j σ' := by
  unfold MkM
  rw [e 128 (by decide) (by decide), e 129 (by decide) (by decide), e 130 (by decide) (by decide), e 131 (by decide) (by decide), e 132 (by decide) (by decide), e 133 (by decide) (by decide)]
  exact h
theorem MemI_cg {M T : Nat} {mk : Nat → Nat → Nat} {σ σ' : St} (h : MemI M T mk σ) (e1 : σ'.1 68 = σ.1 68) (e2 : σ'.1 90 74 = σ.1 90 74) (e5 : σ'.1 90 75 = σ.1 90 75) (e3 : ∀ p, 69 ≤ p → p ≤ 74 → σ'.1 p = σ.1 p) (e4 : ∀ p, 128 ≤ p → p ≤ 133 → σ'.1 p = σ.1 p) : MemI M T mk σ' := by
  obtain ⟨h1, h2, h3, h4, h5, h6, h7⟩ := h
  refine ⟨h1, h2, by rw [e1]; exact h3, by rw [e2]; exact h4, by rw [e1]; exact h5, by rw [e5]; exact h6, fun j hj => ?_⟩
  obtain ⟨a, b, d⟩ := h7 j hj
  exact ⟨a, MkX_cg b e3, MkM_cg d e4⟩
theorem TapI_cg {L : Nat} {bt : Nat → Nat} {σ σ' : St} (h : TapI L bt σ) (e1 : σ'.1 4 = σ.1 4) (e2 : σ'.1 90 1 = σ.1 90 1) (e3 : σ'.1 91 = σ.1 91) (e4 : σ'.1 5 = σ.1 5) : TapI L bt σ' := by
  unfold TapI
  rw [e1, e2, e3, e4]
  exact h
theorem WrdI_cg {σ σ' : St} (h : WrdI σ) (e : σ'.2 6 = σ.2 6) : WrdI σ' := fun k hk => by rw [e]; exact h k hk
theorem RepM_cg2 {c : CDat} {σ σ' : St} (h : RepM c σ) (e90 : ∀ k, k = 23 ∨ (49 ≤ k ∧ k ≤ 52) → σ'.1 90 k = σ.1 90 k) (e : ∀ p, (96 ≤ p ∧ p ≤ 98) ∨ (111 ≤ p ∧ p ≤ 118) → σ'.1 p = σ.1 p) : RepM c σ' := by
  obtain ⟨h1, h2, h3, h4, h5, h6, h7, h8, h9, h10, h11⟩ := h
  refine ⟨?_, ?_, ?_, ?_, ?_, ?_, ?_, ?_, ?_, ?_, ?_⟩
  · rw [e90 49 (by omega)]; exact h1
  · rw [e90 50 (by omega)]; exact h2
  · rw [e90 51 (by omega)]; exact h3
  · rw [e90 52 (by omega)]; exact h4
  · rw [e90 23 (by omega)]; exact h5
  · intro k i a b; rw [e (111 + k) (by omega)]; exact h6 k i a b
  · intro k i a b d; rw [e (111 + k) (by omega)]; exact h7 k i a b d
  · rw [e 98 (by omega)]; exact h8
  · intro j a; rw [e 96 (by omega), e 97 (by omega)]; exact h9 j a
  · rw [e 98 (by omega)]; exact h10
  · intro j a; rw [e 96 (by omega), e 97 (by omega)]; exact h11 j a
theorem RestI_cg {c : CDat} {S : SDat} {σ σ' : St} (h : RestI c S σ) (e : ∀ p, (p ≤ 6 ∨ (51 ≤ p ∧ p ≤ 54) ∨ (68 ≤ p ∧ p ≤ 74) ∨ p = 89 ∨ p = 90 ∨ p = 91 ∨ p = 124 ∨ p = 125 ∨ (128 ≤ p ∧ p ≤ 133) ∨ p = 138 ∨ p = 139) → σ'.1 p = σ.1 p ∧ σ'.2 p = σ.2 p) : RestI c S σ' := by
  obtain ⟨h1, h2, h3, h4, ⟨M, T, mk, h5⟩, ⟨L, bt, h6⟩, h7⟩ := h
  have e90 : ∀ k, σ'.1 90 k = σ.1 90 k := fun k => by rw [(e 90 (by omega)).1]
  have e0 : ∀ k, σ'.1 0 k = σ.1 0 k := fun k => by rw [(e 0 (by omega)).1]
  exact ⟨HistI_cg h1 (e 51 (by omega)).1 (e 52 (by omega)).1 (e90 62) (e90 63) (e 124 (by omega)).1, BoxI_cg h2 (e 53 (by omega)).1 (e 54 (by omega)).1 (e 138 (by omega)).1 (e 139 (by omega)).1, LieI_cg h3 (e0 14) (e90 65) (e 89 (by omega)).1 (e 125 (by omega)).1, FltI_cg h4 (e0 15) (e0 16) (e90 2) (e90 3), ⟨M, T, mk, MemI_cg h5 (e 68 (by omega)).1 (e90 74) (e90 75) (fun p a b => (e p (by omega)).1) (fun p a b => (e p (by omega)).1)⟩, ⟨L, bt, TapI_cg h6 (e 4 (by omega)).1 (e90 1) (e 91 (by omega)).1 (e 5 (by omega)).1⟩, WrdI_cg h7 (e 6 (by omega)).2⟩
theorem Iv_q {t : Nat} {c : CDat} {S : SDat} {σ σ' : St} (h : Iv t c S σ) (a : Ag (fun p => ScX t p ∨ ScM p) σ σ') : Iv t c S σ' := by
  obtain ⟨ht, wf, ws, hd, ⟨rc, rs⟩, ⟨rm, ra, hx⟩, hr⟩ := h
  have tl := isT_le ht
  refine ⟨ht, wf, ws, hd, ⟨RepC_cg rc (fun p h1 h2 h3 => (a p (by unfold ScX ScM; omega)).1), RepS_cg rs (fun p h1 h2 => (a p (by unfold ScX ScM; omega)).1)⟩, ⟨RepM_cg rm (fun p hp => (a p (by unfold ScX ScM; omega)).1), RepA_cg ra (a 119 (by unfold ScX ScM; omega)).1, by rw [(a 90 (by unfold ScX ScM; omega)).1]; exact hx⟩, RestI_cg hr (fun p hp => a p (by unfold ScX ScM; omega))⟩
theorem Iv_x {t : Nat} {c : CDat} {S : SDat} {σ σ' : St} (h : Iv t c S σ) (a : Ag (ScX t) σ σ') : Iv t c S σ' := Iv_q h (ag_mono a (fun _ hp => Or.inl hp))
theorem Iv_m {t : Nat} {c : CDat} {S : SDat} {σ σ' : St} (h : Iv t c S σ) (a : Ag ScM σ σ') : Iv t c S σ' := Iv_q h (ag_mono a (fun _ hp => Or.inr hp))
/-- a question: both answer v, and only scratch has changed -/
theorem api_g {f g : (Nat → Nat → Nat) → St → Option (Int32 × St)} (h : ∀ t c S σ, Iv t c S σ → ∃ v, Ok (f (RR t) σ) (fun r σ' => r = v ∧ Ag (ScX t) σ σ') ∧ ∀ σ1, Iv t c S σ1 → Ag (ScX t) σ σ1 → Ok (g (RR t) σ1) (fun r σ' => r = v ∧ Ag ScM σ1 σ')) : Api Inv f g := by
  intro ρ σ hI
  obtain ⟨t, c, S, rfl, hi⟩ := hI
  obtain ⟨v, ⟨r1, σ1, e1, rfl, a1⟩, h2⟩ := h t c S σ hi
  have hi1 := Iv_x hi a1
  obtain ⟨r2, σ2, e2, rfl, a2⟩ := h2 σ1 hi1 a1
  exact ⟨r2, σ1, σ2, e1, e2, t, c, S, rfl, Iv_m hi1 a2⟩
/-- a question of what is told and what is so -/
theorem api_q {f g : (Nat → Nat → Nat) → St → Option (Int32 × St)} (V : CDat → SDat → Int32) (hf : ∀ t c S σ, isT t → WfC c → WfS c S → S 4 0 ≤ 999 → RepC t c σ → RepS 41 c S σ → Ok (f (RR t) σ) (fun r σ' => r = V c S ∧ Ag (ScX t) σ σ'))
    (hg : ∀ t c S σ, WfC c → WfS c S → S 4 0 ≤ 999 → RepM c σ → RepA 119 c S σ → σ.1 90 27 = 0 → Ok (g (RR t) σ) (fun r σ' => r = V c S ∧ Ag ScM σ σ')) : Api Inv f g :=
  api_g (fun t c S σ hi => ⟨V c S, hf t c S σ hi.1 hi.2.1 hi.2.2.1 hi.2.2.2.1 hi.2.2.2.2.1.1 hi.2.2.2.2.1.2, fun σ1 hi1 _ => hg t c S σ1 hi1.2.1 hi1.2.2.1 hi1.2.2.2.1 hi1.2.2.2.2.2.1.1 hi1.2.2.2.2.2.1.2.1 hi1.2.2.2.2.2.1.2.2⟩)
theorem sc_x {t : Nat} {σ σ' : St} (a : Ag (Sc t) σ σ') : Ag (ScX t) σ σ' := ag_mono a (fun p hp => by unfold Sc at hp; unfold ScX; omega)
theorem sm_m {σ σ' : St} (a : Ag Sm σ σ') : Ag ScM σ σ' := ag_mono a (fun p hp => by unfold Sm at hp; unfold ScM; omega)
theorem se_m {σ σ' : St} (a : Ag Se σ σ') : Ag ScM σ σ' := ag_mono a (fun p hp => by unfold Se at hp; unfold ScM; omega)
theorem ag0 {S : Nat → Prop} {σ σ' : St} (a : Ag (fun _ => False) σ σ') : Ag S σ σ' := ag_mono a (fun _ hp => hp.elim)
/-- the model's air filled -/
theorem m_fill {N t : Nat} {ρ : Nat → Nat → Nat} {c : CDat} {S : SDat} {σ : St} {k : Int32 → St → Option (Int32 × St)} {Q : Int32 → St → Prop} (hN : 20000 ≤ N) (hρ : ρ = RR t) (wf : WfC c) (rm : RepM c σ) (ra : RepA 119 c S σ) (hx : σ.1 90 27 = 0) (h : ∀ r σ', Ag (fun p => p = 120) σ σ' → RepM c σ' → RepA 120 c S σ' → RepA 119 c S σ' → σ'.1 90 = σ.1 90 → σ'.1 90 27 = 0 → Ok (k r σ') Q) : Ok (bnd (f_X12_fill N ρ 90 σ) k) Q := by
  refine ok_call (s_fill hN hρ) (fun r σ' hp => ?_)
  obtain ⟨h1, a⟩ := hp
  have e90 : σ'.1 90 = σ.1 90 := (a 90 (by decide)).1
  exact h r σ' a (RepM_cg rm (fun p hp => (a p (by omega)).1)) (RepA_mv ra wf.2.1 h1) (RepA_cg ra (a 119 (by decide)).1) e90 (by rw [e90]; exact hx)
theorem isIn_eq {N : Nat} {ρ : Nat → Nat → Nat} {x a b : Int32} {σ : St} : f_X12_isIn N ρ x a b σ = some (if x < a ∨ b < x then 0 else 1, σ) := by
  unfold f_X12_isIn f_X12_isIn_14 f_X12_isIn_15
  by_cases h1 : x < a
  · rw [if_pos h1, if_pos (Or.inl h1)]; rfl
  · by_cases h2 : b < x
    · rw [if_neg h1, if_pos h2, if_pos (Or.inr h2)]; rfl
    · rw [if_neg h1, if_neg h2, if_neg (fun z => z.elim h1 h2)]; rfl
theorem nm1_lt {n : Nat} {x : Int32} (hn : n < 2 ^ 30) : nI n - 1 < x ↔ nI n ≤ x ∧ 0 ≤ x ∨ (n = 0 ∧ 0 ≤ x) := by
  have e : (nI n - nI 1).toInt = (n : Int) - 1 := pk_sub_toInt hn (by decide)
  have e : (nI n - 1).toInt = (n : Int) - 1 := e
  have e2 : (0 : Int32).toInt = 0 := rfl
  rw [Int32.lt_iff_toInt_lt, Int32.le_iff_toInt_le, Int32.le_iff_toInt_le, e, nI_toInt (by omega)]
  omega
theorem isIn_y {N n k : Nat} {ρ : Nat → Nat → Nat} {σ : St} (hn : n < 2 ^ 30) (h : k < n) : f_X12_isIn N ρ (nI k) 0 (nI n - 1) σ = some (1, σ) := by
  rw [isIn_eq, if_neg]
  rintro (z | z)
  · exact nI_pos (by omega) z
  · rw [nm1_lt hn] at z
    rcases z with z | z
    · exact nI_ge h (by omega) z.1
    · omega
theorem isIn_n {N n : Nat} {ρ : Nat → Nat → Nat} {x : Int32} {σ : St} (hn : n < 2 ^ 30) (h : x < 0 ∨ nI n ≤ x) : f_X12_isIn N ρ x 0 (nI n - 1) σ = some (0, σ) := by
  rw [isIn_eq, if_pos]
  by_cases z : x < 0
  · exact Or.inl z
  · rcases h with h | h
    · exact absurd h z
    · exact Or.inr ((nm1_lt hn).mpr (Or.inl ⟨h, i_nlt.mp z⟩))
theorem isH_y {N k : Nat} {ρ : Nat → Nat → Nat} {c : CDat} {σ : St} (wf : WfC c) (rm : RepM c σ) (h : k < nh c) : f_X12_isHearth N ρ 90 (nI k) σ = some (1, σ) := by
  have := wf.1
  unfold f_X12_isHearth
  rw [rm.1, isIn_y (by omega) h]
  rfl
theorem isH_n {N : Nat} {ρ : Nat → Nat → Nat} {c : CDat} {x : Int32} {σ : St} (wf : WfC c) (rm : RepM c σ) (h : x < 0 ∨ nI (nh c) ≤ x) : f_X12_isHearth N ρ 90 x σ = some (0, σ) := by
  have := wf.1
  unfold f_X12_isHearth
  rw [rm.1, isIn_n (by omega) h]
  rfl
theorem isS_y {N k : Nat} {ρ : Nat → Nat → Nat} {c : CDat} {σ : St} (wf : WfC c) (rm : RepM c σ) (h : k < ns c) : f_X12_isStool N ρ 90 (nI k) σ = some (1, σ) := by
  have := wf.2.1
  unfold f_X12_isStool
  rw [rm.2.1, isIn_y (by omega) h]
  rfl
theorem isS_n {N : Nat} {ρ : Nat → Nat → Nat} {c : CDat} {x : Int32} {σ : St} (wf : WfC c) (rm : RepM c σ) (h : x < 0 ∨ nI (ns c) ≤ x) : f_X12_isStool N ρ 90 x σ = some (0, σ) := by
  have := wf.2.1
  unfold f_X12_isStool
  rw [rm.2.1, isIn_n (by omega) h]
  rfl
/-- an argument is a number below n, or none such -/
theorem ix_of (x : Int32) {n : Nat} (hn : n < 2 ^ 31) : (∃ k, k < n ∧ x = nI k) ∨ (x < 0 ∨ nI n ≤ x) := by
  rcases pk_ix x hn with h | h | h
  · exact Or.inr (Or.inl h)
  · exact Or.inr (Or.inr h)
  · exact Or.inl h
def ixN (x : Int32) (n : Nat) : Nat := if x < 0 ∨ nI n ≤ x then n else x.toNatClampNeg
