/-! the shape, by program -/
def shB (Γ : SG) (ρ : Nat → Nat → Nat) : Bool := (List.range Γ.length).all (fun p => match Γ[p]? with
  | some (0, ci) => (List.range (fcnt ci)).all (fun k => !(fty ci k == 2) || decide (Γ[ρ p k]? = some (kt ci k)))
  | some (5, n) => (List.range n).all (fun j => decide (Γ[ρ p j]? = some (1, if n = 2 then 6 else 7)))
  | _ => true)
theorem sh_of {Γ : SG} {ρ : Nat → Nat → Nat} (h : shB Γ ρ = true) : Sh Γ ρ := by
  have h := List.all_eq_true.mp h
  refine ⟨fun p ci k hp hk => ?_, fun p n j hp hj => ?_⟩
  · have h1 := h p (List.mem_range.mpr (List.getElem?_eq_some_iff.mp hp).1)
    rw [hp] at h1
    have hkl : k < fcnt ci := by
      by_cases hl : k < fcnt ci
      · exact hl
      · have e : fty ci k = 0 := by
          unfold fty
          rw [List.getD_eq_getElem?_getD, List.getElem?_eq_none (by unfold fcnt at hl; omega)]
          rfl
        omega
    have h2 := List.all_eq_true.mp h1 k (List.mem_range.mpr hkl)
    simpa [hk] using h2
  · have h1 := h p (List.mem_range.mpr (List.getElem?_eq_some_iff.mp hp).1)
    rw [hp] at h1
    have h2 := List.all_eq_true.mp h1 j (List.mem_range.mpr hj)
    simpa using h2
/-- the words' numbers -/
def WT (k : Nat) : Int64 := ([0, 8554201, 427481, 755277, 136660, 659111367, 4153, 498, 1476, 14836, 273730184, 52, 605677, 20594156, 3740836, 2262611, 24282707, 19978419, 114052, 149559] : List Int64).getD k 0

def f_X5_init_122 (N : Nat) (ρ : Nat → Nat → Nat) (this : Nat) (rec63 : Int32 → Int32 → St → Option (Int32 × St)) (x1 : Int32) (x2 : Int32) (σ : St) : Option (Int32 × St) :=
  rec63 x1 (x2 + 1) σ
def f_X5_init_128 (N : Nat) (ρ : Nat → Nat → Nat) (this : Nat) (σ : St) : Option (Int32 × St) :=
  some (0, σ)
def b_X5_init_63 (N : Nat) (ρ : Nat → Nat → Nat) (this : Nat) (rec63 : Int32 → Int32 → St → Option (Int32 × St)) (x1 : Int32) (x2 : Int32) (σ : St) : Option (Int32 × St) :=
  bnd (f_J0_length_8abf5 N ρ 0 σ) fun r1 σ2 =>
  if r1 ≤ (x2 : Int32) then
    f_X5_init_128 N ρ this σ2
  else
    if (nI 20) ≤ (x1 : Int32) then
      f_X5_init_128 N ρ this σ2
    else
      bnd (f_J0_charAt_5068e N ρ 0 x2 σ2) fun r6 σ7 =>
      if (r6 : Int32) = 32 then
        f_X5_init_122 N ρ this rec63 (x1 + 1) x2 σ7
      else
        gd (ib x1 20) <|
        gd (ib x1 20) <|
        nmd (sJ σ7 (ρ this 1) x1.toNatClampNeg (((σ7.2 (ρ this 1) x1.toNatClampNeg) * (32)) + ((r6 - 96).toInt64))) fun σ12 =>
        f_X5_init_122 N ρ this rec63 x1 x2 σ12
def f_X5_init_63 (N : Nat) (ρ : Nat → Nat → Nat) (this : Nat) : Nat → Int32 → Int32 → St → Option (Int32 × St)
  | 0, _, _, _ => none
  | n + 1, x1, x2, σ => b_X5_init_63 N ρ this (f_X5_init_63 N ρ this n) x1 x2 σ
def f_X5_init_s59 (N : Nat) (ρ : Nat → Nat → Nat) (this : Nat) (σ : St) : Option (Int32 × St) :=
  f_X5_init_63 N ρ this N 1 0 σ
set_option maxRecDepth 100000 in
set_option maxHeartbeats 4000000 in
theorem w_X5_init_122 {N : Nat} {Γ : SG} {ρ : Nat → Nat → Nat} {kc ks : Nat} (hs : Sh Γ ρ) {this : Nat} (h0 : Γ[this]? = some (0, 5)) {n0 : Nat} {r : Int32} {σr : St} (rec63 : Int32 → Int32 → St → Option (Int32 × St)) (hrec63 : ∀ (x1 : Int32) (x2 : Int32) (σ : St), rec63 x1 x2 σ = some (r, σr) → Go mX5_init 4 kc ks n0 (Kv Γ ρ σr) kc ks 63 [some (.ref this), some (.int x1), some (.int x2), none] [] (hp Γ ρ σ)) (x1 : Int32) (x2 : Int32) (σ : St) (hf : f_X5_init_122 N ρ this rec63 x1 x2 σ = some (r, σr)) : Go mX5_init 4 kc ks n0 (Kv Γ ρ σr) kc ks 122 [some (.ref this), some (.int x1), some (.int x2), none] [] (hp Γ ρ σ) := by
  unfold f_X5_init_122 at hf
  refine go_iinc (x2 + 1) [some (.ref this), some (.int x1), some (.int (x2 + 1)), none] dX5_init_122 rfl rfl (by decide) rfl ?_
  refine go_goto 63 dX5_init_125 (by decide) ?_
  exact hrec63 x1 (x2 + 1) σ hf
set_option maxRecDepth 100000 in
set_option maxHeartbeats 4000000 in
theorem w_X5_init_128 {N : Nat} {Γ : SG} {ρ : Nat → Nat → Nat} {kc ks : Nat} (hs : Sh Γ ρ) {this : Nat} (h0 : Γ[this]? = some (0, 5)) {n0 : Nat} {r : Int32} {σr : St} (σ : St) (hf : f_X5_init_128 N ρ this σ = some (r, σr)) : Go mX5_init 4 kc ks n0 (Kv Γ ρ σr) kc ks 128 [none, none, none, none] [] (hp Γ ρ σ) := by
  unfold f_X5_init_128 at hf
  cases hf
  exact go_vret rfl dX5_init_128 (Nat.le_refl _) ⟨rfl, rfl⟩
set_option maxRecDepth 100000 in
set_option maxHeartbeats 4000000 in
theorem v_X5_init_63 {N : Nat} {Γ : SG} {ρ : Nat → Nat → Nat} {kc ks : Nat} (hs : Sh Γ ρ) {this : Nat} (h0 : Γ[this]? = some (0, 5)) {n0 : Nat} {r : Int32} {σr : St} (rec63 : Int32 → Int32 → St → Option (Int32 × St)) (hrec63 : ∀ (x1 : Int32) (x2 : Int32) (σ : St), rec63 x1 x2 σ = some (r, σr) → Go mX5_init 4 kc ks n0 (Kv Γ ρ σr) kc ks 63 [some (.ref this), some (.int x1), some (.int x2), none] [] (hp Γ ρ σ)) (x1 : Int32) (x2 : Int32) (σ : St) (hf : b_X5_init_63 N ρ this rec63 x1 x2 σ = some (r, σr)) : Go mX5_init 4 kc ks n0 (Kv Γ ρ σr) kc ks 63 [some (.ref this), some (.int x1), some (.int x2), none] [] (hp Γ ρ σ) := by
  unfold b_X5_init_63 at hf
  refine go_iload_n 2 dX5_init_63 rfl rfl ?_
  refine go_lds0 rfl dX5_init_64 ?_
  obtain ⟨r1, σ2, q3, hf⟩ := bnd_some hf
  refine go_Ri (av := []) (rest := [.int x2]) (by decide) (t_J0_length_8abf5 hs (by decide) q3) ok_J0_length_8abf5 ml_X5_47 dX5_init_66 rfl rfl (by decide) (Nat.le_refl _) (Nat.le_refl _) (Nat.le_of_ble_eq_true rfl) ?_
  refine go_icmp_ge 128 dX5_init_69 (by decide) (fun c4 => ?_) (fun c4 => ?_)
  · replace hf := (if_pos c4).symm.trans hf
    refine go_msk [false, false, false, false] [none, none, none, none] rfl ?_
    exact w_X5_init_128 hs h0 σ2 hf
  · replace hf := (if_neg c4).symm.trans hf
    refine go_iload_n 1 dX5_init_72 rfl rfl ?_
    refine go_aload_n 0 dX5_init_73 rfl rfl ?_
    refine go_fR fl_X5_18 dX5_init_74 h0 (by decide) rfl ?_
    refine go_len dX5_init_77 (hs.1 _ 5 1 h0 rfl) (by decide) ?_
    refine go_icmp_ge 128 dX5_init_78 (by decide) (fun c5 => ?_) (fun c5 => ?_)
    · replace hf := (if_pos c5).symm.trans hf
      refine go_msk [false, false, false, false] [none, none, none, none] rfl ?_
      exact w_X5_init_128 hs h0 σ2 hf
    · replace hf := (if_neg c5).symm.trans hf
      refine go_lds0 rfl dX5_init_81 ?_
      refine go_iload_n 2 dX5_init_83 rfl rfl ?_
      obtain ⟨r6, σ7, q8, hf⟩ := bnd_some hf
      refine go_Ri (av := [.int x2]) (rest := []) (by decide) (t_J0_charAt_5068e hs (by decide) q8) ok_J0_charAt_5068e ml_X5_53 dX5_init_84 rfl rfl (by decide) (Nat.le_refl _) (Nat.le_refl _) (Nat.le_of_ble_eq_true rfl) ?_
      refine go_istore_n 3 [some (.ref this), some (.int x1), some (.int x2), some (.int r6)] dX5_init_87 rfl (by decide) rfl ?_
      refine go_iload_n 3 dX5_init_88 rfl rfl ?_
      refine go_bipush 32 dX5_init_89 (by decide) ?_
      refine go_icmp_ne 100 dX5_init_91 (by decide) (fun c9 => ?_) (fun c9 => ?_)
      · replace hf := (if_neg c9).symm.trans hf
        refine go_aload_n 0 dX5_init_100 rfl rfl ?_
        refine go_fR fl_X5_18 dX5_init_101 h0 (by decide) rfl ?_
        refine go_iload_n 1 dX5_init_104 rfl rfl ?_
        refine go_aload_n 0 dX5_init_105 rfl rfl ?_
        refine go_fR fl_X5_18 dX5_init_106 h0 (by decide) rfl ?_
        refine go_iload_n 1 dX5_init_109 rfl rfl ?_
        obtain ⟨g10, hf⟩ := gd_some hf
        refine go_rJ dX5_init_110 (hs.1 _ 5 1 h0 rfl) (ib_in g10) ?_
        refine go_ldc2 (32) dX5_init_111 cn_X5_57 ?_
        refine go_lmul dX5_init_114 ?_
        refine go_iload_n 3 dX5_init_115 rfl rfl ?_
        refine go_bipush 96 dX5_init_116 (by decide) ?_
        refine go_isub dX5_init_118 ?_
        refine go_i2l dX5_init_119 ?_
        refine go_ladd dX5_init_120 ?_
        obtain ⟨g11, hf⟩ := gd_some hf
        obtain ⟨σ12, eσ12, hf⟩ := nmd_some hf
        refine go_wJ dX5_init_121 (hs.1 _ 5 1 h0 rfl) (ib_in g11) ?_
        rw [eσ12]
        refine go_msk [true, true, true, false] [some (.ref this), some (.int x1), some (.int x2), none] rfl ?_
        exact w_X5_init_122 hs h0 rec63 hrec63 x1 x2 σ12 hf
      · replace hf := (if_pos c9).symm.trans hf
        refine go_iinc (x1 + 1) [some (.ref this), some (.int (x1 + 1)), some (.int x2), some (.int r6)] dX5_init_94 rfl rfl (by decide) rfl ?_
        refine go_goto 122 dX5_init_97 (by decide) ?_
        refine go_msk [true, true, true, false] [some (.ref this), some (.int (x1 + 1)), some (.int x2), none] rfl ?_
        exact w_X5_init_122 hs h0 rec63 hrec63 (x1 + 1) x2 σ7 hf
theorem w_X5_init_63 {N : Nat} {Γ : SG} {ρ : Nat → Nat → Nat} {kc ks : Nat} (hs : Sh Γ ρ) {this : Nat} (h0 : Γ[this]? = some (0, 5)) {n0 : Nat} {r : Int32} {σr : St} : ∀ (n : Nat) (x1 : Int32) (x2 : Int32) (σ : St), f_X5_init_63 N ρ this n x1 x2 σ = some (r, σr) → Go mX5_init 4 kc ks n0 (Kv Γ ρ σr) kc ks 63 [some (.ref this), some (.int x1), some (.int x2), none] [] (hp Γ ρ σ) := by
  intro n
  induction n with
  | zero => intro x1 x2 σ hf; cases hf
  | succ n ih => intro x1 x2 σ hf; exact v_X5_init_63 hs h0 _ ih x1 x2 σ hf
set_option maxRecDepth 100000 in
set_option maxHeartbeats 4000000 in
theorem w_X5_init_s59 {N : Nat} {Γ : SG} {ρ : Nat → Nat → Nat} {kc ks : Nat} (hs : Sh Γ ρ) {this : Nat} (h0 : Γ[this]? = some (0, 5)) {n0 : Nat} {σ : St} {r : Int32} {σr : St} (hf : f_X5_init_s59 N ρ this σ = some (r, σr)) : Go mX5_init 4 kc ks n0 (Kv Γ ρ σr) kc ks 59 [some (.ref this), none, none, none] [] (hp Γ ρ σ) := by
  unfold f_X5_init_s59 at hf
  refine go_iconst 1 dX5_init_59 (by decide) ?_
  refine go_istore_n 1 [some (.ref this), some (.int 1), none, none] dX5_init_60 rfl (by decide) rfl ?_
  refine go_iconst 0 dX5_init_61 (by decide) ?_
  refine go_istore_n 2 [some (.ref this), some (.int 1), some (.int 0), none] dX5_init_62 rfl (by decide) rfl ?_
  exact w_X5_init_63 hs h0 N 1 0 σ hf
theorem m_X5_init_122 {N : Nat} {ρ : Nat → Nat → Nat} {this : Nat} {r : Int32} {σr : St} (rec63 : Int32 → Int32 → St → Option (Int32 × St)) (hrec63 : ∀ (x1 : Int32) (x2 : Int32) (σ : St), rec63 x1 x2 σ = some (r, σr) → Ag (fun p => p = ρ this 1) σ σr) (x1 : Int32) (x2 : Int32) (σ : St) (hf : f_X5_init_122 N ρ this rec63 x1 x2 σ = some (r, σr)) : Ag (fun p => p = ρ this 1) σ σr := by
  unfold f_X5_init_122 at hf
  exact hrec63 _ _ _ hf
theorem m_X5_init_128 {N : Nat} {ρ : Nat → Nat → Nat} {this : Nat} {r : Int32} {σr : St} (σ : St) (hf : f_X5_init_128 N ρ this σ = some (r, σr)) : Ag (fun p => p = ρ this 1) σ σr := by
  unfold f_X5_init_128 at hf
  cases hf
  exact ag_refl
theorem k_X5_init_63 {N : Nat} {ρ : Nat → Nat → Nat} {this : Nat} {r : Int32} {σr : St} (rec63 : Int32 → Int32 → St → Option (Int32 × St)) (hrec63 : ∀ (x1 : Int32) (x2 : Int32) (σ : St), rec63 x1 x2 σ = some (r, σr) → Ag (fun p => p = ρ this 1) σ σr) (x1 : Int32) (x2 : Int32) (σ : St) (hf : b_X5_init_63 N ρ this rec63 x1 x2 σ = some (r, σr)) : Ag (fun p => p = ρ this 1) σ σr := by
  unfold b_X5_init_63 at hf
  obtain ⟨_, σ2, q1, hf⟩ := bnd_some hf
  refine ag_call (m_J0_length_8abf5 q1) (fun _ h => h.elim) ?_
  rcases ite_some hf with ⟨_, hf⟩ | ⟨_, hf⟩
  · skip
    exact m_X5_init_128 _ hf
  · skip
    rcases ite_some hf with ⟨_, hf⟩ | ⟨_, hf⟩
    · skip
      exact m_X5_init_128 _ hf
    · skip
      obtain ⟨_, σ7, q2, hf⟩ := bnd_some hf
      refine ag_call (m_J0_charAt_5068e q2) (fun _ h => h.elim) ?_
      rcases ite_some hf with ⟨_, hf⟩ | ⟨_, hf⟩
      · skip
        exact m_X5_init_122 rec63 hrec63 _ _ _ hf
      · skip
        obtain ⟨_, hf⟩ := gd_some hf
        obtain ⟨_, hf⟩ := gd_some hf
        obtain ⟨σ12, eσ12, hf⟩ := nmd_some hf
        refine ag_J eσ12 rfl ?_
        exact m_X5_init_122 rec63 hrec63 _ _ _ hf
theorem m_X5_init_63 {N : Nat} {ρ : Nat → Nat → Nat} {this : Nat} {r : Int32} {σr : St} : ∀ (n : Nat) (x1 : Int32) (x2 : Int32) (σ : St), f_X5_init_63 N ρ this n x1 x2 σ = some (r, σr) → Ag (fun p => p = ρ this 1) σ σr := by
  intro n
  induction n with
  | zero => intro x1 x2 σ hf; cases hf
  | succ n ih => intro x1 x2 σ hf; exact k_X5_init_63 _ ih x1 x2 σ hf
theorem m_X5_init_s59 {N : Nat} {ρ : Nat → Nat → Nat} {this : Nat} {r : Int32} {σr : St} {σ : St} (hf : f_X5_init_s59 N ρ this σ = some (r, σr)) : Ag (fun p => p = ρ this 1) σ σr := by
  unfold f_X5_init_s59 at hf
  exact m_X5_init_63 N _ _ _ hf
def lexH : HL := [.inr (5, [.ref 1, .ref 3, .int 0, .int 0, .int 102, .int 0, .long 0, .int 0, .int (-1)]), .inr (10, [.ref 2, .int 0]), zB 1600, zJ 20]
theorem lexH_ok : ∀ (p : Nat) (e : va_E), lexH[p]? = some e → okE e := by
  intro p e h
  match p, h with
  | 0, h => cases h; exact ⟨rfl, by decide⟩
  | 1, h => cases h; exact ⟨rfl, by decide⟩
  | 2, h => cases h; first | exact Or.inl rfl | exact Or.inr (Or.inl rfl) | exact Or.inr (Or.inr rfl) | exact rfl
  | 3, h => cases h; first | exact Or.inl rfl | exact Or.inr (Or.inl rfl) | exact Or.inr (Or.inr rfl) | exact rfl
  | n + 4, h => simp [lexH] at h
theorem lex_sh : Sh (lexH.map kindOf) (rhoOf lexH) := sh_of (by decide +kernel)
theorem lex_run : ((f_X5_init_s59 200 (rhoOf lexH) 0 (sgI lexH, sgJ lexH)).map (fun q => (List.range 20).map (q.2.2 3))) = some ((List.range 20).map WT) := by decide +kernel
theorem lex_words : ∃ (r : Int32) (σ' : St), f_X5_init_s59 200 (rhoOf lexH) 0 (sgI lexH, sgJ lexH) = some (r, σ') ∧ ∀ k, k < 20 → σ'.2 3 k = WT k := by
  have h := lex_run
  cases hf : f_X5_init_s59 200 (rhoOf lexH) 0 (sgI lexH, sgJ lexH) with
  | none => rw [hf] at h; cases h
  | some q =>
    rw [hf] at h
    have h := Option.some.inj h
    refine ⟨q.1, q.2, rfl, fun k hk => ?_⟩
    have h1 := congrArg (fun l : List Int64 => l[k]?) h
    simp only [List.getElem?_map, List.getElem?_range hk] at h1
    exact Option.some.inj h1
theorem lex_back {r : Int32} {σ' : St} (hf : f_X5_init_s59 200 (rhoOf lexH) 0 (sgI lexH, sgJ lexH) = some (r, σ')) : hp (lexH.map kindOf) (rhoOf lexH) σ' = [.inr (5, [.ref 1, .ref 3, .int 0, .int 0, .int 102, .int 0, .long 0, .int 0, .int (-1)]), .inr (10, [.ref 2, .int 0]), zB 1600, .inl (3, 20, .inr (.inl (σ'.2 3)))] := by
  have ha := m_X5_init_s59 hf
  have hw : rhoOf lexH 0 1 = 3 := by decide
  rw [hw] at ha
  have h1 := hp_set (Γ := lexH.map kindOf) (ρ := rhoOf lexH) (σ := (sgI lexH, sgJ lexH)) (σ' := σ') (b := 3) (q := (4, 20)) (e := .inl (3, 20, .inr (.inl (σ'.2 3)))) rfl rfl (fun p hq => (ha p hq).1) (fun p hq => (ha p hq).2)
  rw [← h1, of_hl lexH lexH_ok]
  rfl
set_option maxRecDepth 100000 in
set_option maxHeartbeats 4000000 in
theorem t_X5_init : Tri mX5_init 4 3 1622 [.ref 0] [.inr (5, [.null, .null, .int 0, .int 0, .int 0, .int 0, .long 0, .int 0, .int 0])] (fun v μ => v = none ∧ ∃ (W : Nat → Int64), (∀ k, k < 20 → W k = WT k) ∧ μ = [.inr (5, [.ref 1, .ref 3, .int 0, .int 0, .int 102, .int 0, .long 0, .int 0, .int (-1)]), .inr (10, [.ref 2, .int 0]), zB 1600, .inl (3, 20, .inr (.inl W))]) := by
  refine tri_of [some (.ref 0), none, none, none] (plainFor_of_name rfl) rfl (Nat.le_of_ble_eq_true rfl) ?_
  refine go_aload_n 0 dX5_init_0 rfl rfl ?_
  refine go_obj ml_X5_3 oi_i oi_c dX5_init_1 (by decide) (Nat.le_of_ble_eq_true rfl) ?_
  refine go_aload_n 0 dX5_init_4 rfl rfl ?_
  refine go_new cl_X5_9 is_X10 in_X10 (ci := 10) rfl tyX10 tyX10_ok [.null, .int 0] (by decide +kernel) (fun _ _ => rfl) (by decide) (by decide) dX5_init_5 1 rfl ?_
  refine go_dup dX5_init_8 rfl ?_
  refine go_callIN (av := []) (rest := [.ref 1, .ref 0]) [1] t_X10_init ok_X10_init rfl mn_X5_11 dX5_init_9 rfl rfl rfl rfl (by decide) (by decide) (by decide) (Nat.le_of_ble_eq_true rfl) (fun v μs h => ?_)
  obtain ⟨rfl, rfl⟩ := h
  refine go_mu [.inr (5, [.null, .null, .int 0, .int 0, .int 0, .int 0, .long 0, .int 0, .int 0]), .inr (10, [.ref 2, .int 0]), zB 1600] rfl ?_
  show Go _ _ _ _ _ _ _ _ _ _ [.ref 1, .ref 0] _
  refine go_putF [.inr (5, [.ref 1, .null, .int 0, .int 0, .int 0, .int 0, .long 0, .int 0, .int 0]), .inr (10, [.ref 2, .int 0]), zB 1600] fl_X5_12 ft_5_0 rfl (fun C T N h => by cases h; rfl) (okv_o _ _) dX5_init_12 rfl (by decide) rfl ?_
  refine go_aload_n 0 dX5_init_15 rfl rfl ?_
  refine go_bipush 20 dX5_init_16 (by decide) ?_
  refine go_newa (t := 3) (N' := 20) ac_long rfl (fun _ => rfl) ⟨fun h => (by cases h), fun _ h => (by cases h)⟩ zJ_cell (by decide) (by decide) (by decide) (by decide) (by decide) dX5_init_18 3 rfl ?_
  refine go_putF [.inr (5, [.ref 1, .ref 3, .int 0, .int 0, .int 0, .int 0, .long 0, .int 0, .int 0]), .inr (10, [.ref 2, .int 0]), zB 1600, zJ 20] fl_X5_18 ft_5_1 rfl (fun C T N h => by cases h; rfl) (okv_a _ _) dX5_init_20 rfl (by decide) rfl ?_
  refine go_aload_n 0 dX5_init_23 rfl rfl ?_
  refine go_iconst 0 dX5_init_24 (by decide) ?_
  refine go_put [.inr (5, [.ref 1, .ref 3, .int 0, .int 0, .int 0, .int 0, .long 0, .int 0, .int 0]), .inr (10, [.ref 2, .int 0]), zB 1600, zJ 20] fl_X5_22 ft_5_2 (okv_i _) dX5_init_25 rfl (by decide) rfl ?_
  refine go_aload_n 0 dX5_init_28 rfl rfl ?_
  refine go_iconst 0 dX5_init_29 (by decide) ?_
  refine go_put [.inr (5, [.ref 1, .ref 3, .int 0, .int 0, .int 0, .int 0, .long 0, .int 0, .int 0]), .inr (10, [.ref 2, .int 0]), zB 1600, zJ 20] fl_X5_26 ft_5_3 (okv_i _) dX5_init_30 rfl (by decide) rfl ?_
  refine go_aload_n 0 dX5_init_33 rfl rfl ?_
  refine go_bipush 102 dX5_init_34 (by decide) ?_
  refine go_put [.inr (5, [.ref 1, .ref 3, .int 0, .int 0, .int 102, .int 0, .long 0, .int 0, .int 0]), .inr (10, [.ref 2, .int 0]), zB 1600, zJ 20] fl_X5_29 ft_5_4 (okv_i _) dX5_init_36 rfl (by decide) rfl ?_
  refine go_aload_n 0 dX5_init_39 rfl rfl ?_
  refine go_iconst 0 dX5_init_40 (by decide) ?_
  refine go_put [.inr (5, [.ref 1, .ref 3, .int 0, .int 0, .int 102, .int 0, .long 0, .int 0, .int 0]), .inr (10, [.ref 2, .int 0]), zB 1600, zJ 20] fl_X5_32 ft_5_5 (okv_i _) dX5_init_41 rfl (by decide) rfl ?_
  refine go_aload_n 0 dX5_init_44 rfl rfl ?_
  refine go_lconst 0 dX5_init_45 rfl ?_
  refine go_put [.inr (5, [.ref 1, .ref 3, .int 0, .int 0, .int 102, .int 0, .long 0, .int 0, .int 0]), .inr (10, [.ref 2, .int 0]), zB 1600, zJ 20] fl_X5_35 ft_5_6 (okv_l _) dX5_init_46 rfl (by decide) rfl ?_
  refine go_aload_n 0 dX5_init_49 rfl rfl ?_
  refine go_iconst 0 dX5_init_50 (by decide) ?_
  refine go_put [.inr (5, [.ref 1, .ref 3, .int 0, .int 0, .int 102, .int 0, .long 0, .int 0, .int 0]), .inr (10, [.ref 2, .int 0]), zB 1600, zJ 20] fl_X5_39 ft_5_7 (okv_i _) dX5_init_51 rfl (by decide) rfl ?_
  refine go_aload_n 0 dX5_init_54 rfl rfl ?_
  refine go_iconst (-1) dX5_init_55 (by decide) ?_
  refine go_put [.inr (5, [.ref 1, .ref 3, .int 0, .int 0, .int 102, .int 0, .long 0, .int 0, .int (-1)]), .inr (10, [.ref 2, .int 0]), zB 1600, zJ 20] fl_X5_42 ft_5_8 (okv_i _) dX5_init_56 rfl (by decide) rfl ?_
  refine go_mu (hp (lexH.map kindOf) (rhoOf lexH) (sgI lexH, sgJ lexH)) (of_hl lexH lexH_ok).symm ?_
  obtain ⟨r, σ', hf, hw⟩ := lex_words
  refine go_mono (K := Kv (lexH.map kindOf) (rhoOf lexH) σ') (fun v μ h => ⟨h.1, σ'.2 3, hw, by rw [h.2, lex_back hf]⟩) ?_
  exact w_X5_init_s59 lex_sh rfl hf
set_option maxRecDepth 100000 in
set_option maxHeartbeats 4000000 in
theorem t_X2_init : Tri mX2_init 5 4 1631 [.ref 0] [.inr (2, [.null])] (fun v μ => v = none ∧ ∃ (W : Nat → Int64), (∀ k, k < 20 → W k = WT k) ∧ μ = [.inr (2, [.ref 1]), .inr (5, [.ref 2, .ref 4, .int 0, .int 0, .int 102, .int 0, .long 0, .int 0, .int (-1)]), .inr (10, [.ref 3, .int 0]), zB 1600, .inl (3, 20, .inr (.inl W))]) := by
  refine tri_of [some (.ref 0)] (plainFor_of_name rfl) rfl (Nat.le_of_ble_eq_true rfl) ?_
  refine go_aload_n 0 dX2_init_0 rfl rfl ?_
  refine go_obj ml_X2_1 oi_i oi_c dX2_init_1 (by decide) (Nat.le_of_ble_eq_true rfl) ?_
  refine go_aload_n 0 dX2_init_4 rfl rfl ?_
  refine go_new cl_X2_7 is_X5 in_X5 (ci := 5) rfl tyX5 tyX5_ok [.null, .null, .int 0, .int 0, .int 0, .int 0, .long 0, .int 0, .int 0] (by decide +kernel) (fun _ _ => rfl) (by decide) (by decide) dX2_init_5 1 rfl ?_
  refine go_dup dX2_init_8 rfl ?_
  refine go_callI (av := []) (rest := [.ref 1, .ref 0]) [1] t_X5_init ok_X5_init rfl ml_X2_9 dX2_init_9 rfl rfl rfl rfl (by decide) (by decide) (by decide) (Nat.le_of_ble_eq_true rfl) (fun v μs h => ?_)
  obtain ⟨rfl, W, hW, rfl⟩ := h
  refine go_mu [.inr (2, [.null]), .inr (5, [.ref 2, .ref 4, .int 0, .int 0, .int 102, .int 0, .long 0, .int 0, .int (-1)]), .inr (10, [.ref 3, .int 0]), zB 1600, .inl (3, 20, .inr (.inl W))] rfl ?_
  show Go _ _ _ _ _ _ _ _ _ _ [.ref 1, .ref 0] _
  refine go_putF [.inr (2, [.ref 1]), .inr (5, [.ref 2, .ref 4, .int 0, .int 0, .int 102, .int 0, .long 0, .int 0, .int (-1)]), .inr (10, [.ref 3, .int 0]), zB 1600, .inl (3, 20, .inr (.inl W))] fl_X2_10 ft_2_0 rfl (fun C T N h => by cases h; rfl) (okv_o _ _) dX2_init_12 rfl (by decide) rfl ?_
  exact go_vret rfl dX2_init_15 (by decide) ⟨rfl, W, hW, rfl⟩
set_option maxRecDepth 100000 in
set_option maxHeartbeats 4000000 in
theorem t_X7_init : Tri mX7_init 6 7 1643 [.ref 0] [.inr (7, [.null, .null, .null, .null, .int 0, .int 0])] (fun v μ => v = none ∧ ∃ (W : Nat → Int64), (∀ k, k < 20 → W k = WT k) ∧ μ = [.inr (7, [.ref 1, .ref 2, .ref 6, .ref 7, .int 0, .int 0]), .inr (2, [.ref 2]), .inr (5, [.ref 3, .ref 5, .int 0, .int 0, .int 102, .int 0, .long 0, .int 0, .int (-1)]), .inr (10, [.ref 4, .int 0]), zB 1600, .inl (3, 20, .inr (.inl W)), zJ 6, zJ 5]) := by
  refine tri_of [some (.ref 0)] (plainFor_of_name rfl) rfl (Nat.le_of_ble_eq_true rfl) ?_
  refine go_aload_n 0 dX7_init_0 rfl rfl ?_
  refine go_obj ml_X7_1 oi_i oi_c dX7_init_1 (by decide) (Nat.le_of_ble_eq_true rfl) ?_
  refine go_aload_n 0 dX7_init_4 rfl rfl ?_
  refine go_new cl_X7_7 is_X2 in_X2 (ci := 2) rfl tyX2 tyX2_ok [.null] (by decide +kernel) (fun _ _ => rfl) (by decide) (by decide) dX7_init_5 1 rfl ?_
  refine go_dup dX7_init_8 rfl ?_
  refine go_callIN (av := []) (rest := [.ref 1, .ref 0]) [1] t_X2_init ok_X2_init rfl mn_X7_9 dX7_init_9 rfl rfl rfl rfl (by decide) (by decide) (by decide) (Nat.le_of_ble_eq_true rfl) (fun v μs h => ?_)
  obtain ⟨rfl, W, hW, rfl⟩ := h
  refine go_mu [.inr (7, [.null, .null, .null, .null, .int 0, .int 0]), .inr (2, [.ref 2]), .inr (5, [.ref 3, .ref 5, .int 0, .int 0, .int 102, .int 0, .long 0, .int 0, .int (-1)]), .inr (10, [.ref 4, .int 0]), zB 1600, .inl (3, 20, .inr (.inl W))] rfl ?_
  show Go _ _ _ _ _ _ _ _ _ _ [.ref 1, .ref 0] _
  refine go_putF [.inr (7, [.ref 1, .null, .null, .null, .int 0, .int 0]), .inr (2, [.ref 2]), .inr (5, [.ref 3, .ref 5, .int 0, .int 0, .int 102, .int 0, .long 0, .int 0, .int (-1)]), .inr (10, [.ref 4, .int 0]), zB 1600, .inl (3, 20, .inr (.inl W))] fl_X7_10 ft_7_0 rfl (fun C T N h => by cases h; rfl) (okv_o _ _) dX7_init_12 rfl (by decide) rfl ?_
  refine go_aload_n 0 dX7_init_15 rfl rfl ?_
  refine go_aload_n 0 dX7_init_16 rfl rfl ?_
  refine go_get (.ref 1) fl_X7_10 dX7_init_17 rfl rfl ?_
  refine go_get (.ref 2) fl_X7_16 dX7_init_20 rfl rfl ?_
  refine go_putF [.inr (7, [.ref 1, .ref 2, .null, .null, .int 0, .int 0]), .inr (2, [.ref 2]), .inr (5, [.ref 3, .ref 5, .int 0, .int 0, .int 102, .int 0, .long 0, .int 0, .int (-1)]), .inr (10, [.ref 4, .int 0]), zB 1600, .inl (3, 20, .inr (.inl W))] fl_X7_20 ft_7_1 rfl (fun C T N h => by cases h; rfl) (okv_o _ _) dX7_init_23 rfl (by decide) rfl ?_
  refine go_aload_n 0 dX7_init_26 rfl rfl ?_
  refine go_bipush 6 dX7_init_27 (by decide) ?_
  refine go_newa (t := 3) (N' := 6) ac_long rfl (fun _ => rfl) ⟨fun h => (by cases h), fun _ h => (by cases h)⟩ zJ_cell (by decide) (by decide) (by decide) (by decide) (by decide) dX7_init_29 6 rfl ?_
  refine go_putF [.inr (7, [.ref 1, .ref 2, .ref 6, .null, .int 0, .int 0]), .inr (2, [.ref 2]), .inr (5, [.ref 3, .ref 5, .int 0, .int 0, .int 102, .int 0, .long 0, .int 0, .int (-1)]), .inr (10, [.ref 4, .int 0]), zB 1600, .inl (3, 20, .inr (.inl W)), zJ 6] fl_X7_23 ft_7_2 rfl (fun C T N h => by cases h; rfl) (okv_a _ _) dX7_init_31 rfl (by decide) rfl ?_
  refine go_aload_n 0 dX7_init_34 rfl rfl ?_
  refine go_iconst 5 dX7_init_35 (by decide) ?_
  refine go_newa (t := 3) (N' := 5) ac_long rfl (fun _ => rfl) ⟨fun h => (by cases h), fun _ h => (by cases h)⟩ zJ_cell (by decide) (by decide) (by decide) (by decide) (by decide) dX7_init_36 7 rfl ?_
  refine go_putF [.inr (7, [.ref 1, .ref 2, .ref 6, .ref 7, .int 0, .int 0]), .inr (2, [.ref 2]), .inr (5, [.ref 3, .ref 5, .int 0, .int 0, .int 102, .int 0, .long 0, .int 0, .int (-1)]), .inr (10, [.ref 4, .int 0]), zB 1600, .inl (3, 20, .inr (.inl W)), zJ 6, zJ 5] fl_X7_27 ft_7_3 rfl (fun C T N h => by cases h; rfl) (okv_a _ _) dX7_init_38 rfl (by decide) rfl ?_
  refine go_aload_n 0 dX7_init_41 rfl rfl ?_
  refine go_iconst 0 dX7_init_42 (by decide) ?_
  refine go_put [.inr (7, [.ref 1, .ref 2, .ref 6, .ref 7, .int 0, .int 0]), .inr (2, [.ref 2]), .inr (5, [.ref 3, .ref 5, .int 0, .int 0, .int 102, .int 0, .long 0, .int 0, .int (-1)]), .inr (10, [.ref 4, .int 0]), zB 1600, .inl (3, 20, .inr (.inl W)), zJ 6, zJ 5] fl_X7_30 ft_7_4 (okv_i _) dX7_init_43 rfl (by decide) rfl ?_
  refine go_aload_n 0 dX7_init_46 rfl rfl ?_
  refine go_iconst 0 dX7_init_47 (by decide) ?_
  refine go_put [.inr (7, [.ref 1, .ref 2, .ref 6, .ref 7, .int 0, .int 0]), .inr (2, [.ref 2]), .inr (5, [.ref 3, .ref 5, .int 0, .int 0, .int 102, .int 0, .long 0, .int 0, .int (-1)]), .inr (10, [.ref 4, .int 0]), zB 1600, .inl (3, 20, .inr (.inl W)), zJ 6, zJ 5] fl_X7_34 ft_7_5 (okv_i _) dX7_init_48 rfl (by decide) rfl ?_
  exact go_vret rfl dX7_init_51 (by decide) ⟨rfl, W, hW, rfl⟩
