def b_X12_four_3 (N : Nat) (ρ : Nat → Nat → Nat) (this : Nat) (a1 : Int32) (rec3 : Int32 → St → Option (Int32 × St)) (x2 : Int32) (σ : St) : Option (Int32 × St) :=
  if (x2 : Int32) < 0 then
    some (0, σ)
  else
    gd (ib (σ.1 this 1) 1600) <|
    nmd (sI σ (ρ this 0) (σ.1 this 1).toNatClampNeg ((a1 >>> (x2 &&& 31)) &&& 255)) fun σ3 =>
    nmd (sI σ3 this 1 ((σ3.1 this 1) + 1)) fun σ4 =>
    rec3 (x2 + (-8)) σ4
def f_X12_four_3 (N : Nat) (ρ : Nat → Nat → Nat) (this : Nat) (a1 : Int32) : Nat → Int32 → St → Option (Int32 × St)
  | 0, _, _ => none
  | n + 1, x2, σ => b_X12_four_3 N ρ this a1 (f_X12_four_3 N ρ this a1 n) x2 σ
def f_X12_four (N : Nat) (ρ : Nat → Nat → Nat) (this : Nat) (a1 : Int32) (σ : St) : Option (Int32 × St) :=
  f_X12_four_3 N ρ this a1 N 24 σ
set_option maxRecDepth 100000 in
set_option maxHeartbeats 4000000 in
theorem v_X12_four_3 {N : Nat} {Γ : SG} {ρ : Nat → Nat → Nat} (hs : Sh Γ ρ) {this : Nat} {a1 : Int32} (h0 : Γ[this]? = some (0, 12)) {n0 : Nat} {r : Int32} {σr : St} (rec3 : Int32 → St → Option (Int32 × St)) (hrec3 : ∀ (x2 : Int32) (σ : St), rec3 x2 σ = some (r, σr) → Go mX12_four 0 0 0 n0 (Kv Γ ρ σr) 0 0 3 [some (.ref this), some (.int a1), some (.int x2)] [] (hp Γ ρ σ)) (x2 : Int32) (σ : St) (hf : b_X12_four_3 N ρ this a1 rec3 x2 σ = some (r, σr)) : Go mX12_four 0 0 0 n0 (Kv Γ ρ σr) 0 0 3 [some (.ref this), some (.int a1), some (.int x2)] [] (hp Γ ρ σ) := by
  unfold b_X12_four_3 at hf
  refine go_iload_n 2 dX12_four_3 rfl rfl ?_
  refine go_if_lt 39 dX12_four_4 (by decide) (fun c1 => ?_) (fun c1 => ?_)
  · replace hf := (if_pos c1).symm.trans hf
    cases hf
    exact go_vret rfl dX12_four_39 (Nat.le_refl _) ⟨rfl, rfl⟩
  · replace hf := (if_neg c1).symm.trans hf
    refine go_aload_n 0 dX12_four_7 rfl rfl ?_
    refine go_fR fl_X12_7 dX12_four_8 h0 (by decide) rfl ?_
    refine go_aload_n 0 dX12_four_11 rfl rfl ?_
    refine go_fI fl_X12_166 dX12_four_12 h0 (by decide) rfl ?_
    refine go_iload_n 1 dX12_four_15 rfl rfl ?_
    refine go_iload_n 2 dX12_four_16 rfl rfl ?_
    refine go_ishr dX12_four_17 ?_
    refine go_sipush 255 dX12_four_18 (by decide) ?_
    refine go_iand dX12_four_21 ?_
    obtain ⟨g2, hf⟩ := gd_some hf
    obtain ⟨σ3, eσ3, hf⟩ := nmd_some hf
    refine go_wI dX12_four_22 (hs.1 _ 12 0 h0 rfl) (ib_in g2) ?_
    rw [eσ3]
    refine go_aload_n 0 dX12_four_23 rfl rfl ?_
    refine go_dup dX12_four_24 rfl ?_
    refine go_fI fl_X12_166 dX12_four_25 h0 (by decide) rfl ?_
    refine go_iconst 1 dX12_four_28 (by decide) ?_
    refine go_iadd dX12_four_29 ?_
    obtain ⟨σ4, eσ4, hf⟩ := nmd_some hf
    refine go_pI fl_X12_166 ft_12_1 (okv_i _) dX12_four_30 h0 (by decide) rfl ?_
    rw [eσ4]
    refine go_iinc (x2 + (-8)) [some (.ref this), some (.int a1), some (.int (x2 + (-8)))] dX12_four_33 rfl rfl (by decide) rfl ?_
    refine go_goto 3 dX12_four_36 (by decide) ?_
    exact hrec3 (x2 + (-8)) σ4 hf
theorem w_X12_four_3 {N : Nat} {Γ : SG} {ρ : Nat → Nat → Nat} (hs : Sh Γ ρ) {this : Nat} {a1 : Int32} (h0 : Γ[this]? = some (0, 12)) {n0 : Nat} {r : Int32} {σr : St} : ∀ (n : Nat) (x2 : Int32) (σ : St), f_X12_four_3 N ρ this a1 n x2 σ = some (r, σr) → Go mX12_four 0 0 0 n0 (Kv Γ ρ σr) 0 0 3 [some (.ref this), some (.int a1), some (.int x2)] [] (hp Γ ρ σ) := by
  intro n
  induction n with
  | zero => intro x2 σ hf; cases hf
  | succ n ih => intro x2 σ hf; exact v_X12_four_3 hs h0 _ ih x2 σ hf
set_option maxRecDepth 100000 in
set_option maxHeartbeats 4000000 in
theorem t_X12_four {N : Nat} {Γ : SG} {ρ : Nat → Nat → Nat} (hs : Sh Γ ρ) {this : Nat} {a1 : Int32} (h0 : Γ[this]? = some (0, 12)) {σ : St} {r : Int32} {σr : St} (hf : f_X12_four N ρ this a1 σ = some (r, σr)) : Tri mX12_four 0 0 0 [.ref this, .int a1] (hp Γ ρ σ) (Kv Γ ρ σr) := by
  unfold f_X12_four at hf
  refine tri_of [some (.ref this), some (.int a1), none] (plainFor_of_name rfl) rfl (Nat.le_of_ble_eq_true rfl) ?_
  refine go_bipush 24 dX12_four_0 (by decide) ?_
  refine go_istore_n 2 [some (.ref this), some (.int a1), some (.int 24)] dX12_four_2 rfl (by decide) rfl ?_
  exact w_X12_four_3 hs h0 N 24 σ hf
def f_X12_feed (N : Nat) (ρ : Nat → Nat → Nat) (this : Nat) (a1 : Int32) (a2 : Int32) (a3 : Int32) (a4 : Int32) (a5 : Int32) (σ : St) : Option (Int32 × St) :=
  if ((σ.1 this 1) + 20 : Int32) ≤ 1600 then
    bnd (f_X12_four N ρ this a1 σ) fun _ σ3 =>
    bnd (f_X12_four N ρ this a2 σ3) fun _ σ6 =>
    bnd (f_X12_four N ρ this a3 σ6) fun _ σ9 =>
    bnd (f_X12_four N ρ this a4 σ9) fun _ σ12 =>
    bnd (f_X12_four N ρ this a5 σ12) fun _ σ15 =>
    some (σ15.1 this 1, σ15)
  else
    some ((-1), σ)
set_option maxRecDepth 100000 in
set_option maxHeartbeats 4000000 in
theorem t_X12_feed {N : Nat} {Γ : SG} {ρ : Nat → Nat → Nat} (hs : Sh Γ ρ) {this : Nat} {a1 : Int32} {a2 : Int32} {a3 : Int32} {a4 : Int32} {a5 : Int32} (h0 : Γ[this]? = some (0, 12)) {σ : St} {r : Int32} {σr : St} (hf : f_X12_feed N ρ this a1 a2 a3 a4 a5 σ = some (r, σr)) : Tri mX12_feed 1 0 0 [.ref this, .int a1, .int a2, .int a3, .int a4, .int a5] (hp Γ ρ σ) (Ki Γ ρ r σr) := by
  unfold f_X12_feed at hf
  refine tri_of [some (.ref this), some (.int a1), some (.int a2), some (.int a3), some (.int a4), some (.int a5)] (plainFor_of_name rfl) rfl (Nat.le_of_ble_eq_true rfl) ?_
  refine go_aload_n 0 dX12_feed_0 rfl rfl ?_
  refine go_fI fl_X12_166 dX12_feed_1 h0 (by decide) rfl ?_
  refine go_bipush 20 dX12_feed_4 (by decide) ?_
  refine go_iadd dX12_feed_6 ?_
  refine go_sipush 1600 dX12_feed_7 (by decide) ?_
  refine go_icmp_le 15 dX12_feed_10 (by decide) (fun c1 => ?_) (fun c1 => ?_)
  · replace hf := (if_pos c1).symm.trans hf
    refine go_aload_n 0 dX12_feed_15 rfl rfl ?_
    refine go_iload_n 1 dX12_feed_16 rfl rfl ?_
    obtain ⟨r2, σ3, q4, hf⟩ := bnd_some hf
    refine go_Vv (av := [.int a1]) (rest := []) (t_X12_four hs h0 q4) ok_X12_four ml_X12_169 dX12_feed_17 h0 rfl rfl (by decide) (Nat.le_refl _) (Nat.le_refl _) (Nat.le_of_ble_eq_true rfl) ?_
    refine go_aload_n 0 dX12_feed_20 rfl rfl ?_
    refine go_iload_n 2 dX12_feed_21 rfl rfl ?_
    obtain ⟨r5, σ6, q7, hf⟩ := bnd_some hf
    refine go_Vv (av := [.int a2]) (rest := []) (t_X12_four hs h0 q7) ok_X12_four ml_X12_169 dX12_feed_22 h0 rfl rfl (by decide) (Nat.le_refl _) (Nat.le_refl _) (Nat.le_of_ble_eq_true rfl) ?_
    refine go_aload_n 0 dX12_feed_25 rfl rfl ?_
    refine go_iload_n 3 dX12_feed_26 rfl rfl ?_
    obtain ⟨r8, σ9, q10, hf⟩ := bnd_some hf
    refine go_Vv (av := [.int a3]) (rest := []) (t_X12_four hs h0 q10) ok_X12_four ml_X12_169 dX12_feed_27 h0 rfl rfl (by decide) (Nat.le_refl _) (Nat.le_refl _) (Nat.le_of_ble_eq_true rfl) ?_
    refine go_aload_n 0 dX12_feed_30 rfl rfl ?_
    refine go_iload dX12_feed_31 rfl ?_
    obtain ⟨r11, σ12, q13, hf⟩ := bnd_some hf
    refine go_Vv (av := [.int a4]) (rest := []) (t_X12_four hs h0 q13) ok_X12_four ml_X12_169 dX12_feed_33 h0 rfl rfl (by decide) (Nat.le_refl _) (Nat.le_refl _) (Nat.le_of_ble_eq_true rfl) ?_
    refine go_aload_n 0 dX12_feed_36 rfl rfl ?_
    refine go_iload dX12_feed_37 rfl ?_
    obtain ⟨r14, σ15, q16, hf⟩ := bnd_some hf
    refine go_Vv (av := [.int a5]) (rest := []) (t_X12_four hs h0 q16) ok_X12_four ml_X12_169 dX12_feed_39 h0 rfl rfl (by decide) (Nat.le_refl _) (Nat.le_refl _) (Nat.le_of_ble_eq_true rfl) ?_
    refine go_aload_n 0 dX12_feed_42 rfl rfl ?_
    refine go_fI fl_X12_166 dX12_feed_43 h0 (by decide) rfl ?_
    cases hf
    exact go_iret rfl dX12_feed_46 (Nat.le_refl _) ⟨rfl, rfl⟩
  · replace hf := (if_neg c1).symm.trans hf
    refine go_iconst (-1) dX12_feed_13 (by decide) ?_
    cases hf
    exact go_iret rfl dX12_feed_14 (Nat.le_refl _) ⟨rfl, rfl⟩
def f_X12_end_12 (N : Nat) (ρ : Nat → Nat → Nat) (this : Nat) (a1 : Int32) (σ : St) : Option (Int32 × St) :=
  some ((-1), σ)
def f_X12_end (N : Nat) (ρ : Nat → Nat → Nat) (this : Nat) (a1 : Int32) (σ : St) : Option (Int32 × St) :=
  if (a1 : Int32) < 0 then
    f_X12_end_12 N ρ this a1 σ
  else
    if (a1 : Int32) ≤ (σ.1 this 1) then
      nmd (sI σ this 1 a1) fun σ3 =>
      some (a1, σ3)
    else
      f_X12_end_12 N ρ this a1 σ
set_option maxRecDepth 100000 in
set_option maxHeartbeats 4000000 in
theorem w_X12_end_12 {N : Nat} {Γ : SG} {ρ : Nat → Nat → Nat} (hs : Sh Γ ρ) {this : Nat} {a1 : Int32} (h0 : Γ[this]? = some (0, 12)) {n0 : Nat} {r : Int32} {σr : St} (σ : St) (hf : f_X12_end_12 N ρ this a1 σ = some (r, σr)) : Go mX12_end 0 0 0 n0 (Ki Γ ρ r σr) 0 0 12 [none, none] [] (hp Γ ρ σ) := by
  unfold f_X12_end_12 at hf
  refine go_iconst (-1) dX12_end_12 (by decide) ?_
  cases hf
  exact go_iret rfl dX12_end_13 (Nat.le_refl _) ⟨rfl, rfl⟩
set_option maxRecDepth 100000 in
set_option maxHeartbeats 4000000 in
theorem t_X12_end {N : Nat} {Γ : SG} {ρ : Nat → Nat → Nat} (hs : Sh Γ ρ) {this : Nat} {a1 : Int32} (h0 : Γ[this]? = some (0, 12)) {σ : St} {r : Int32} {σr : St} (hf : f_X12_end N ρ this a1 σ = some (r, σr)) : Tri mX12_end 0 0 0 [.ref this, .int a1] (hp Γ ρ σ) (Ki Γ ρ r σr) := by
  unfold f_X12_end at hf
  refine tri_of [some (.ref this), some (.int a1)] (plainFor_of_name rfl) rfl (Nat.le_of_ble_eq_true rfl) ?_
  refine go_iload_n 1 dX12_end_0 rfl rfl ?_
  refine go_if_lt 12 dX12_end_1 (by decide) (fun c1 => ?_) (fun c1 => ?_)
  · replace hf := (if_pos c1).symm.trans hf
    refine go_msk [false, false] [none, none] rfl ?_
    exact w_X12_end_12 hs h0 σ hf
  · replace hf := (if_neg c1).symm.trans hf
    refine go_iload_n 1 dX12_end_4 rfl rfl ?_
    refine go_aload_n 0 dX12_end_5 rfl rfl ?_
    refine go_fI fl_X12_166 dX12_end_6 h0 (by decide) rfl ?_
    refine go_icmp_le 14 dX12_end_9 (by decide) (fun c2 => ?_) (fun c2 => ?_)
    · replace hf := (if_pos c2).symm.trans hf
      refine go_aload_n 0 dX12_end_14 rfl rfl ?_
      refine go_iload_n 1 dX12_end_15 rfl rfl ?_
      obtain ⟨σ3, eσ3, hf⟩ := nmd_some hf
      refine go_pI fl_X12_166 ft_12_1 (okv_i _) dX12_end_16 h0 (by decide) rfl ?_
      rw [eσ3]
      refine go_iload_n 1 dX12_end_19 rfl rfl ?_
      cases hf
      exact go_iret rfl dX12_end_20 (Nat.le_refl _) ⟨rfl, rfl⟩
    · replace hf := (if_neg c2).symm.trans hf
      refine go_msk [false, false] [none, none] rfl ?_
      exact w_X12_end_12 hs h0 σ hf
def f_X12_here_28 (N : Nat) (ρ : Nat → Nat → Nat) (this : Nat) (a1 : Int32) (s0 : Int32) (σ : St) : Option (Int32 × St) :=
  some (s0, σ)
def f_X12_here (N : Nat) (ρ : Nat → Nat → Nat) (this : Nat) (a1 : Int32) (σ : St) : Option (Int32 × St) :=
  if (σ.1 this 5) ≤ ((σ.1 this 4) + a1 : Int32) then
    f_X12_here_28 N ρ this a1 (-1) σ
  else
    gd (ib ((σ.1 this 4) + a1) 1600) <|
    f_X12_here_28 N ρ this a1 (σ.1 (ρ this 0) ((σ.1 this 4) + a1).toNatClampNeg) σ
set_option maxRecDepth 100000 in
set_option maxHeartbeats 4000000 in
theorem w_X12_here_28 {N : Nat} {Γ : SG} {ρ : Nat → Nat → Nat} (hs : Sh Γ ρ) {this : Nat} {a1 : Int32} (h0 : Γ[this]? = some (0, 12)) {n0 : Nat} {r : Int32} {σr : St} (s0 : Int32) (σ : St) (hf : f_X12_here_28 N ρ this a1 s0 σ = some (r, σr)) : Go mX12_here 0 0 0 n0 (Ki Γ ρ r σr) 0 0 28 [none, none] [.int s0] (hp Γ ρ σ) := by
  unfold f_X12_here_28 at hf
  cases hf
  exact go_iret rfl dX12_here_28 (Nat.le_refl _) ⟨rfl, rfl⟩
set_option maxRecDepth 100000 in
set_option maxHeartbeats 4000000 in
theorem t_X12_here {N : Nat} {Γ : SG} {ρ : Nat → Nat → Nat} (hs : Sh Γ ρ) {this : Nat} {a1 : Int32} (h0 : Γ[this]? = some (0, 12)) {σ : St} {r : Int32} {σr : St} (hf : f_X12_here N ρ this a1 σ = some (r, σr)) : Tri mX12_here 0 0 0 [.ref this, .int a1] (hp Γ ρ σ) (Ki Γ ρ r σr) := by
  unfold f_X12_here at hf
  refine tri_of [some (.ref this), some (.int a1)] (plainFor_of_name rfl) rfl (Nat.le_of_ble_eq_true rfl) ?_
  refine go_aload_n 0 dX12_here_0 rfl rfl ?_
  refine go_fI fl_X12_173 dX12_here_1 h0 (by decide) rfl ?_
  refine go_iload_n 1 dX12_here_4 rfl rfl ?_
  refine go_iadd dX12_here_5 ?_
  refine go_aload_n 0 dX12_here_6 rfl rfl ?_
  refine go_fI fl_X12_176 dX12_here_7 h0 (by decide) rfl ?_
  refine go_icmp_ge 27 dX12_here_10 (by decide) (fun c1 => ?_) (fun c1 => ?_)
  · replace hf := (if_pos c1).symm.trans hf
    refine go_iconst (-1) dX12_here_27 (by decide) ?_
    refine go_msk [false, false] [none, none] rfl ?_
    exact w_X12_here_28 hs h0 (-1) σ hf
  · replace hf := (if_neg c1).symm.trans hf
    refine go_aload_n 0 dX12_here_13 rfl rfl ?_
    refine go_fR fl_X12_7 dX12_here_14 h0 (by decide) rfl ?_
    refine go_aload_n 0 dX12_here_17 rfl rfl ?_
    refine go_fI fl_X12_173 dX12_here_18 h0 (by decide) rfl ?_
    refine go_iload_n 1 dX12_here_21 rfl rfl ?_
    refine go_iadd dX12_here_22 ?_
    obtain ⟨g2, hf⟩ := gd_some hf
    refine go_rI dX12_here_23 (hs.1 _ 12 0 h0 rfl) (ib_in g2) ?_
    refine go_goto 28 dX12_here_24 (by decide) ?_
    refine go_msk [false, false] [none, none] rfl ?_
    exact w_X12_here_28 hs h0 (σ.1 (ρ this 0) ((σ.1 this 4) + a1).toNatClampNeg) σ hf
def f_X12_isLetter_17 (N : Nat) (ρ : Nat → Nat → Nat) (a1 : Int32) (s0 : Int32) (σ : St) : Option (Int32 × St) :=
  gd (bb s0) <|
  some (s0, σ)
def f_X12_isLetter_16 (N : Nat) (ρ : Nat → Nat → Nat) (a1 : Int32) (σ : St) : Option (Int32 × St) :=
  f_X12_isLetter_17 N ρ a1 0 σ
def f_X12_isLetter (N : Nat) (ρ : Nat → Nat → Nat) (a1 : Int32) (σ : St) : Option (Int32 × St) :=
  if (a1 : Int32) < 97 then
    f_X12_isLetter_16 N ρ a1 σ
  else
    if 122 < (a1 : Int32) then
      f_X12_isLetter_16 N ρ a1 σ
    else
      f_X12_isLetter_17 N ρ a1 1 σ
set_option maxRecDepth 100000 in
set_option maxHeartbeats 4000000 in
theorem w_X12_isLetter_17 {N : Nat} {Γ : SG} {ρ : Nat → Nat → Nat} (hs : Sh Γ ρ) {a1 : Int32} {n0 : Nat} {r : Int32} {σr : St} (s0 : Int32) (σ : St) (hf : f_X12_isLetter_17 N ρ a1 s0 σ = some (r, σr)) : Go mX12_isLetter 0 0 0 n0 (Ki Γ ρ r σr) 0 0 17 [none] [.int s0] (hp Γ ρ σ) := by
  unfold f_X12_isLetter_17 at hf
  obtain ⟨g1, hf⟩ := gd_some hf
  cases hf
  exact go_zret rfl (bb_of g1) dX12_isLetter_17 (Nat.le_refl _) ⟨rfl, rfl⟩
set_option maxRecDepth 100000 in
set_option maxHeartbeats 4000000 in
theorem w_X12_isLetter_16 {N : Nat} {Γ : SG} {ρ : Nat → Nat → Nat} (hs : Sh Γ ρ) {a1 : Int32} {n0 : Nat} {r : Int32} {σr : St} (σ : St) (hf : f_X12_isLetter_16 N ρ a1 σ = some (r, σr)) : Go mX12_isLetter 0 0 0 n0 (Ki Γ ρ r σr) 0 0 16 [none] [] (hp Γ ρ σ) := by
  unfold f_X12_isLetter_16 at hf
  refine go_iconst 0 dX12_isLetter_16 (by decide) ?_
  exact w_X12_isLetter_17 hs 0 σ hf
set_option maxRecDepth 100000 in
set_option maxHeartbeats 4000000 in
theorem t_X12_isLetter {N : Nat} {Γ : SG} {ρ : Nat → Nat → Nat} (hs : Sh Γ ρ) {a1 : Int32} {σ : St} {r : Int32} {σr : St} (hf : f_X12_isLetter N ρ a1 σ = some (r, σr)) : Tri mX12_isLetter 0 0 0 [.int a1] (hp Γ ρ σ) (Ki Γ ρ r σr) := by
  unfold f_X12_isLetter at hf
  refine tri_of [some (.int a1)] (plainFor_of_name rfl) rfl (Nat.le_of_ble_eq_true rfl) ?_
  refine go_iload_n 0 dX12_isLetter_0 rfl rfl ?_
  refine go_bipush 97 dX12_isLetter_1 (by decide) ?_
  refine go_icmp_lt 16 dX12_isLetter_3 (by decide) (fun c2 => ?_) (fun c2 => ?_)
  · replace hf := (if_pos c2).symm.trans hf
    refine go_msk [false] [none] rfl ?_
    exact w_X12_isLetter_16 hs σ hf
  · replace hf := (if_neg c2).symm.trans hf
    refine go_iload_n 0 dX12_isLetter_6 rfl rfl ?_
    refine go_bipush 122 dX12_isLetter_7 (by decide) ?_
    refine go_icmp_gt 16 dX12_isLetter_9 (by decide) (fun c3 => ?_) (fun c3 => ?_)
    · replace hf := (if_pos c3).symm.trans hf
      refine go_msk [false] [none] rfl ?_
      exact w_X12_isLetter_16 hs σ hf
    · replace hf := (if_neg c3).symm.trans hf
      refine go_iconst 1 dX12_isLetter_12 (by decide) ?_
      refine go_goto 17 dX12_isLetter_13 (by decide) ?_
      refine go_msk [false] [none] rfl ?_
      exact w_X12_isLetter_17 hs 1 σ hf
def f_X12_isDigit_17 (N : Nat) (ρ : Nat → Nat → Nat) (a1 : Int32) (s0 : Int32) (σ : St) : Option (Int32 × St) :=
  gd (bb s0) <|
  some (s0, σ)
def f_X12_isDigit_16 (N : Nat) (ρ : Nat → Nat → Nat) (a1 : Int32) (σ : St) : Option (Int32 × St) :=
  f_X12_isDigit_17 N ρ a1 0 σ
def f_X12_isDigit (N : Nat) (ρ : Nat → Nat → Nat) (a1 : Int32) (σ : St) : Option (Int32 × St) :=
  if (a1 : Int32) < 48 then
    f_X12_isDigit_16 N ρ a1 σ
  else
    if 57 < (a1 : Int32) then
      f_X12_isDigit_16 N ρ a1 σ
    else
      f_X12_isDigit_17 N ρ a1 1 σ
set_option maxRecDepth 100000 in
set_option maxHeartbeats 4000000 in
theorem w_X12_isDigit_17 {N : Nat} {Γ : SG} {ρ : Nat → Nat → Nat} (hs : Sh Γ ρ) {a1 : Int32} {n0 : Nat} {r : Int32} {σr : St} (s0 : Int32) (σ : St) (hf : f_X12_isDigit_17 N ρ a1 s0 σ = some (r, σr)) : Go mX12_isDigit 0 0 0 n0 (Ki Γ ρ r σr) 0 0 17 [none] [.int s0] (hp Γ ρ σ) := by
  unfold f_X12_isDigit_17 at hf
  obtain ⟨g1, hf⟩ := gd_some hf
  cases hf
  exact go_zret rfl (bb_of g1) dX12_isDigit_17 (Nat.le_refl _) ⟨rfl, rfl⟩
set_option maxRecDepth 100000 in
set_option maxHeartbeats 4000000 in
theorem w_X12_isDigit_16 {N : Nat} {Γ : SG} {ρ : Nat → Nat → Nat} (hs : Sh Γ ρ) {a1 : Int32} {n0 : Nat} {r : Int32} {σr : St} (σ : St) (hf : f_X12_isDigit_16 N ρ a1 σ = some (r, σr)) : Go mX12_isDigit 0 0 0 n0 (Ki Γ ρ r σr) 0 0 16 [none] [] (hp Γ ρ σ) := by
  unfold f_X12_isDigit_16 at hf
  refine go_iconst 0 dX12_isDigit_16 (by decide) ?_
  exact w_X12_isDigit_17 hs 0 σ hf
set_option maxRecDepth 100000 in
set_option maxHeartbeats 4000000 in
theorem t_X12_isDigit {N : Nat} {Γ : SG} {ρ : Nat → Nat → Nat} (hs : Sh Γ ρ) {a1 : Int32} {σ : St} {r : Int32} {σr : St} (hf : f_X12_isDigit N ρ a1 σ = some (r, σr)) : Tri mX12_isDigit 0 0 0 [.int a1] (hp Γ ρ σ) (Ki Γ ρ r σr) := by
  unfold f_X12_isDigit at hf
  refine tri_of [some (.int a1)] (plainFor_of_name rfl) rfl (Nat.le_of_ble_eq_true rfl) ?_
  refine go_iload_n 0 dX12_isDigit_0 rfl rfl ?_
  refine go_bipush 48 dX12_isDigit_1 (by decide) ?_
  refine go_icmp_lt 16 dX12_isDigit_3 (by decide) (fun c2 => ?_) (fun c2 => ?_)
  · replace hf := (if_pos c2).symm.trans hf
    refine go_msk [false] [none] rfl ?_
    exact w_X12_isDigit_16 hs σ hf
  · replace hf := (if_neg c2).symm.trans hf
    refine go_iload_n 0 dX12_isDigit_6 rfl rfl ?_
    refine go_bipush 57 dX12_isDigit_7 (by decide) ?_
    refine go_icmp_gt 16 dX12_isDigit_9 (by decide) (fun c3 => ?_) (fun c3 => ?_)
    · replace hf := (if_pos c3).symm.trans hf
      refine go_msk [false] [none] rfl ?_
      exact w_X12_isDigit_16 hs σ hf
    · replace hf := (if_neg c3).symm.trans hf
      refine go_iconst 1 dX12_isDigit_12 (by decide) ?_
      refine go_goto 17 dX12_isDigit_13 (by decide) ?_
      refine go_msk [false] [none] rfl ?_
      exact w_X12_isDigit_17 hs 1 σ hf
def f_X12_isSign_71 (N : Nat) (ρ : Nat → Nat → Nat) (a1 : Int32) (s0 : Int32) (σ : St) : Option (Int32 × St) :=
  gd (bb s0) <|
  some (s0, σ)
def f_X12_isSign_66 (N : Nat) (ρ : Nat → Nat → Nat) (a1 : Int32) (σ : St) : Option (Int32 × St) :=
  f_X12_isSign_71 N ρ a1 1 σ
def f_X12_isSign (N : Nat) (ρ : Nat → Nat → Nat) (a1 : Int32) (σ : St) : Option (Int32 × St) :=
  if (a1 : Int32) = 59 then
    f_X12_isSign_66 N ρ a1 σ
  else
    if (a1 : Int32) = 40 then
      f_X12_isSign_66 N ρ a1 σ
    else
      if (a1 : Int32) = 41 then
        f_X12_isSign_66 N ρ a1 σ
      else
        if (a1 : Int32) = 60 then
          f_X12_isSign_66 N ρ a1 σ
        else
          if (a1 : Int32) = 62 then
            f_X12_isSign_66 N ρ a1 σ
          else
            if (a1 : Int32) = 61 then
              f_X12_isSign_66 N ρ a1 σ
            else
              if (a1 : Int32) = 43 then
                f_X12_isSign_66 N ρ a1 σ
              else
                if (a1 : Int32) = 45 then
                  f_X12_isSign_66 N ρ a1 σ
                else
                  if (a1 : Int32) = 42 then
                    f_X12_isSign_66 N ρ a1 σ
                  else
                    if (a1 : Int32) = 47 then
                      f_X12_isSign_66 N ρ a1 σ
                    else
                      if (a1 : Int32) = 37 then
                        f_X12_isSign_66 N ρ a1 σ
                      else
                        f_X12_isSign_71 N ρ a1 0 σ
set_option maxRecDepth 100000 in
set_option maxHeartbeats 4000000 in
theorem w_X12_isSign_71 {N : Nat} {Γ : SG} {ρ : Nat → Nat → Nat} (hs : Sh Γ ρ) {a1 : Int32} {n0 : Nat} {r : Int32} {σr : St} (s0 : Int32) (σ : St) (hf : f_X12_isSign_71 N ρ a1 s0 σ = some (r, σr)) : Go mX12_isSign 0 0 0 n0 (Ki Γ ρ r σr) 0 0 71 [none] [.int s0] (hp Γ ρ σ) := by
  unfold f_X12_isSign_71 at hf
  obtain ⟨g1, hf⟩ := gd_some hf
  cases hf
  exact go_zret rfl (bb_of g1) dX12_isSign_71 (Nat.le_refl _) ⟨rfl, rfl⟩
set_option maxRecDepth 100000 in
set_option maxHeartbeats 4000000 in
theorem w_X12_isSign_66 {N : Nat} {Γ : SG} {ρ : Nat → Nat → Nat} (hs : Sh Γ ρ) {a1 : Int32} {n0 : Nat} {r : Int32} {σr : St} (σ : St) (hf : f_X12_isSign_66 N ρ a1 σ = some (r, σr)) : Go mX12_isSign 0 0 0 n0 (Ki Γ ρ r σr) 0 0 66 [none] [] (hp Γ ρ σ) := by
  unfold f_X12_isSign_66 at hf
  refine go_iconst 1 dX12_isSign_66 (by decide) ?_
  refine go_goto 71 dX12_isSign_67 (by decide) ?_
  exact w_X12_isSign_71 hs 1 σ hf
set_option maxRecDepth 100000 in
set_option maxHeartbeats 4000000 in
theorem t_X12_isSign {N : Nat} {Γ : SG} {ρ : Nat → Nat → Nat} (hs : Sh Γ ρ) {a1 : Int32} {σ : St} {r : Int32} {σr : St} (hf : f_X12_isSign N ρ a1 σ = some (r, σr)) : Tri mX12_isSign 0 0 0 [.int a1] (hp Γ ρ σ) (Ki Γ ρ r σr) := by
  unfold f_X12_isSign at hf
  refine tri_of [some (.int a1)] (plainFor_of_name rfl) rfl (Nat.le_of_ble_eq_true rfl) ?_
  refine go_iload_n 0 dX12_isSign_0 rfl rfl ?_
  refine go_bipush 59 dX12_isSign_1 (by decide) ?_
  refine go_icmp_eq 66 dX12_isSign_3 (by decide) (fun c2 => ?_) (fun c2 => ?_)
  · replace hf := (if_pos c2).symm.trans hf
    refine go_msk [false] [none] rfl ?_
    exact w_X12_isSign_66 hs σ hf
  · replace hf := (if_neg c2).symm.trans hf
    refine go_iload_n 0 dX12_isSign_6 rfl rfl ?_
    refine go_bipush 40 dX12_isSign_7 (by decide) ?_
    refine go_icmp_eq 66 dX12_isSign_9 (by decide) (fun c3 => ?_) (fun c3 => ?_)
    · replace hf := (if_pos c3).symm.trans hf
      refine go_msk [false] [none] rfl ?_
      exact w_X12_isSign_66 hs σ hf
    · replace hf := (if_neg c3).symm.trans hf
      refine go_iload_n 0 dX12_isSign_12 rfl rfl ?_
      refine go_bipush 41 dX12_isSign_13 (by decide) ?_
      refine go_icmp_eq 66 dX12_isSign_15 (by decide) (fun c4 => ?_) (fun c4 => ?_)
      · replace hf := (if_pos c4).symm.trans hf
        refine go_msk [false] [none] rfl ?_
        exact w_X12_isSign_66 hs σ hf
      · replace hf := (if_neg c4).symm.trans hf
        refine go_iload_n 0 dX12_isSign_18 rfl rfl ?_
        refine go_bipush 60 dX12_isSign_19 (by decide) ?_
        refine go_icmp_eq 66 dX12_isSign_21 (by decide) (fun c5 => ?_) (fun c5 => ?_)
        · replace hf := (if_pos c5).symm.trans hf
          refine go_msk [false] [none] rfl ?_
          exact w_X12_isSign_66 hs σ hf
        · replace hf := (if_neg c5).symm.trans hf
          refine go_iload_n 0 dX12_isSign_24 rfl rfl ?_
          refine go_bipush 62 dX12_isSign_25 (by decide) ?_
          refine go_icmp_eq 66 dX12_isSign_27 (by decide) (fun c6 => ?_) (fun c6 => ?_)
          · replace hf := (if_pos c6).symm.trans hf
            refine go_msk [false] [none] rfl ?_
            exact w_X12_isSign_66 hs σ hf
          · replace hf := (if_neg c6).symm.trans hf
            refine go_iload_n 0 dX12_isSign_30 rfl rfl ?_
            refine go_bipush 61 dX12_isSign_31 (by decide) ?_
            refine go_icmp_eq 66 dX12_isSign_33 (by decide) (fun c7 => ?_) (fun c7 => ?_)
            · replace hf := (if_pos c7).symm.trans hf
              refine go_msk [false] [none] rfl ?_
              exact w_X12_isSign_66 hs σ hf
            · replace hf := (if_neg c7).symm.trans hf
              refine go_iload_n 0 dX12_isSign_36 rfl rfl ?_
              refine go_bipush 43 dX12_isSign_37 (by decide) ?_
              refine go_icmp_eq 66 dX12_isSign_39 (by decide) (fun c8 => ?_) (fun c8 => ?_)
              · replace hf := (if_pos c8).symm.trans hf
                refine go_msk [false] [none] rfl ?_
                exact w_X12_isSign_66 hs σ hf
              · replace hf := (if_neg c8).symm.trans hf
                refine go_iload_n 0 dX12_isSign_42 rfl rfl ?_
                refine go_bipush 45 dX12_isSign_43 (by decide) ?_
                refine go_icmp_eq 66 dX12_isSign_45 (by decide) (fun c9 => ?_) (fun c9 => ?_)
                · replace hf := (if_pos c9).symm.trans hf
                  refine go_msk [false] [none] rfl ?_
                  exact w_X12_isSign_66 hs σ hf
                · replace hf := (if_neg c9).symm.trans hf
                  refine go_iload_n 0 dX12_isSign_48 rfl rfl ?_
                  refine go_bipush 42 dX12_isSign_49 (by decide) ?_
                  refine go_icmp_eq 66 dX12_isSign_51 (by decide) (fun c10 => ?_) (fun c10 => ?_)
                  · replace hf := (if_pos c10).symm.trans hf
                    refine go_msk [false] [none] rfl ?_
                    exact w_X12_isSign_66 hs σ hf
                  · replace hf := (if_neg c10).symm.trans hf
                    refine go_iload_n 0 dX12_isSign_54 rfl rfl ?_
                    refine go_bipush 47 dX12_isSign_55 (by decide) ?_
                    refine go_icmp_eq 66 dX12_isSign_57 (by decide) (fun c11 => ?_) (fun c11 => ?_)
                    · replace hf := (if_pos c11).symm.trans hf
                      refine go_msk [false] [none] rfl ?_
                      exact w_X12_isSign_66 hs σ hf
                    · replace hf := (if_neg c11).symm.trans hf
                      refine go_iload_n 0 dX12_isSign_60 rfl rfl ?_
                      refine go_bipush 37 dX12_isSign_61 (by decide) ?_
                      refine go_icmp_ne 70 dX12_isSign_63 (by decide) (fun c12 => ?_) (fun c12 => ?_)
                      · replace hf := (if_neg c12).symm.trans hf
                        refine go_iconst 0 dX12_isSign_70 (by decide) ?_
                        refine go_msk [false] [none] rfl ?_
                        exact w_X12_isSign_71 hs 0 σ hf
                      · replace hf := (if_pos c12).symm.trans hf
                        refine go_msk [false] [none] rfl ?_
                        exact w_X12_isSign_66 hs σ hf
def f_X12_token_20 (N : Nat) (ρ : Nat → Nat → Nat) (this : Nat) (rec0 : St → Option (Int32 × St)) (σ : St) : Option (Int32 × St) :=
  nmd (sI σ this 4 ((σ.1 this 4) + 1)) fun σ1 =>
  rec0 σ1
def f_X12_token_113 (N : Nat) (ρ : Nat → Nat → Nat) (this : Nat) (rec78 : Int32 → St → Option (Int32 × St)) (x2 : Int32) (σ : St) : Option (Int32 × St) :=
  rec78 (x2 + 1) σ
def f_X12_token_250 (N : Nat) (ρ : Nat → Nat → Nat) (this : Nat) (σ : St) : Option (Int32 × St) :=
  some (0, σ)
def f_X12_token_232 (N : Nat) (ρ : Nat → Nat → Nat) (this : Nat) (x2 : Int32) (σ : St) : Option (Int32 × St) :=
  if (σ.1 this 6 : Int32) = 3 then
    f_X12_token_250 N ρ this σ
  else
    nmd (sI σ this 4 ((σ.1 this 4) + x2)) fun σ3 =>
    f_X12_token_250 N ρ this σ3
def f_X12_token_131 (N : Nat) (ρ : Nat → Nat → Nat) (this : Nat) (x2 : Int32) (s0 : Int32) (σ : St) : Option (Int32 × St) :=
  nmd (sI σ this 6 s0) fun σ4 =>
  f_X12_token_232 N ρ this x2 σ4
def b_X12_token_78 (N : Nat) (ρ : Nat → Nat → Nat) (this : Nat) (rec78 : Int32 → St → Option (Int32 × St)) (x2 : Int32) (σ : St) : Option (Int32 × St) :=
  bnd (f_X12_here N ρ this x2 σ) fun r5 σ6 =>
  bnd (f_X12_isLetter N ρ r5 σ6) fun r8 σ9 =>
  if (r8 : Int32) = 0 then
    if (x2 : Int32) ≤ 8 then
      f_X12_token_131 N ρ this x2 1 σ9
    else
      f_X12_token_131 N ρ this x2 3 σ9
  else
    if 8 ≤ (x2 : Int32) then
      f_X12_token_113 N ρ this rec78 x2 σ9
    else
      bnd (f_X12_here N ρ this x2 σ9) fun r14 σ15 =>
      nmd (sJ σ15 this 9 (((σ9.2 this 9) <<< ((8 : Int32).toInt64 &&& 63)) ||| r14.toInt64)) fun σ17 =>
      f_X12_token_113 N ρ this rec78 x2 σ17
def f_X12_token_78 (N : Nat) (ρ : Nat → Nat → Nat) (this : Nat) : Nat → Int32 → St → Option (Int32 × St)
  | 0, _, _ => none
  | n + 1, x2, σ => b_X12_token_78 N ρ this (f_X12_token_78 N ρ this n) x2 σ
def f_X12_token_180 (N : Nat) (ρ : Nat → Nat → Nat) (this : Nat) (rec144 : Int32 → St → Option (Int32 × St)) (x2 : Int32) (σ : St) : Option (Int32 × St) :=
  rec144 (x2 + 1) σ
def f_X12_token_208 (N : Nat) (ρ : Nat → Nat → Nat) (this : Nat) (x2 : Int32) (s0 : Int32) (σ : St) : Option (Int32 × St) :=
  nmd (sI σ this 6 s0) fun σ18 =>
  f_X12_token_232 N ρ this x2 σ18
def f_X12_token_203 (N : Nat) (ρ : Nat → Nat → Nat) (this : Nat) (x2 : Int32) (σ : St) : Option (Int32 × St) :=
  f_X12_token_208 N ρ this x2 3 σ
def b_X12_token_144 (N : Nat) (ρ : Nat → Nat → Nat) (this : Nat) (rec144 : Int32 → St → Option (Int32 × St)) (x2 : Int32) (σ : St) : Option (Int32 × St) :=
  bnd (f_X12_here N ρ this x2 σ) fun r19 σ20 =>
  bnd (f_X12_isDigit N ρ r19 σ20) fun r22 σ23 =>
  if (r22 : Int32) = 0 then
    if 4 < (x2 : Int32) then
      f_X12_token_203 N ρ this x2 σ23
    else
      bnd (f_X12_here N ρ this x2 σ23) fun r27 σ28 =>
      bnd (f_X12_isLetter N ρ r27 σ28) fun r30 σ31 =>
      if (r30 : Int32) = 0 then
        f_X12_token_208 N ρ this x2 2 σ31
      else
        f_X12_token_203 N ρ this x2 σ31
  else
    if 4 ≤ (x2 : Int32) then
      f_X12_token_180 N ρ this rec144 x2 σ23
    else
      bnd (f_X12_here N ρ this x2 σ23) fun r35 σ36 =>
      nmd (sI σ36 this 8 (((10 * (σ23.1 this 8)) + r35) - 48)) fun σ38 =>
      f_X12_token_180 N ρ this rec144 x2 σ38
def f_X12_token_144 (N : Nat) (ρ : Nat → Nat → Nat) (this : Nat) : Nat → Int32 → St → Option (Int32 × St)
  | 0, _, _ => none
  | n + 1, x2, σ => b_X12_token_144 N ρ this (f_X12_token_144 N ρ this n) x2 σ
def f_X12_token_229 (N : Nat) (ρ : Nat → Nat → Nat) (this : Nat) (x2 : Int32) (s0 : Int32) (σ : St) : Option (Int32 × St) :=
  nmd (sI σ this 6 s0) fun σ39 =>
  f_X12_token_232 N ρ this x2 σ39
def b_X12_token_0 (N : Nat) (ρ : Nat → Nat → Nat) (this : Nat) (rec0 : St → Option (Int32 × St)) (σ : St) : Option (Int32 × St) :=
  bnd (f_X12_here N ρ this 0 σ) fun r40 σ41 =>
  if (r40 : Int32) = 32 then
    f_X12_token_20 N ρ this rec0 σ41
  else
    bnd (f_X12_here N ρ this 0 σ41) fun r44 σ45 =>
    if (r44 : Int32) = 10 then
      f_X12_token_20 N ρ this rec0 σ45
    else
      nmd (sI σ45 this 7 (σ45.1 this 4)) fun σ48 =>
      bnd (f_X12_here N ρ this 0 σ48) fun r49 σ50 =>
      nmd (sJ σ50 this 9 0) fun σ52 =>
      nmd (sI σ52 this 8 0) fun σ53 =>
      if 0 ≤ (r49 : Int32) then
        bnd (f_X12_isLetter N ρ r49 σ53) fun r55 σ56 =>
        if (r55 : Int32) = 0 then
          bnd (f_X12_isDigit N ρ r49 σ56) fun r59 σ60 =>
          if (r59 : Int32) = 0 then
            bnd (f_X12_isSign N ρ r49 σ60) fun r63 σ64 =>
            if (r63 : Int32) = 0 then
              f_X12_token_229 N ρ this 1 3 σ64
            else
              f_X12_token_229 N ρ this 1 r49 σ64
          else
            f_X12_token_144 N ρ this N 0 σ60
        else
          f_X12_token_78 N ρ this N 0 σ56
      else
        nmd (sI σ53 this 6 0) fun σ67 =>
        f_X12_token_232 N ρ this 0 σ67
def f_X12_token_0 (N : Nat) (ρ : Nat → Nat → Nat) (this : Nat) : Nat → St → Option (Int32 × St)
  | 0, _ => none
  | n + 1, σ => b_X12_token_0 N ρ this (f_X12_token_0 N ρ this n) σ
def f_X12_token (N : Nat) (ρ : Nat → Nat → Nat) (this : Nat) (σ : St) : Option (Int32 × St) :=
  f_X12_token_0 N ρ this N σ
set_option maxRecDepth 100000 in
set_option maxHeartbeats 4000000 in
theorem w_X12_token_20 {N : Nat} {Γ : SG} {ρ : Nat → Nat → Nat} (hs : Sh Γ ρ) {this : Nat} (h0 : Γ[this]? = some (0, 12)) {n0 : Nat} {r : Int32} {σr : St} (rec0 : St → Option (Int32 × St)) (hrec0 : ∀ (σ : St), rec0 σ = some (r, σr) → Go mX12_token 1 0 0 n0 (Kv Γ ρ σr) 0 0 0 [some (.ref this), none, none] [] (hp Γ ρ σ)) (σ : St) (hf : f_X12_token_20 N ρ this rec0 σ = some (r, σr)) : Go mX12_token 1 0 0 n0 (Kv Γ ρ σr) 0 0 20 [some (.ref this), none, none] [] (hp Γ ρ σ) := by
  unfold f_X12_token_20 at hf
  refine go_aload_n 0 dX12_token_20 rfl rfl ?_
  refine go_dup dX12_token_21 rfl ?_
  refine go_fI fl_X12_173 dX12_token_22 h0 (by decide) rfl ?_
  refine go_iconst 1 dX12_token_25 (by decide) ?_
  refine go_iadd dX12_token_26 ?_
  obtain ⟨σ1, eσ1, hf⟩ := nmd_some hf
  refine go_pI fl_X12_173 ft_12_4 (okv_i _) dX12_token_27 h0 (by decide) rfl ?_
  rw [eσ1]
  refine go_goto 0 dX12_token_30 (by decide) ?_
  exact hrec0 σ1 hf
set_option maxRecDepth 100000 in
set_option maxHeartbeats 4000000 in
theorem w_X12_token_113 {N : Nat} {Γ : SG} {ρ : Nat → Nat → Nat} (hs : Sh Γ ρ) {this : Nat} (h0 : Γ[this]? = some (0, 12)) {n0 : Nat} {r : Int32} {σr : St} (rec78 : Int32 → St → Option (Int32 × St)) (hrec78 : ∀ (x2 : Int32) (σ : St), rec78 x2 σ = some (r, σr) → Go mX12_token 1 0 0 n0 (Kv Γ ρ σr) 0 0 78 [some (.ref this), none, some (.int x2)] [] (hp Γ ρ σ)) (x2 : Int32) (σ : St) (hf : f_X12_token_113 N ρ this rec78 x2 σ = some (r, σr)) : Go mX12_token 1 0 0 n0 (Kv Γ ρ σr) 0 0 113 [some (.ref this), none, some (.int x2)] [] (hp Γ ρ σ) := by
  unfold f_X12_token_113 at hf
  refine go_iinc (x2 + 1) [some (.ref this), none, some (.int (x2 + 1))] dX12_token_113 rfl rfl (by decide) rfl ?_
  refine go_goto 78 dX12_token_116 (by decide) ?_
  exact hrec78 (x2 + 1) σ hf
set_option maxRecDepth 100000 in
set_option maxHeartbeats 4000000 in
theorem w_X12_token_250 {N : Nat} {Γ : SG} {ρ : Nat → Nat → Nat} (hs : Sh Γ ρ) {this : Nat} (h0 : Γ[this]? = some (0, 12)) {n0 : Nat} {r : Int32} {σr : St} (σ : St) (hf : f_X12_token_250 N ρ this σ = some (r, σr)) : Go mX12_token 1 0 0 n0 (Kv Γ ρ σr) 0 0 250 [none, none, none] [] (hp Γ ρ σ) := by
  unfold f_X12_token_250 at hf
  cases hf
  exact go_vret rfl dX12_token_250 (Nat.le_refl _) ⟨rfl, rfl⟩
set_option maxRecDepth 100000 in
set_option maxHeartbeats 4000000 in
theorem w_X12_token_232 {N : Nat} {Γ : SG} {ρ : Nat → Nat → Nat} (hs : Sh Γ ρ) {this : Nat} (h0 : Γ[this]? = some (0, 12)) {n0 : Nat} {r : Int32} {σr : St} (x2 : Int32) (σ : St) (hf : f_X12_token_232 N ρ this x2 σ = some (r, σr)) : Go mX12_token 1 0 0 n0 (Kv Γ ρ σr) 0 0 232 [some (.ref this), none, some (.int x2)] [] (hp Γ ρ σ) := by
  unfold f_X12_token_232 at hf
  refine go_aload_n 0 dX12_token_232 rfl rfl ?_
  refine go_fI fl_X12_193 dX12_token_233 h0 (by decide) rfl ?_
  refine go_iconst 3 dX12_token_236 (by decide) ?_
  refine go_icmp_eq 250 dX12_token_237 (by decide) (fun c2 => ?_) (fun c2 => ?_)
  · replace hf := (if_pos c2).symm.trans hf
    refine go_msk [false, false, false] [none, none, none] rfl ?_
    exact w_X12_token_250 hs h0 σ hf
  · replace hf := (if_neg c2).symm.trans hf
    refine go_aload_n 0 dX12_token_240 rfl rfl ?_
    refine go_dup dX12_token_241 rfl ?_
    refine go_fI fl_X12_173 dX12_token_242 h0 (by decide) rfl ?_
    refine go_iload_n 2 dX12_token_245 rfl rfl ?_
    refine go_iadd dX12_token_246 ?_
    obtain ⟨σ3, eσ3, hf⟩ := nmd_some hf
    refine go_pI fl_X12_173 ft_12_4 (okv_i _) dX12_token_247 h0 (by decide) rfl ?_
    rw [eσ3]
    refine go_msk [false, false, false] [none, none, none] rfl ?_
    exact w_X12_token_250 hs h0 σ3 hf
set_option maxRecDepth 100000 in
set_option maxHeartbeats 4000000 in
theorem w_X12_token_131 {N : Nat} {Γ : SG} {ρ : Nat → Nat → Nat} (hs : Sh Γ ρ) {this : Nat} (h0 : Γ[this]? = some (0, 12)) {n0 : Nat} {r : Int32} {σr : St} (x2 : Int32) (s0 : Int32) (σ : St) (hf : f_X12_token_131 N ρ this x2 s0 σ = some (r, σr)) : Go mX12_token 1 0 0 n0 (Kv Γ ρ σr) 0 0 131 [some (.ref this), none, some (.int x2)] [.int s0, .ref this] (hp Γ ρ σ) := by
  unfold f_X12_token_131 at hf
  obtain ⟨σ4, eσ4, hf⟩ := nmd_some hf
  refine go_pI fl_X12_193 ft_12_6 (okv_i _) dX12_token_131 h0 (by decide) rfl ?_
  rw [eσ4]
  refine go_goto 232 dX12_token_134 (by decide) ?_
  exact w_X12_token_232 hs h0 x2 σ4 hf
set_option maxRecDepth 100000 in
set_option maxHeartbeats 4000000 in
theorem v_X12_token_78 {N : Nat} {Γ : SG} {ρ : Nat → Nat → Nat} (hs : Sh Γ ρ) {this : Nat} (h0 : Γ[this]? = some (0, 12)) {n0 : Nat} {r : Int32} {σr : St} (rec78 : Int32 → St → Option (Int32 × St)) (hrec78 : ∀ (x2 : Int32) (σ : St), rec78 x2 σ = some (r, σr) → Go mX12_token 1 0 0 n0 (Kv Γ ρ σr) 0 0 78 [some (.ref this), none, some (.int x2)] [] (hp Γ ρ σ)) (x2 : Int32) (σ : St) (hf : b_X12_token_78 N ρ this rec78 x2 σ = some (r, σr)) : Go mX12_token 1 0 0 n0 (Kv Γ ρ σr) 0 0 78 [some (.ref this), none, some (.int x2)] [] (hp Γ ρ σ) := by
  unfold b_X12_token_78 at hf
  refine go_aload_n 0 dX12_token_78 rfl rfl ?_
  refine go_iload_n 2 dX12_token_79 rfl rfl ?_
  obtain ⟨r5, σ6, q7, hf⟩ := bnd_some hf
  refine go_Vi (av := [.int x2]) (rest := []) (t_X12_here hs h0 q7) ok_X12_here ml_X12_179 dX12_token_80 h0 rfl rfl (by decide) (Nat.le_refl _) (Nat.le_refl _) (Nat.le_of_ble_eq_true rfl) ?_
  obtain ⟨r8, σ9, q10, hf⟩ := bnd_some hf
  refine go_Si (av := [.int r5]) (rest := []) (t_X12_isLetter hs  q10) ok_X12_isLetter ml_X12_196 dX12_token_83 rfl rfl (by decide) (Nat.le_refl _) (Nat.le_refl _) (Nat.le_of_ble_eq_true rfl) ?_
  refine go_if_eq 119 dX12_token_86 (by decide) (fun c11 => ?_) (fun c11 => ?_)
  · replace hf := (if_pos c11).symm.trans hf
    refine go_aload_n 0 dX12_token_119 rfl rfl ?_
    refine go_iload_n 2 dX12_token_120 rfl rfl ?_
    refine go_bipush 8 dX12_token_121 (by decide) ?_
    refine go_icmp_le 130 dX12_token_123 (by decide) (fun c12 => ?_) (fun c12 => ?_)
    · replace hf := (if_pos c12).symm.trans hf
      refine go_iconst 1 dX12_token_130 (by decide) ?_
      exact w_X12_token_131 hs h0 x2 1 σ9 hf
    · replace hf := (if_neg c12).symm.trans hf
      refine go_iconst 3 dX12_token_126 (by decide) ?_
      refine go_goto 131 dX12_token_127 (by decide) ?_
      exact w_X12_token_131 hs h0 x2 3 σ9 hf
  · replace hf := (if_neg c11).symm.trans hf
    refine go_iload_n 2 dX12_token_89 rfl rfl ?_
    refine go_bipush 8 dX12_token_90 (by decide) ?_
    refine go_icmp_ge 113 dX12_token_92 (by decide) (fun c13 => ?_) (fun c13 => ?_)
    · replace hf := (if_pos c13).symm.trans hf
      exact w_X12_token_113 hs h0 rec78 hrec78 x2 σ9 hf
    · replace hf := (if_neg c13).symm.trans hf
      refine go_aload_n 0 dX12_token_95 rfl rfl ?_
      refine go_aload_n 0 dX12_token_96 rfl rfl ?_
      refine go_fJ fl_X12_186 dX12_token_97 h0 (by decide) rfl ?_
      refine go_bipush 8 dX12_token_100 (by decide) ?_
      refine go_lshl dX12_token_102 ?_
      refine go_aload_n 0 dX12_token_103 rfl rfl ?_
      refine go_iload_n 2 dX12_token_104 rfl rfl ?_
      obtain ⟨r14, σ15, q16, hf⟩ := bnd_some hf
      refine go_Vi (av := [.int x2]) (rest := [.long ((σ9.2 this 9) <<< ((8 : Int32).toInt64 &&& 63)), .ref this]) (t_X12_here hs h0 q16) ok_X12_here ml_X12_179 dX12_token_105 h0 rfl rfl (by decide) (Nat.le_refl _) (Nat.le_refl _) (Nat.le_of_ble_eq_true rfl) ?_
      refine go_i2l dX12_token_108 ?_
      refine go_lor dX12_token_109 ?_
      obtain ⟨σ17, eσ17, hf⟩ := nmd_some hf
      refine go_pJ fl_X12_186 ft_12_9 dX12_token_110 h0 (by decide) rfl ?_
      rw [eσ17]
      exact w_X12_token_113 hs h0 rec78 hrec78 x2 σ17 hf
theorem w_X12_token_78 {N : Nat} {Γ : SG} {ρ : Nat → Nat → Nat} (hs : Sh Γ ρ) {this : Nat} (h0 : Γ[this]? = some (0, 12)) {n0 : Nat} {r : Int32} {σr : St} : ∀ (n : Nat) (x2 : Int32) (σ : St), f_X12_token_78 N ρ this n x2 σ = some (r, σr) → Go mX12_token 1 0 0 n0 (Kv Γ ρ σr) 0 0 78 [some (.ref this), none, some (.int x2)] [] (hp Γ ρ σ) := by
  intro n
  induction n with
  | zero => intro x2 σ hf; cases hf
  | succ n ih => intro x2 σ hf; exact v_X12_token_78 hs h0 _ ih x2 σ hf
set_option maxRecDepth 100000 in
set_option maxHeartbeats 4000000 in
theorem w_X12_token_180 {N : Nat} {Γ : SG} {ρ : Nat → Nat → Nat} (hs : Sh Γ ρ) {this : Nat} (h0 : Γ[this]? = some (0, 12)) {n0 : Nat} {r : Int32} {σr : St} (rec144 : Int32 → St → Option (Int32 × St)) (hrec144 : ∀ (x2 : Int32) (σ : St), rec144 x2 σ = some (r, σr) → Go mX12_token 1 0 0 n0 (Kv Γ ρ σr) 0 0 144 [some (.ref this), none, some (.int x2)] [] (hp Γ ρ σ)) (x2 : Int32) (σ : St) (hf : f_X12_token_180 N ρ this rec144 x2 σ = some (r, σr)) : Go mX12_token 1 0 0 n0 (Kv Γ ρ σr) 0 0 180 [some (.ref this), none, some (.int x2)] [] (hp Γ ρ σ) := by
  unfold f_X12_token_180 at hf
  refine go_iinc (x2 + 1) [some (.ref this), none, some (.int (x2 + 1))] dX12_token_180 rfl rfl (by decide) rfl ?_
  refine go_goto 144 dX12_token_183 (by decide) ?_
  exact hrec144 (x2 + 1) σ hf
set_option maxRecDepth 100000 in
set_option maxHeartbeats 4000000 in
theorem w_X12_token_208 {N : Nat} {Γ : SG} {ρ : Nat → Nat → Nat} (hs : Sh Γ ρ) {this : Nat} (h0 : Γ[this]? = some (0, 12)) {n0 : Nat} {r : Int32} {σr : St} (x2 : Int32) (s0 : Int32) (σ : St) (hf : f_X12_token_208 N ρ this x2 s0 σ = some (r, σr)) : Go mX12_token 1 0 0 n0 (Kv Γ ρ σr) 0 0 208 [some (.ref this), none, some (.int x2)] [.int s0, .ref this] (hp Γ ρ σ) := by
  unfold f_X12_token_208 at hf
  obtain ⟨σ18, eσ18, hf⟩ := nmd_some hf
  refine go_pI fl_X12_193 ft_12_6 (okv_i _) dX12_token_208 h0 (by decide) rfl ?_
  rw [eσ18]
  refine go_goto 232 dX12_token_211 (by decide) ?_
  exact w_X12_token_232 hs h0 x2 σ18 hf
set_option maxRecDepth 100000 in
set_option maxHeartbeats 4000000 in
theorem w_X12_token_203 {N : Nat} {Γ : SG} {ρ : Nat → Nat → Nat} (hs : Sh Γ ρ) {this : Nat} (h0 : Γ[this]? = some (0, 12)) {n0 : Nat} {r : Int32} {σr : St} (x2 : Int32) (σ : St) (hf : f_X12_token_203 N ρ this x2 σ = some (r, σr)) : Go mX12_token 1 0 0 n0 (Kv Γ ρ σr) 0 0 203 [some (.ref this), none, some (.int x2)] [.ref this] (hp Γ ρ σ) := by
  unfold f_X12_token_203 at hf
  refine go_iconst 3 dX12_token_203 (by decide) ?_
  refine go_goto 208 dX12_token_204 (by decide) ?_
  exact w_X12_token_208 hs h0 x2 3 σ hf
set_option maxRecDepth 100000 in
set_option maxHeartbeats 4000000 in
theorem v_X12_token_144 {N : Nat} {Γ : SG} {ρ : Nat → Nat → Nat} (hs : Sh Γ ρ) {this : Nat} (h0 : Γ[this]? = some (0, 12)) {n0 : Nat} {r : Int32} {σr : St} (rec144 : Int32 → St → Option (Int32 × St)) (hrec144 : ∀ (x2 : Int32) (σ : St), rec144 x2 σ = some (r, σr) → Go mX12_token 1 0 0 n0 (Kv Γ ρ σr) 0 0 144 [some (.ref this), none, some (.int x2)] [] (hp Γ ρ σ)) (x2 : Int32) (σ : St) (hf : b_X12_token_144 N ρ this rec144 x2 σ = some (r, σr)) : Go mX12_token 1 0 0 n0 (Kv Γ ρ σr) 0 0 144 [some (.ref this), none, some (.int x2)] [] (hp Γ ρ σ) := by
  unfold b_X12_token_144 at hf
  refine go_aload_n 0 dX12_token_144 rfl rfl ?_
  refine go_iload_n 2 dX12_token_145 rfl rfl ?_
  obtain ⟨r19, σ20, q21, hf⟩ := bnd_some hf
  refine go_Vi (av := [.int x2]) (rest := []) (t_X12_here hs h0 q21) ok_X12_here ml_X12_179 dX12_token_146 h0 rfl rfl (by decide) (Nat.le_refl _) (Nat.le_refl _) (Nat.le_of_ble_eq_true rfl) ?_
  obtain ⟨r22, σ23, q24, hf⟩ := bnd_some hf
  refine go_Si (av := [.int r19]) (rest := []) (t_X12_isDigit hs  q24) ok_X12_isDigit ml_X12_200 dX12_token_149 rfl rfl (by decide) (Nat.le_refl _) (Nat.le_refl _) (Nat.le_of_ble_eq_true rfl) ?_
  refine go_if_eq 186 dX12_token_152 (by decide) (fun c25 => ?_) (fun c25 => ?_)
  · replace hf := (if_pos c25).symm.trans hf
    refine go_aload_n 0 dX12_token_186 rfl rfl ?_
    refine go_iload_n 2 dX12_token_187 rfl rfl ?_
    refine go_iconst 4 dX12_token_188 (by decide) ?_
    refine go_icmp_gt 203 dX12_token_189 (by decide) (fun c26 => ?_) (fun c26 => ?_)
    · replace hf := (if_pos c26).symm.trans hf
      exact w_X12_token_203 hs h0 x2 σ23 hf
    · replace hf := (if_neg c26).symm.trans hf
      refine go_aload_n 0 dX12_token_192 rfl rfl ?_
      refine go_iload_n 2 dX12_token_193 rfl rfl ?_
      obtain ⟨r27, σ28, q29, hf⟩ := bnd_some hf
      refine go_Vi (av := [.int x2]) (rest := [.ref this]) (t_X12_here hs h0 q29) ok_X12_here ml_X12_179 dX12_token_194 h0 rfl rfl (by decide) (Nat.le_refl _) (Nat.le_refl _) (Nat.le_of_ble_eq_true rfl) ?_
      obtain ⟨r30, σ31, q32, hf⟩ := bnd_some hf
      refine go_Si (av := [.int r27]) (rest := [.ref this]) (t_X12_isLetter hs  q32) ok_X12_isLetter ml_X12_196 dX12_token_197 rfl rfl (by decide) (Nat.le_refl _) (Nat.le_refl _) (Nat.le_of_ble_eq_true rfl) ?_
      refine go_if_eq 207 dX12_token_200 (by decide) (fun c33 => ?_) (fun c33 => ?_)
      · replace hf := (if_pos c33).symm.trans hf
        refine go_iconst 2 dX12_token_207 (by decide) ?_
        exact w_X12_token_208 hs h0 x2 2 σ31 hf
      · replace hf := (if_neg c33).symm.trans hf
        exact w_X12_token_203 hs h0 x2 σ31 hf
  · replace hf := (if_neg c25).symm.trans hf
    refine go_iload_n 2 dX12_token_155 rfl rfl ?_
    refine go_iconst 4 dX12_token_156 (by decide) ?_
    refine go_icmp_ge 180 dX12_token_157 (by decide) (fun c34 => ?_) (fun c34 => ?_)
    · replace hf := (if_pos c34).symm.trans hf
      exact w_X12_token_180 hs h0 rec144 hrec144 x2 σ23 hf
    · replace hf := (if_neg c34).symm.trans hf
      refine go_aload_n 0 dX12_token_160 rfl rfl ?_
      refine go_bipush 10 dX12_token_161 (by decide) ?_
      refine go_aload_n 0 dX12_token_163 rfl rfl ?_
      refine go_fI fl_X12_190 dX12_token_164 h0 (by decide) rfl ?_
      refine go_imul dX12_token_167 ?_
      refine go_aload_n 0 dX12_token_168 rfl rfl ?_
      refine go_iload_n 2 dX12_token_169 rfl rfl ?_
      obtain ⟨r35, σ36, q37, hf⟩ := bnd_some hf
      refine go_Vi (av := [.int x2]) (rest := [.int (10 * (σ23.1 this 8)), .ref this]) (t_X12_here hs h0 q37) ok_X12_here ml_X12_179 dX12_token_170 h0 rfl rfl (by decide) (Nat.le_refl _) (Nat.le_refl _) (Nat.le_of_ble_eq_true rfl) ?_
      refine go_iadd dX12_token_173 ?_
      refine go_bipush 48 dX12_token_174 (by decide) ?_
      refine go_isub dX12_token_176 ?_
      obtain ⟨σ38, eσ38, hf⟩ := nmd_some hf
      refine go_pI fl_X12_190 ft_12_8 (okv_i _) dX12_token_177 h0 (by decide) rfl ?_
      rw [eσ38]
      exact w_X12_token_180 hs h0 rec144 hrec144 x2 σ38 hf
theorem w_X12_token_144 {N : Nat} {Γ : SG} {ρ : Nat → Nat → Nat} (hs : Sh Γ ρ) {this : Nat} (h0 : Γ[this]? = some (0, 12)) {n0 : Nat} {r : Int32} {σr : St} : ∀ (n : Nat) (x2 : Int32) (σ : St), f_X12_token_144 N ρ this n x2 σ = some (r, σr) → Go mX12_token 1 0 0 n0 (Kv Γ ρ σr) 0 0 144 [some (.ref this), none, some (.int x2)] [] (hp Γ ρ σ) := by
  intro n
  induction n with
  | zero => intro x2 σ hf; cases hf
  | succ n ih => intro x2 σ hf; exact v_X12_token_144 hs h0 _ ih x2 σ hf
set_option maxRecDepth 100000 in
set_option maxHeartbeats 4000000 in
theorem w_X12_token_229 {N : Nat} {Γ : SG} {ρ : Nat → Nat → Nat} (hs : Sh Γ ρ) {this : Nat} (h0 : Γ[this]? = some (0, 12)) {n0 : Nat} {r : Int32} {σr : St} (x2 : Int32) (s0 : Int32) (σ : St) (hf : f_X12_token_229 N ρ this x2 s0 σ = some (r, σr)) : Go mX12_token 1 0 0 n0 (Kv Γ ρ σr) 0 0 229 [some (.ref this), none, some (.int x2)] [.int s0, .ref this] (hp Γ ρ σ) := by
  unfold f_X12_token_229 at hf
  obtain ⟨σ39, eσ39, hf⟩ := nmd_some hf
  refine go_pI fl_X12_193 ft_12_6 (okv_i _) dX12_token_229 h0 (by decide) rfl ?_
  rw [eσ39]
  exact w_X12_token_232 hs h0 x2 σ39 hf
set_option maxRecDepth 100000 in
set_option maxHeartbeats 4000000 in
theorem v_X12_token_0 {N : Nat} {Γ : SG} {ρ : Nat → Nat → Nat} (hs : Sh Γ ρ) {this : Nat} (h0 : Γ[this]? = some (0, 12)) {n0 : Nat} {r : Int32} {σr : St} (rec0 : St → Option (Int32 × St)) (hrec0 : ∀ (σ : St), rec0 σ = some (r, σr) → Go mX12_token 1 0 0 n0 (Kv Γ ρ σr) 0 0 0 [some (.ref this), none, none] [] (hp Γ ρ σ)) (σ : St) (hf : b_X12_token_0 N ρ this rec0 σ = some (r, σr)) : Go mX12_token 1 0 0 n0 (Kv Γ ρ σr) 0 0 0 [some (.ref this), none, none] [] (hp Γ ρ σ) := by
  unfold b_X12_token_0 at hf
  refine go_aload_n 0 dX12_token_0 rfl rfl ?_
  refine go_iconst 0 dX12_token_1 (by decide) ?_
  obtain ⟨r40, σ41, q42, hf⟩ := bnd_some hf
  refine go_Vi (av := [.int 0]) (rest := []) (t_X12_here hs h0 q42) ok_X12_here ml_X12_179 dX12_token_2 h0 rfl rfl (by decide) (Nat.le_refl _) (Nat.le_refl _) (Nat.le_of_ble_eq_true rfl) ?_
  refine go_bipush 32 dX12_token_5 (by decide) ?_
  refine go_icmp_eq 20 dX12_token_7 (by decide) (fun c43 => ?_) (fun c43 => ?_)
  · replace hf := (if_pos c43).symm.trans hf
    exact w_X12_token_20 hs h0 rec0 hrec0 σ41 hf
  · replace hf := (if_neg c43).symm.trans hf
    refine go_aload_n 0 dX12_token_10 rfl rfl ?_
    refine go_iconst 0 dX12_token_11 (by decide) ?_
    obtain ⟨r44, σ45, q46, hf⟩ := bnd_some hf
    refine go_Vi (av := [.int 0]) (rest := []) (t_X12_here hs h0 q46) ok_X12_here ml_X12_179 dX12_token_12 h0 rfl rfl (by decide) (Nat.le_refl _) (Nat.le_refl _) (Nat.le_of_ble_eq_true rfl) ?_
    refine go_bipush 10 dX12_token_15 (by decide) ?_
    refine go_icmp_ne 33 dX12_token_17 (by decide) (fun c47 => ?_) (fun c47 => ?_)
    · replace hf := (if_neg c47).symm.trans hf
      refine go_aload_n 0 dX12_token_33 rfl rfl ?_
      refine go_aload_n 0 dX12_token_34 rfl rfl ?_
      refine go_fI fl_X12_173 dX12_token_35 h0 (by decide) rfl ?_
      obtain ⟨σ48, eσ48, hf⟩ := nmd_some hf
      refine go_pI fl_X12_183 ft_12_7 (okv_i _) dX12_token_38 h0 (by decide) rfl ?_
      rw [eσ48]
      refine go_aload_n 0 dX12_token_41 rfl rfl ?_
      refine go_iconst 0 dX12_token_42 (by decide) ?_
      obtain ⟨r49, σ50, q51, hf⟩ := bnd_some hf
      refine go_Vi (av := [.int 0]) (rest := []) (t_X12_here hs h0 q51) ok_X12_here ml_X12_179 dX12_token_43 h0 rfl rfl (by decide) (Nat.le_refl _) (Nat.le_refl _) (Nat.le_of_ble_eq_true rfl) ?_
      refine go_istore_n 1 [some (.ref this), some (.int r49), none] dX12_token_46 rfl (by decide) rfl ?_
      refine go_iconst 0 dX12_token_47 (by decide) ?_
      refine go_istore_n 2 [some (.ref this), some (.int r49), some (.int 0)] dX12_token_48 rfl (by decide) rfl ?_
      refine go_aload_n 0 dX12_token_49 rfl rfl ?_
      refine go_lconst 0 dX12_token_50 rfl ?_
      obtain ⟨σ52, eσ52, hf⟩ := nmd_some hf
      refine go_pJ fl_X12_186 ft_12_9 dX12_token_51 h0 (by decide) rfl ?_
      rw [eσ52]
      refine go_aload_n 0 dX12_token_54 rfl rfl ?_
      refine go_iconst 0 dX12_token_55 (by decide) ?_
      obtain ⟨σ53, eσ53, hf⟩ := nmd_some hf
      refine go_pI fl_X12_190 ft_12_8 (okv_i _) dX12_token_56 h0 (by decide) rfl ?_
      rw [eσ53]
      refine go_iload_n 1 dX12_token_59 rfl rfl ?_
      refine go_if_ge 71 dX12_token_60 (by decide) (fun c54 => ?_) (fun c54 => ?_)
      · replace hf := (if_pos c54).symm.trans hf
        refine go_iload_n 1 dX12_token_71 rfl rfl ?_
        obtain ⟨r55, σ56, q57, hf⟩ := bnd_some hf
        refine go_Si (av := [.int r49]) (rest := []) (t_X12_isLetter hs  q57) ok_X12_isLetter ml_X12_196 dX12_token_72 rfl rfl (by decide) (Nat.le_refl _) (Nat.le_refl _) (Nat.le_of_ble_eq_true rfl) ?_
        refine go_if_eq 137 dX12_token_75 (by decide) (fun c58 => ?_) (fun c58 => ?_)
        · replace hf := (if_pos c58).symm.trans hf
          refine go_iload_n 1 dX12_token_137 rfl rfl ?_
          obtain ⟨r59, σ60, q61, hf⟩ := bnd_some hf
          refine go_Si (av := [.int r49]) (rest := []) (t_X12_isDigit hs  q61) ok_X12_isDigit ml_X12_200 dX12_token_138 rfl rfl (by decide) (Nat.le_refl _) (Nat.le_refl _) (Nat.le_of_ble_eq_true rfl) ?_
          refine go_if_eq 214 dX12_token_141 (by decide) (fun c62 => ?_) (fun c62 => ?_)
          · replace hf := (if_pos c62).symm.trans hf
            refine go_iconst 1 dX12_token_214 (by decide) ?_
            refine go_istore_n 2 [some (.ref this), some (.int r49), some (.int 1)] dX12_token_215 rfl (by decide) rfl ?_
            refine go_aload_n 0 dX12_token_216 rfl rfl ?_
            refine go_iload_n 1 dX12_token_217 rfl rfl ?_
            obtain ⟨r63, σ64, q65, hf⟩ := bnd_some hf
            refine go_Si (av := [.int r49]) (rest := [.ref this]) (t_X12_isSign hs  q65) ok_X12_isSign ml_X12_203 dX12_token_218 rfl rfl (by decide) (Nat.le_refl _) (Nat.le_refl _) (Nat.le_of_ble_eq_true rfl) ?_
            refine go_if_eq 228 dX12_token_221 (by decide) (fun c66 => ?_) (fun c66 => ?_)
            · replace hf := (if_pos c66).symm.trans hf
              refine go_iconst 3 dX12_token_228 (by decide) ?_
              refine go_msk [true, false, true] [some (.ref this), none, some (.int 1)] rfl ?_
              exact w_X12_token_229 hs h0 1 3 σ64 hf
            · replace hf := (if_neg c66).symm.trans hf
              refine go_iload_n 1 dX12_token_224 rfl rfl ?_
              refine go_goto 229 dX12_token_225 (by decide) ?_
              refine go_msk [true, false, true] [some (.ref this), none, some (.int 1)] rfl ?_
              exact w_X12_token_229 hs h0 1 r49 σ64 hf
          · replace hf := (if_neg c62).symm.trans hf
            refine go_msk [true, false, true] [some (.ref this), none, some (.int 0)] rfl ?_
            exact w_X12_token_144 hs h0 N 0 σ60 hf
        · replace hf := (if_neg c58).symm.trans hf
          refine go_msk [true, false, true] [some (.ref this), none, some (.int 0)] rfl ?_
          exact w_X12_token_78 hs h0 N 0 σ56 hf
      · replace hf := (if_neg c54).symm.trans hf
        refine go_aload_n 0 dX12_token_63 rfl rfl ?_
        refine go_iconst 0 dX12_token_64 (by decide) ?_
        obtain ⟨σ67, eσ67, hf⟩ := nmd_some hf
        refine go_pI fl_X12_193 ft_12_6 (okv_i _) dX12_token_65 h0 (by decide) rfl ?_
        rw [eσ67]
        refine go_goto 232 dX12_token_68 (by decide) ?_
        refine go_msk [true, false, true] [some (.ref this), none, some (.int 0)] rfl ?_
        exact w_X12_token_232 hs h0 0 σ67 hf
    · replace hf := (if_pos c47).symm.trans hf
      exact w_X12_token_20 hs h0 rec0 hrec0 σ45 hf
theorem w_X12_token_0 {N : Nat} {Γ : SG} {ρ : Nat → Nat → Nat} (hs : Sh Γ ρ) {this : Nat} (h0 : Γ[this]? = some (0, 12)) {n0 : Nat} {r : Int32} {σr : St} : ∀ (n : Nat) (σ : St), f_X12_token_0 N ρ this n σ = some (r, σr) → Go mX12_token 1 0 0 n0 (Kv Γ ρ σr) 0 0 0 [some (.ref this), none, none] [] (hp Γ ρ σ) := by
  intro n
  induction n with
  | zero => intro σ hf; cases hf
  | succ n ih => intro σ hf; exact v_X12_token_0 hs h0 _ ih σ hf
set_option maxRecDepth 100000 in
set_option maxHeartbeats 4000000 in
theorem t_X12_token {N : Nat} {Γ : SG} {ρ : Nat → Nat → Nat} (hs : Sh Γ ρ) {this : Nat} (h0 : Γ[this]? = some (0, 12)) {σ : St} {r : Int32} {σr : St} (hf : f_X12_token N ρ this σ = some (r, σr)) : Tri mX12_token 1 0 0 [.ref this] (hp Γ ρ σ) (Kv Γ ρ σr) := by
  unfold f_X12_token at hf
  refine tri_of [some (.ref this), none, none] (plainFor_of_name rfl) rfl (Nat.le_of_ble_eq_true rfl) ?_
  exact w_X12_token_0 hs h0 N σ hf
def f_X12_wrong_22 (N : Nat) (ρ : Nat → Nat → Nat) (this : Nat) (a1 : Int32) (s0 : Int32) (σ : St) : Option (Int32 × St) :=
  nmd (sI σ this 2 s0) fun σ1 =>
  nmd (sI σ1 this 3 (σ1.1 this 7)) fun σ2 =>
  some (0, σ2)
def f_X12_wrong (N : Nat) (ρ : Nat → Nat → Nat) (this : Nat) (a1 : Int32) (σ : St) : Option (Int32 × St) :=
  if (σ.1 this 2 : Int32) ≤ 0 then
    if (σ.1 this 6 : Int32) = 3 then
      f_X12_wrong_22 N ρ this a1 1 σ
    else
      f_X12_wrong_22 N ρ this a1 a1 σ
  else
    some (0, σ)
set_option maxRecDepth 100000 in
set_option maxHeartbeats 4000000 in
theorem w_X12_wrong_22 {N : Nat} {Γ : SG} {ρ : Nat → Nat → Nat} (hs : Sh Γ ρ) {this : Nat} {a1 : Int32} (h0 : Γ[this]? = some (0, 12)) {n0 : Nat} {r : Int32} {σr : St} (s0 : Int32) (σ : St) (hf : f_X12_wrong_22 N ρ this a1 s0 σ = some (r, σr)) : Go mX12_wrong 0 0 0 n0 (Kv Γ ρ σr) 0 0 22 [some (.ref this), none] [.int s0, .ref this] (hp Γ ρ σ) := by
  unfold f_X12_wrong_22 at hf
  obtain ⟨σ1, eσ1, hf⟩ := nmd_some hf
  refine go_pI fl_X12_206 ft_12_2 (okv_i _) dX12_wrong_22 h0 (by decide) rfl ?_
  rw [eσ1]
  refine go_aload_n 0 dX12_wrong_25 rfl rfl ?_
  refine go_aload_n 0 dX12_wrong_26 rfl rfl ?_
  refine go_fI fl_X12_183 dX12_wrong_27 h0 (by decide) rfl ?_
  obtain ⟨σ2, eσ2, hf⟩ := nmd_some hf
  refine go_pI fl_X12_13 ft_12_3 (okv_i _) dX12_wrong_30 h0 (by decide) rfl ?_
  rw [eσ2]
  cases hf
  exact go_vret rfl dX12_wrong_33 (Nat.le_refl _) ⟨rfl, rfl⟩
set_option maxRecDepth 100000 in
set_option maxHeartbeats 4000000 in
theorem t_X12_wrong {N : Nat} {Γ : SG} {ρ : Nat → Nat → Nat} (hs : Sh Γ ρ) {this : Nat} {a1 : Int32} (h0 : Γ[this]? = some (0, 12)) {σ : St} {r : Int32} {σr : St} (hf : f_X12_wrong N ρ this a1 σ = some (r, σr)) : Tri mX12_wrong 0 0 0 [.ref this, .int a1] (hp Γ ρ σ) (Kv Γ ρ σr) := by
  unfold f_X12_wrong at hf
  refine tri_of [some (.ref this), some (.int a1)] (plainFor_of_name rfl) rfl (Nat.le_of_ble_eq_true rfl) ?_
  refine go_aload_n 0 dX12_wrong_0 rfl rfl ?_
  refine go_fI fl_X12_206 dX12_wrong_1 h0 (by decide) rfl ?_
  refine go_if_le 8 dX12_wrong_4 (by decide) (fun c3 => ?_) (fun c3 => ?_)
  · replace hf := (if_pos c3).symm.trans hf
    refine go_aload_n 0 dX12_wrong_8 rfl rfl ?_
    refine go_aload_n 0 dX12_wrong_9 rfl rfl ?_
    refine go_fI fl_X12_193 dX12_wrong_10 h0 (by decide) rfl ?_
    refine go_iconst 3 dX12_wrong_13 (by decide) ?_
    refine go_icmp_ne 21 dX12_wrong_14 (by decide) (fun c4 => ?_) (fun c4 => ?_)
    · replace hf := (if_neg c4).symm.trans hf
      refine go_iload_n 1 dX12_wrong_21 rfl rfl ?_
      refine go_msk [true, false] [some (.ref this), none] rfl ?_
      exact w_X12_wrong_22 hs h0 a1 σ hf
    · replace hf := (if_pos c4).symm.trans hf
      refine go_iconst 1 dX12_wrong_17 (by decide) ?_
      refine go_goto 22 dX12_wrong_18 (by decide) ?_
      refine go_msk [true, false] [some (.ref this), none] rfl ?_
      exact w_X12_wrong_22 hs h0 1 σ hf
  · replace hf := (if_neg c3).symm.trans hf
    cases hf
    exact go_vret rfl dX12_wrong_7 (Nat.le_refl _) ⟨rfl, rfl⟩
def f_X12_isWord_22 (N : Nat) (ρ : Nat → Nat → Nat) (this : Nat) (a1 : Int64) (s0 : Int32) (σ : St) : Option (Int32 × St) :=
  gd (bb s0) <|
  some (s0, σ)
def f_X12_isWord_21 (N : Nat) (ρ : Nat → Nat → Nat) (this : Nat) (a1 : Int64) (σ : St) : Option (Int32 × St) :=
  f_X12_isWord_22 N ρ this a1 0 σ
def f_X12_isWord (N : Nat) (ρ : Nat → Nat → Nat) (this : Nat) (a1 : Int64) (σ : St) : Option (Int32 × St) :=
  if (σ.1 this 6 : Int32) = 1 then
    if (lg_cmp (σ.2 this 9) a1 : Int32) = 0 then
      f_X12_isWord_22 N ρ this a1 1 σ
    else
      f_X12_isWord_21 N ρ this a1 σ
  else
    f_X12_isWord_21 N ρ this a1 σ
set_option maxRecDepth 100000 in
set_option maxHeartbeats 4000000 in
theorem w_X12_isWord_22 {N : Nat} {Γ : SG} {ρ : Nat → Nat → Nat} (hs : Sh Γ ρ) {this : Nat} {a1 : Int64} (h0 : Γ[this]? = some (0, 12)) {n0 : Nat} {r : Int32} {σr : St} (s0 : Int32) (σ : St) (hf : f_X12_isWord_22 N ρ this a1 s0 σ = some (r, σr)) : Go mX12_isWord 0 0 0 n0 (Ki Γ ρ r σr) 0 0 22 [none, none, none] [.int s0] (hp Γ ρ σ) := by
  unfold f_X12_isWord_22 at hf
  obtain ⟨g1, hf⟩ := gd_some hf
  cases hf
  exact go_zret rfl (bb_of g1) dX12_isWord_22 (Nat.le_refl _) ⟨rfl, rfl⟩
set_option maxRecDepth 100000 in
set_option maxHeartbeats 4000000 in
theorem w_X12_isWord_21 {N : Nat} {Γ : SG} {ρ : Nat → Nat → Nat} (hs : Sh Γ ρ) {this : Nat} {a1 : Int64} (h0 : Γ[this]? = some (0, 12)) {n0 : Nat} {r : Int32} {σr : St} (σ : St) (hf : f_X12_isWord_21 N ρ this a1 σ = some (r, σr)) : Go mX12_isWord 0 0 0 n0 (Ki Γ ρ r σr) 0 0 21 [none, none, none] [] (hp Γ ρ σ) := by
  unfold f_X12_isWord_21 at hf
  refine go_iconst 0 dX12_isWord_21 (by decide) ?_
  exact w_X12_isWord_22 hs h0 0 σ hf
set_option maxRecDepth 100000 in
set_option maxHeartbeats 4000000 in
theorem t_X12_isWord {N : Nat} {Γ : SG} {ρ : Nat → Nat → Nat} (hs : Sh Γ ρ) {this : Nat} {a1 : Int64} (h0 : Γ[this]? = some (0, 12)) {σ : St} {r : Int32} {σr : St} (hf : f_X12_isWord N ρ this a1 σ = some (r, σr)) : Tri mX12_isWord 0 0 0 [.ref this, .long a1] (hp Γ ρ σ) (Ki Γ ρ r σr) := by
  unfold f_X12_isWord at hf
  refine tri_of [some (.ref this), some (.long a1), none] (plainFor_of_name rfl) rfl (Nat.le_of_ble_eq_true rfl) ?_
  refine go_aload_n 0 dX12_isWord_0 rfl rfl ?_
  refine go_fI fl_X12_193 dX12_isWord_1 h0 (by decide) rfl ?_
  refine go_iconst 1 dX12_isWord_4 (by decide) ?_
  refine go_icmp_ne 21 dX12_isWord_5 (by decide) (fun c2 => ?_) (fun c2 => ?_)
  · replace hf := (if_neg c2).symm.trans hf
    refine go_msk [false, false, false] [none, none, none] rfl ?_
    exact w_X12_isWord_21 hs h0 σ hf
  · replace hf := (if_pos c2).symm.trans hf
    refine go_aload_n 0 dX12_isWord_8 rfl rfl ?_
    refine go_fJ fl_X12_186 dX12_isWord_9 h0 (by decide) rfl ?_
    refine go_lload_n 1 dX12_isWord_12 rfl rfl ?_
    refine go_lcmp dX12_isWord_13 ?_
    refine go_if_ne 21 dX12_isWord_14 (by decide) (fun c3 => ?_) (fun c3 => ?_)
    · replace hf := (if_neg c3).symm.trans hf
      refine go_msk [false, false, false] [none, none, none] rfl ?_
      exact w_X12_isWord_21 hs h0 σ hf
    · replace hf := (if_pos c3).symm.trans hf
      refine go_iconst 1 dX12_isWord_17 (by decide) ?_
      refine go_goto 22 dX12_isWord_18 (by decide) ?_
      refine go_msk [false, false, false] [none, none, none] rfl ?_
      exact w_X12_isWord_22 hs h0 1 σ hf
def f_X12_isOwn_214 (N : Nat) (ρ : Nat → Nat → Nat) (this : Nat) (s0 : Int32) (σ : St) : Option (Int32 × St) :=
  gd (bb s0) <|
  some (s0, σ)
def f_X12_isOwn_209 (N : Nat) (ρ : Nat → Nat → Nat) (this : Nat) (σ : St) : Option (Int32 × St) :=
  f_X12_isOwn_214 N ρ this 1 σ
def f_X12_isOwn (N : Nat) (ρ : Nat → Nat → Nat) (this : Nat) (σ : St) : Option (Int32 × St) :=
  if (lg_cmp (σ.2 this 9) (114784635876456) : Int32) = 0 then
    f_X12_isOwn_209 N ρ this σ
  else
    if (lg_cmp (σ.2 this 9) (24948) : Int32) = 0 then
      f_X12_isOwn_209 N ρ this σ
    else
      if (lg_cmp (σ.2 this 9) (448377484921) : Int32) = 0 then
        f_X12_isOwn_209 N ρ this σ
      else
        if (lg_cmp (σ.2 this 9) (1919905645) : Int32) = 0 then
          f_X12_isOwn_209 N ρ this σ
        else
          if (lg_cmp (σ.2 this 9) (2002874989) : Int32) = 0 then
            f_X12_isOwn_209 N ρ this σ
          else
            if (lg_cmp (σ.2 this 9) (495874699116) : Int32) = 0 then
              f_X12_isOwn_209 N ρ this σ
            else
              if (lg_cmp (σ.2 this 9) (126943973305959) : Int32) = 0 then
                f_X12_isOwn_209 N ρ this σ
              else
                if (lg_cmp (σ.2 this 9) (427121010020) : Int32) = 0 then
                  f_X12_isOwn_209 N ρ this σ
                else
                  if (lg_cmp (σ.2 this 9) (1684369012) : Int32) = 0 then
                    f_X12_isOwn_209 N ρ this σ
                  else
                    if (lg_cmp (σ.2 this 9) (422607680115) : Int32) = 0 then
                      f_X12_isOwn_209 N ρ this σ
                    else
                      if (lg_cmp (σ.2 this 9) (512801993331) : Int32) = 0 then
                        f_X12_isOwn_209 N ρ this σ
                      else
                        if (lg_cmp (σ.2 this 9) (495556388211) : Int32) = 0 then
                          f_X12_isOwn_209 N ρ this σ
                        else
                          if (lg_cmp (σ.2 this 9) (1668246628) : Int32) = 0 then
                            f_X12_isOwn_209 N ρ this σ
                          else
                            if (lg_cmp (σ.2 this 9) (1685217655) : Int32) = 0 then
                              f_X12_isOwn_209 N ρ this σ
                            else
                              if (lg_cmp (σ.2 this 9) (1835101817) : Int32) = 0 then
                                f_X12_isOwn_209 N ρ this σ
                              else
                                if (lg_cmp (σ.2 this 9) (6578553) : Int32) = 0 then
                                  f_X12_isOwn_209 N ρ this σ
                                else
                                  if (lg_cmp (σ.2 this 9) (6385252) : Int32) = 0 then
                                    f_X12_isOwn_209 N ρ this σ
                                  else
                                    if (lg_cmp (σ.2 this 9) (28530) : Int32) = 0 then
                                      f_X12_isOwn_209 N ρ this σ
                                    else
                                      if (lg_cmp (σ.2 this 9) (7237492) : Int32) = 0 then
                                        f_X12_isOwn_209 N ρ this σ
                                      else
                                        f_X12_isOwn_214 N ρ this 0 σ
set_option maxRecDepth 100000 in
set_option maxHeartbeats 4000000 in
theorem w_X12_isOwn_214 {N : Nat} {Γ : SG} {ρ : Nat → Nat → Nat} (hs : Sh Γ ρ) {this : Nat} (h0 : Γ[this]? = some (0, 12)) {n0 : Nat} {r : Int32} {σr : St} (s0 : Int32) (σ : St) (hf : f_X12_isOwn_214 N ρ this s0 σ = some (r, σr)) : Go mX12_isOwn 0 0 0 n0 (Ki Γ ρ r σr) 0 0 214 [none] [.int s0] (hp Γ ρ σ) := by
  unfold f_X12_isOwn_214 at hf
  obtain ⟨g1, hf⟩ := gd_some hf
  cases hf
  exact go_zret rfl (bb_of g1) dX12_isOwn_214 (Nat.le_refl _) ⟨rfl, rfl⟩
set_option maxRecDepth 100000 in
set_option maxHeartbeats 4000000 in
theorem w_X12_isOwn_209 {N : Nat} {Γ : SG} {ρ : Nat → Nat → Nat} (hs : Sh Γ ρ) {this : Nat} (h0 : Γ[this]? = some (0, 12)) {n0 : Nat} {r : Int32} {σr : St} (σ : St) (hf : f_X12_isOwn_209 N ρ this σ = some (r, σr)) : Go mX12_isOwn 0 0 0 n0 (Ki Γ ρ r σr) 0 0 209 [none] [] (hp Γ ρ σ) := by
  unfold f_X12_isOwn_209 at hf
  refine go_iconst 1 dX12_isOwn_209 (by decide) ?_
  refine go_goto 214 dX12_isOwn_210 (by decide) ?_
  exact w_X12_isOwn_214 hs h0 1 σ hf
set_option maxRecDepth 100000 in
set_option maxHeartbeats 4000000 in
theorem t_X12_isOwn {N : Nat} {Γ : SG} {ρ : Nat → Nat → Nat} (hs : Sh Γ ρ) {this : Nat} (h0 : Γ[this]? = some (0, 12)) {σ : St} {r : Int32} {σr : St} (hf : f_X12_isOwn N ρ this σ = some (r, σr)) : Tri mX12_isOwn 0 0 0 [.ref this] (hp Γ ρ σ) (Ki Γ ρ r σr) := by
  unfold f_X12_isOwn at hf
  refine tri_of [some (.ref this)] (plainFor_of_name rfl) rfl (Nat.le_of_ble_eq_true rfl) ?_
  refine go_aload_n 0 dX12_isOwn_0 rfl rfl ?_
  refine go_fJ fl_X12_186 dX12_isOwn_1 h0 (by decide) rfl ?_
  refine go_ldc2 (114784635876456) dX12_isOwn_4 cn_X12_209 ?_
  refine go_lcmp dX12_isOwn_7 ?_
  refine go_if_eq 209 dX12_isOwn_8 (by decide) (fun c2 => ?_) (fun c2 => ?_)
  · replace hf := (if_pos c2).symm.trans hf
    refine go_msk [false] [none] rfl ?_
    exact w_X12_isOwn_209 hs h0 σ hf
  · replace hf := (if_neg c2).symm.trans hf
    refine go_aload_n 0 dX12_isOwn_11 rfl rfl ?_
    refine go_fJ fl_X12_186 dX12_isOwn_12 h0 (by decide) rfl ?_
    refine go_ldc2 (24948) dX12_isOwn_15 cn_X12_211 ?_
    refine go_lcmp dX12_isOwn_18 ?_
    refine go_if_eq 209 dX12_isOwn_19 (by decide) (fun c3 => ?_) (fun c3 => ?_)
    · replace hf := (if_pos c3).symm.trans hf
      refine go_msk [false] [none] rfl ?_
      exact w_X12_isOwn_209 hs h0 σ hf
    · replace hf := (if_neg c3).symm.trans hf
      refine go_aload_n 0 dX12_isOwn_22 rfl rfl ?_
      refine go_fJ fl_X12_186 dX12_isOwn_23 h0 (by decide) rfl ?_
      refine go_ldc2 (448377484921) dX12_isOwn_26 cn_X12_213 ?_
      refine go_lcmp dX12_isOwn_29 ?_
      refine go_if_eq 209 dX12_isOwn_30 (by decide) (fun c4 => ?_) (fun c4 => ?_)
      · replace hf := (if_pos c4).symm.trans hf
        refine go_msk [false] [none] rfl ?_
        exact w_X12_isOwn_209 hs h0 σ hf
      · replace hf := (if_neg c4).symm.trans hf
        refine go_aload_n 0 dX12_isOwn_33 rfl rfl ?_
        refine go_fJ fl_X12_186 dX12_isOwn_34 h0 (by decide) rfl ?_
        refine go_ldc2 (1919905645) dX12_isOwn_37 cn_X12_215 ?_
        refine go_lcmp dX12_isOwn_40 ?_
        refine go_if_eq 209 dX12_isOwn_41 (by decide) (fun c5 => ?_) (fun c5 => ?_)
        · replace hf := (if_pos c5).symm.trans hf
          refine go_msk [false] [none] rfl ?_
          exact w_X12_isOwn_209 hs h0 σ hf
        · replace hf := (if_neg c5).symm.trans hf
          refine go_aload_n 0 dX12_isOwn_44 rfl rfl ?_
          refine go_fJ fl_X12_186 dX12_isOwn_45 h0 (by decide) rfl ?_
          refine go_ldc2 (2002874989) dX12_isOwn_48 cn_X12_217 ?_
          refine go_lcmp dX12_isOwn_51 ?_
          refine go_if_eq 209 dX12_isOwn_52 (by decide) (fun c6 => ?_) (fun c6 => ?_)
          · replace hf := (if_pos c6).symm.trans hf
            refine go_msk [false] [none] rfl ?_
            exact w_X12_isOwn_209 hs h0 σ hf
          · replace hf := (if_neg c6).symm.trans hf
            refine go_aload_n 0 dX12_isOwn_55 rfl rfl ?_
            refine go_fJ fl_X12_186 dX12_isOwn_56 h0 (by decide) rfl ?_
            refine go_ldc2 (495874699116) dX12_isOwn_59 cn_X12_219 ?_
            refine go_lcmp dX12_isOwn_62 ?_
            refine go_if_eq 209 dX12_isOwn_63 (by decide) (fun c7 => ?_) (fun c7 => ?_)
            · replace hf := (if_pos c7).symm.trans hf
              refine go_msk [false] [none] rfl ?_
              exact w_X12_isOwn_209 hs h0 σ hf
            · replace hf := (if_neg c7).symm.trans hf
              refine go_aload_n 0 dX12_isOwn_66 rfl rfl ?_
              refine go_fJ fl_X12_186 dX12_isOwn_67 h0 (by decide) rfl ?_
              refine go_ldc2 (126943973305959) dX12_isOwn_70 cn_X12_221 ?_
              refine go_lcmp dX12_isOwn_73 ?_
              refine go_if_eq 209 dX12_isOwn_74 (by decide) (fun c8 => ?_) (fun c8 => ?_)
              · replace hf := (if_pos c8).symm.trans hf
                refine go_msk [false] [none] rfl ?_
                exact w_X12_isOwn_209 hs h0 σ hf
              · replace hf := (if_neg c8).symm.trans hf
                refine go_aload_n 0 dX12_isOwn_77 rfl rfl ?_
                refine go_fJ fl_X12_186 dX12_isOwn_78 h0 (by decide) rfl ?_
                refine go_ldc2 (427121010020) dX12_isOwn_81 cn_X12_223 ?_
                refine go_lcmp dX12_isOwn_84 ?_
                refine go_if_eq 209 dX12_isOwn_85 (by decide) (fun c9 => ?_) (fun c9 => ?_)
                · replace hf := (if_pos c9).symm.trans hf
                  refine go_msk [false] [none] rfl ?_
                  exact w_X12_isOwn_209 hs h0 σ hf
                · replace hf := (if_neg c9).symm.trans hf
                  refine go_aload_n 0 dX12_isOwn_88 rfl rfl ?_
                  refine go_fJ fl_X12_186 dX12_isOwn_89 h0 (by decide) rfl ?_
                  refine go_ldc2 (1684369012) dX12_isOwn_92 cn_X12_225 ?_
                  refine go_lcmp dX12_isOwn_95 ?_
                  refine go_if_eq 209 dX12_isOwn_96 (by decide) (fun c10 => ?_) (fun c10 => ?_)
                  · replace hf := (if_pos c10).symm.trans hf
                    refine go_msk [false] [none] rfl ?_
                    exact w_X12_isOwn_209 hs h0 σ hf
                  · replace hf := (if_neg c10).symm.trans hf
                    refine go_aload_n 0 dX12_isOwn_99 rfl rfl ?_
                    refine go_fJ fl_X12_186 dX12_isOwn_100 h0 (by decide) rfl ?_
                    refine go_ldc2 (422607680115) dX12_isOwn_103 cn_X12_227 ?_
                    refine go_lcmp dX12_isOwn_106 ?_
                    refine go_if_eq 209 dX12_isOwn_107 (by decide) (fun c11 => ?_) (fun c11 => ?_)
                    · replace hf := (if_pos c11).symm.trans hf
                      refine go_msk [false] [none] rfl ?_
                      exact w_X12_isOwn_209 hs h0 σ hf
                    · replace hf := (if_neg c11).symm.trans hf
                      refine go_aload_n 0 dX12_isOwn_110 rfl rfl ?_
                      refine go_fJ fl_X12_186 dX12_isOwn_111 h0 (by decide) rfl ?_
                      refine go_ldc2 (512801993331) dX12_isOwn_114 cn_X12_229 ?_
                      refine go_lcmp dX12_isOwn_117 ?_
                      refine go_if_eq 209 dX12_isOwn_118 (by decide) (fun c12 => ?_) (fun c12 => ?_)
                      · replace hf := (if_pos c12).symm.trans hf
                        refine go_msk [false] [none] rfl ?_
                        exact w_X12_isOwn_209 hs h0 σ hf
                      · replace hf := (if_neg c12).symm.trans hf
                        refine go_aload_n 0 dX12_isOwn_121 rfl rfl ?_
                        refine go_fJ fl_X12_186 dX12_isOwn_122 h0 (by decide) rfl ?_
                        refine go_ldc2 (495556388211) dX12_isOwn_125 cn_X12_231 ?_
                        refine go_lcmp dX12_isOwn_128 ?_
                        refine go_if_eq 209 dX12_isOwn_129 (by decide) (fun c13 => ?_) (fun c13 => ?_)
                        · replace hf := (if_pos c13).symm.trans hf
                          refine go_msk [false] [none] rfl ?_
                          exact w_X12_isOwn_209 hs h0 σ hf
                        · replace hf := (if_neg c13).symm.trans hf
                          refine go_aload_n 0 dX12_isOwn_132 rfl rfl ?_
                          refine go_fJ fl_X12_186 dX12_isOwn_133 h0 (by decide) rfl ?_
                          refine go_ldc2 (1668246628) dX12_isOwn_136 cn_X12_233 ?_
                          refine go_lcmp dX12_isOwn_139 ?_
                          refine go_if_eq 209 dX12_isOwn_140 (by decide) (fun c14 => ?_) (fun c14 => ?_)
                          · replace hf := (if_pos c14).symm.trans hf
                            refine go_msk [false] [none] rfl ?_
                            exact w_X12_isOwn_209 hs h0 σ hf
                          · replace hf := (if_neg c14).symm.trans hf
                            refine go_aload_n 0 dX12_isOwn_143 rfl rfl ?_
                            refine go_fJ fl_X12_186 dX12_isOwn_144 h0 (by decide) rfl ?_
                            refine go_ldc2 (1685217655) dX12_isOwn_147 cn_X12_235 ?_
                            refine go_lcmp dX12_isOwn_150 ?_
                            refine go_if_eq 209 dX12_isOwn_151 (by decide) (fun c15 => ?_) (fun c15 => ?_)
                            · replace hf := (if_pos c15).symm.trans hf
                              refine go_msk [false] [none] rfl ?_
                              exact w_X12_isOwn_209 hs h0 σ hf
                            · replace hf := (if_neg c15).symm.trans hf
                              refine go_aload_n 0 dX12_isOwn_154 rfl rfl ?_
                              refine go_fJ fl_X12_186 dX12_isOwn_155 h0 (by decide) rfl ?_
                              refine go_ldc2 (1835101817) dX12_isOwn_158 cn_X12_237 ?_
                              refine go_lcmp dX12_isOwn_161 ?_
                              refine go_if_eq 209 dX12_isOwn_162 (by decide) (fun c16 => ?_) (fun c16 => ?_)
                              · replace hf := (if_pos c16).symm.trans hf
                                refine go_msk [false] [none] rfl ?_
                                exact w_X12_isOwn_209 hs h0 σ hf
                              · replace hf := (if_neg c16).symm.trans hf
                                refine go_aload_n 0 dX12_isOwn_165 rfl rfl ?_
                                refine go_fJ fl_X12_186 dX12_isOwn_166 h0 (by decide) rfl ?_
                                refine go_ldc2 (6578553) dX12_isOwn_169 cn_X12_239 ?_
                                refine go_lcmp dX12_isOwn_172 ?_
                                refine go_if_eq 209 dX12_isOwn_173 (by decide) (fun c17 => ?_) (fun c17 => ?_)
                                · replace hf := (if_pos c17).symm.trans hf
                                  refine go_msk [false] [none] rfl ?_
                                  exact w_X12_isOwn_209 hs h0 σ hf
                                · replace hf := (if_neg c17).symm.trans hf
                                  refine go_aload_n 0 dX12_isOwn_176 rfl rfl ?_
                                  refine go_fJ fl_X12_186 dX12_isOwn_177 h0 (by decide) rfl ?_
                                  refine go_ldc2 (6385252) dX12_isOwn_180 cn_X12_241 ?_
                                  refine go_lcmp dX12_isOwn_183 ?_
                                  refine go_if_eq 209 dX12_isOwn_184 (by decide) (fun c18 => ?_) (fun c18 => ?_)
                                  · replace hf := (if_pos c18).symm.trans hf
                                    refine go_msk [false] [none] rfl ?_
                                    exact w_X12_isOwn_209 hs h0 σ hf
                                  · replace hf := (if_neg c18).symm.trans hf
                                    refine go_aload_n 0 dX12_isOwn_187 rfl rfl ?_
                                    refine go_fJ fl_X12_186 dX12_isOwn_188 h0 (by decide) rfl ?_
                                    refine go_ldc2 (28530) dX12_isOwn_191 cn_X12_243 ?_
                                    refine go_lcmp dX12_isOwn_194 ?_
                                    refine go_if_eq 209 dX12_isOwn_195 (by decide) (fun c19 => ?_) (fun c19 => ?_)
                                    · replace hf := (if_pos c19).symm.trans hf
                                      refine go_msk [false] [none] rfl ?_
                                      exact w_X12_isOwn_209 hs h0 σ hf
                                    · replace hf := (if_neg c19).symm.trans hf
                                      refine go_aload_n 0 dX12_isOwn_198 rfl rfl ?_
                                      refine go_fJ fl_X12_186 dX12_isOwn_199 h0 (by decide) rfl ?_
                                      refine go_ldc2 (7237492) dX12_isOwn_202 cn_X12_245 ?_
                                      refine go_lcmp dX12_isOwn_205 ?_
                                      refine go_if_ne 213 dX12_isOwn_206 (by decide) (fun c20 => ?_) (fun c20 => ?_)
                                      · replace hf := (if_neg c20).symm.trans hf
                                        refine go_iconst 0 dX12_isOwn_213 (by decide) ?_
                                        refine go_msk [false] [none] rfl ?_
                                        exact w_X12_isOwn_214 hs h0 0 σ hf
                                      · replace hf := (if_pos c20).symm.trans hf
                                        refine go_msk [false] [none] rfl ?_
                                        exact w_X12_isOwn_209 hs h0 σ hf
def f_X12_isName_20 (N : Nat) (ρ : Nat → Nat → Nat) (this : Nat) (s0 : Int32) (σ : St) : Option (Int32 × St) :=
  gd (bb s0) <|
  some (s0, σ)
def f_X12_isName_19 (N : Nat) (ρ : Nat → Nat → Nat) (this : Nat) (σ : St) : Option (Int32 × St) :=
  f_X12_isName_20 N ρ this 0 σ
def f_X12_isName (N : Nat) (ρ : Nat → Nat → Nat) (this : Nat) (σ : St) : Option (Int32 × St) :=
  if (σ.1 this 6 : Int32) = 1 then
    bnd (f_X12_isOwn N ρ this σ) fun r3 σ4 =>
    if (r3 : Int32) = 0 then
      f_X12_isName_20 N ρ this 1 σ4
    else
      f_X12_isName_19 N ρ this σ4
  else
    f_X12_isName_19 N ρ this σ
set_option maxRecDepth 100000 in
set_option maxHeartbeats 4000000 in
theorem w_X12_isName_20 {N : Nat} {Γ : SG} {ρ : Nat → Nat → Nat} (hs : Sh Γ ρ) {this : Nat} (h0 : Γ[this]? = some (0, 12)) {n0 : Nat} {r : Int32} {σr : St} (s0 : Int32) (σ : St) (hf : f_X12_isName_20 N ρ this s0 σ = some (r, σr)) : Go mX12_isName 1 0 0 n0 (Ki Γ ρ r σr) 0 0 20 [none] [.int s0] (hp Γ ρ σ) := by
  unfold f_X12_isName_20 at hf
  obtain ⟨g1, hf⟩ := gd_some hf
  cases hf
  exact go_zret rfl (bb_of g1) dX12_isName_20 (Nat.le_refl _) ⟨rfl, rfl⟩
set_option maxRecDepth 100000 in
set_option maxHeartbeats 4000000 in
theorem w_X12_isName_19 {N : Nat} {Γ : SG} {ρ : Nat → Nat → Nat} (hs : Sh Γ ρ) {this : Nat} (h0 : Γ[this]? = some (0, 12)) {n0 : Nat} {r : Int32} {σr : St} (σ : St) (hf : f_X12_isName_19 N ρ this σ = some (r, σr)) : Go mX12_isName 1 0 0 n0 (Ki Γ ρ r σr) 0 0 19 [none] [] (hp Γ ρ σ) := by
  unfold f_X12_isName_19 at hf
  refine go_iconst 0 dX12_isName_19 (by decide) ?_
  exact w_X12_isName_20 hs h0 0 σ hf
set_option maxRecDepth 100000 in
set_option maxHeartbeats 4000000 in
theorem t_X12_isName {N : Nat} {Γ : SG} {ρ : Nat → Nat → Nat} (hs : Sh Γ ρ) {this : Nat} (h0 : Γ[this]? = some (0, 12)) {σ : St} {r : Int32} {σr : St} (hf : f_X12_isName N ρ this σ = some (r, σr)) : Tri mX12_isName 1 0 0 [.ref this] (hp Γ ρ σ) (Ki Γ ρ r σr) := by
  unfold f_X12_isName at hf
  refine tri_of [some (.ref this)] (plainFor_of_name rfl) rfl (Nat.le_of_ble_eq_true rfl) ?_
  refine go_aload_n 0 dX12_isName_0 rfl rfl ?_
  refine go_fI fl_X12_193 dX12_isName_1 h0 (by decide) rfl ?_
  refine go_iconst 1 dX12_isName_4 (by decide) ?_
  refine go_icmp_ne 19 dX12_isName_5 (by decide) (fun c2 => ?_) (fun c2 => ?_)
  · replace hf := (if_neg c2).symm.trans hf
    refine go_msk [false] [none] rfl ?_
    exact w_X12_isName_19 hs h0 σ hf
  · replace hf := (if_pos c2).symm.trans hf
    refine go_aload_n 0 dX12_isName_8 rfl rfl ?_
    obtain ⟨r3, σ4, q5, hf⟩ := bnd_some hf
    refine go_Vi (av := []) (rest := []) (t_X12_isOwn hs h0 q5) ok_X12_isOwn ml_X12_247 dX12_isName_9 h0 rfl rfl (by decide) (Nat.le_refl _) (Nat.le_refl _) (Nat.le_of_ble_eq_true rfl) ?_
    refine go_if_ne 19 dX12_isName_12 (by decide) (fun c6 => ?_) (fun c6 => ?_)
    · replace hf := (if_neg c6).symm.trans hf
      refine go_msk [false] [none] rfl ?_
      exact w_X12_isName_19 hs h0 σ4 hf
    · replace hf := (if_pos c6).symm.trans hf
      refine go_iconst 1 dX12_isName_15 (by decide) ?_
      refine go_goto 20 dX12_isName_16 (by decide) ?_
      refine go_msk [false] [none] rfl ?_
      exact w_X12_isName_20 hs h0 1 σ4 hf
def f_X12_want_28 (N : Nat) (ρ : Nat → Nat → Nat) (this : Nat) (a1 : Int64) (σ : St) : Option (Int32 × St) :=
  some (0, σ)
def f_X12_want (N : Nat) (ρ : Nat → Nat → Nat) (this : Nat) (a1 : Int64) (σ : St) : Option (Int32 × St) :=
  if (σ.1 this 2 : Int32) ≤ 0 then
    bnd (f_X12_isWord N ρ this a1 σ) fun r2 σ3 =>
    if (r2 : Int32) = 0 then
      bnd (f_X12_wrong N ρ this 2 σ3) fun _ σ10 =>
      f_X12_want_28 N ρ this a1 σ10
    else
      bnd (f_X12_token N ρ this σ3) fun _ σ7 =>
      f_X12_want_28 N ρ this a1 σ7
  else
    some (0, σ)
set_option maxRecDepth 100000 in
set_option maxHeartbeats 4000000 in
theorem w_X12_want_28 {N : Nat} {Γ : SG} {ρ : Nat → Nat → Nat} (hs : Sh Γ ρ) {this : Nat} {a1 : Int64} (h0 : Γ[this]? = some (0, 12)) {n0 : Nat} {r : Int32} {σr : St} (σ : St) (hf : f_X12_want_28 N ρ this a1 σ = some (r, σr)) : Go mX12_want 2 0 0 n0 (Kv Γ ρ σr) 0 0 28 [none, none, none] [] (hp Γ ρ σ) := by
  unfold f_X12_want_28 at hf
  cases hf
  exact go_vret rfl dX12_want_28 (Nat.le_refl _) ⟨rfl, rfl⟩
set_option maxRecDepth 100000 in
set_option maxHeartbeats 4000000 in
theorem t_X12_want {N : Nat} {Γ : SG} {ρ : Nat → Nat → Nat} (hs : Sh Γ ρ) {this : Nat} {a1 : Int64} (h0 : Γ[this]? = some (0, 12)) {σ : St} {r : Int32} {σr : St} (hf : f_X12_want N ρ this a1 σ = some (r, σr)) : Tri mX12_want 2 0 0 [.ref this, .long a1] (hp Γ ρ σ) (Kv Γ ρ σr) := by
  unfold f_X12_want at hf
  refine tri_of [some (.ref this), some (.long a1), none] (plainFor_of_name rfl) rfl (Nat.le_of_ble_eq_true rfl) ?_
  refine go_aload_n 0 dX12_want_0 rfl rfl ?_
  refine go_fI fl_X12_206 dX12_want_1 h0 (by decide) rfl ?_
  refine go_if_le 8 dX12_want_4 (by decide) (fun c1 => ?_) (fun c1 => ?_)
  · replace hf := (if_pos c1).symm.trans hf
    refine go_aload_n 0 dX12_want_8 rfl rfl ?_
    refine go_lload_n 1 dX12_want_9 rfl rfl ?_
    obtain ⟨r2, σ3, q4, hf⟩ := bnd_some hf
    refine go_Vi (av := [.long a1]) (rest := []) (t_X12_isWord hs h0 q4) ok_X12_isWord ml_X12_251 dX12_want_10 h0 rfl rfl (by decide) (Nat.le_refl _) (Nat.le_refl _) (Nat.le_of_ble_eq_true rfl) ?_
    refine go_if_ne 24 dX12_want_13 (by decide) (fun c5 => ?_) (fun c5 => ?_)
    · replace hf := (if_neg c5).symm.trans hf
      refine go_aload_n 0 dX12_want_24 rfl rfl ?_
      obtain ⟨r6, σ7, q8, hf⟩ := bnd_some hf
      refine go_Vv (av := []) (rest := []) (t_X12_token hs h0 q8) ok_X12_token ml_X12_258 dX12_want_25 h0 rfl rfl (by decide) (Nat.le_refl _) (Nat.le_refl _) (Nat.le_of_ble_eq_true rfl) ?_
      refine go_msk [false, false, false] [none, none, none] rfl ?_
      exact w_X12_want_28 hs h0 σ7 hf
    · replace hf := (if_pos c5).symm.trans hf
      refine go_aload_n 0 dX12_want_16 rfl rfl ?_
      refine go_iconst 2 dX12_want_17 (by decide) ?_
      obtain ⟨r9, σ10, q11, hf⟩ := bnd_some hf
      refine go_Vv (av := [.int 2]) (rest := []) (t_X12_wrong hs h0 q11) ok_X12_wrong ml_X12_255 dX12_want_18 h0 rfl rfl (by decide) (Nat.le_refl _) (Nat.le_refl _) (Nat.le_of_ble_eq_true rfl) ?_
      refine go_goto 28 dX12_want_21 (by decide) ?_
      refine go_msk [false, false, false] [none, none, none] rfl ?_
      exact w_X12_want_28 hs h0 σ10 hf
  · replace hf := (if_neg c1).symm.trans hf
    cases hf
    exact go_vret rfl dX12_want_7 (Nat.le_refl _) ⟨rfl, rfl⟩
def f_X12_toldNumber_62 (N : Nat) (ρ : Nat → Nat → Nat) (this : Nat) (a1 : Int32) (a2 : Int32) (x3 : Int32) (σ : St) : Option (Int32 × St) :=
  some (x3, σ)
def f_X12_toldNumber_46 (N : Nat) (ρ : Nat → Nat → Nat) (this : Nat) (a1 : Int32) (a2 : Int32) (σ : St) : Option (Int32 × St) :=
  nmd (σ.1 this 8) fun y1 =>
  if (σ.1 this 2 : Int32) = 0 then
    bnd (f_X12_token N ρ this σ) fun _ σ4 =>
    f_X12_toldNumber_62 N ρ this a1 a2 y1 σ4
  else
    f_X12_toldNumber_62 N ρ this a1 a2 y1 σ
def f_X12_toldNumber_41 (N : Nat) (ρ : Nat → Nat → Nat) (this : Nat) (a1 : Int32) (a2 : Int32) (σ : St) : Option (Int32 × St) :=
  bnd (f_X12_wrong N ρ this 4 σ) fun _ σ7 =>
  f_X12_toldNumber_46 N ρ this a1 a2 σ7
def f_X12_toldNumber (N : Nat) (ρ : Nat → Nat → Nat) (this : Nat) (a1 : Int32) (a2 : Int32) (σ : St) : Option (Int32 × St) :=
  if (σ.1 this 2 : Int32) ≤ 0 then
    if (σ.1 this 6 : Int32) = 2 then
      if (σ.1 this 8 : Int32) < a1 then
        f_X12_toldNumber_41 N ρ this a1 a2 σ
      else
        if (σ.1 this 8 : Int32) ≤ a2 then
          f_X12_toldNumber_46 N ρ this a1 a2 σ
        else
          f_X12_toldNumber_41 N ρ this a1 a2 σ
    else
      bnd (f_X12_wrong N ρ this 2 σ) fun _ σ14 =>
      f_X12_toldNumber_46 N ρ this a1 a2 σ14
  else
    some (0, σ)
set_option maxRecDepth 100000 in
set_option maxHeartbeats 4000000 in
theorem w_X12_toldNumber_62 {N : Nat} {Γ : SG} {ρ : Nat → Nat → Nat} (hs : Sh Γ ρ) {this : Nat} {a1 : Int32} {a2 : Int32} (h0 : Γ[this]? = some (0, 12)) {n0 : Nat} {r : Int32} {σr : St} (x3 : Int32) (σ : St) (hf : f_X12_toldNumber_62 N ρ this a1 a2 x3 σ = some (r, σr)) : Go mX12_toldNumber 2 0 0 n0 (Ki Γ ρ r σr) 0 0 62 [none, none, none, some (.int x3)] [] (hp Γ ρ σ) := by
  unfold f_X12_toldNumber_62 at hf
  refine go_iload_n 3 dX12_toldNumber_62 rfl rfl ?_
  cases hf
  exact go_iret rfl dX12_toldNumber_63 (Nat.le_refl _) ⟨rfl, rfl⟩
set_option maxRecDepth 100000 in
set_option maxHeartbeats 4000000 in
theorem w_X12_toldNumber_46 {N : Nat} {Γ : SG} {ρ : Nat → Nat → Nat} (hs : Sh Γ ρ) {this : Nat} {a1 : Int32} {a2 : Int32} (h0 : Γ[this]? = some (0, 12)) {n0 : Nat} {r : Int32} {σr : St} (σ : St) (hf : f_X12_toldNumber_46 N ρ this a1 a2 σ = some (r, σr)) : Go mX12_toldNumber 2 0 0 n0 (Ki Γ ρ r σr) 0 0 46 [some (.ref this), none, none, none] [] (hp Γ ρ σ) := by
  unfold f_X12_toldNumber_46 at hf
  refine go_aload_n 0 dX12_toldNumber_46 rfl rfl ?_
  refine go_fI fl_X12_190 dX12_toldNumber_47 h0 (by decide) rfl ?_
  obtain ⟨y1, ey1, hf⟩ := nmd_some hf
  refine go_nm ey1 ?_
  refine go_istore_n 3 [some (.ref this), none, none, some (.int y1)] dX12_toldNumber_50 rfl (by decide) rfl ?_
  refine go_aload_n 0 dX12_toldNumber_51 rfl rfl ?_
  refine go_fI fl_X12_206 dX12_toldNumber_52 h0 (by decide) rfl ?_
  refine go_if_ne 62 dX12_toldNumber_55 (by decide) (fun c2 => ?_) (fun c2 => ?_)
  · replace hf := (if_neg c2).symm.trans hf
    refine go_msk [false, false, false, true] [none, none, none, some (.int y1)] rfl ?_
    exact w_X12_toldNumber_62 hs h0 y1 σ hf
  · replace hf := (if_pos c2).symm.trans hf
    refine go_aload_n 0 dX12_toldNumber_58 rfl rfl ?_
    obtain ⟨r3, σ4, q5, hf⟩ := bnd_some hf
    refine go_Vv (av := []) (rest := []) (t_X12_token hs h0 q5) ok_X12_token ml_X12_258 dX12_toldNumber_59 h0 rfl rfl (by decide) (Nat.le_refl _) (Nat.le_refl _) (Nat.le_of_ble_eq_true rfl) ?_
    refine go_msk [false, false, false, true] [none, none, none, some (.int y1)] rfl ?_
    exact w_X12_toldNumber_62 hs h0 y1 σ4 hf
set_option maxRecDepth 100000 in
set_option maxHeartbeats 4000000 in
theorem w_X12_toldNumber_41 {N : Nat} {Γ : SG} {ρ : Nat → Nat → Nat} (hs : Sh Γ ρ) {this : Nat} {a1 : Int32} {a2 : Int32} (h0 : Γ[this]? = some (0, 12)) {n0 : Nat} {r : Int32} {σr : St} (σ : St) (hf : f_X12_toldNumber_41 N ρ this a1 a2 σ = some (r, σr)) : Go mX12_toldNumber 2 0 0 n0 (Ki Γ ρ r σr) 0 0 41 [some (.ref this), none, none, none] [] (hp Γ ρ σ) := by
  unfold f_X12_toldNumber_41 at hf
  refine go_aload_n 0 dX12_toldNumber_41 rfl rfl ?_
  refine go_iconst 4 dX12_toldNumber_42 (by decide) ?_
  obtain ⟨r6, σ7, q8, hf⟩ := bnd_some hf
  refine go_Vv (av := [.int 4]) (rest := []) (t_X12_wrong hs h0 q8) ok_X12_wrong ml_X12_255 dX12_toldNumber_43 h0 rfl rfl (by decide) (Nat.le_refl _) (Nat.le_refl _) (Nat.le_of_ble_eq_true rfl) ?_
  exact w_X12_toldNumber_46 hs h0 σ7 hf
set_option maxRecDepth 100000 in
set_option maxHeartbeats 4000000 in
theorem t_X12_toldNumber {N : Nat} {Γ : SG} {ρ : Nat → Nat → Nat} (hs : Sh Γ ρ) {this : Nat} {a1 : Int32} {a2 : Int32} (h0 : Γ[this]? = some (0, 12)) {σ : St} {r : Int32} {σr : St} (hf : f_X12_toldNumber N ρ this a1 a2 σ = some (r, σr)) : Tri mX12_toldNumber 2 0 0 [.ref this, .int a1, .int a2] (hp Γ ρ σ) (Ki Γ ρ r σr) := by
  unfold f_X12_toldNumber at hf
  refine tri_of [some (.ref this), some (.int a1), some (.int a2), none] (plainFor_of_name rfl) rfl (Nat.le_of_ble_eq_true rfl) ?_
  refine go_aload_n 0 dX12_toldNumber_0 rfl rfl ?_
  refine go_fI fl_X12_206 dX12_toldNumber_1 h0 (by decide) rfl ?_
  refine go_if_le 9 dX12_toldNumber_4 (by decide) (fun c9 => ?_) (fun c9 => ?_)
  · replace hf := (if_pos c9).symm.trans hf
    refine go_aload_n 0 dX12_toldNumber_9 rfl rfl ?_
    refine go_fI fl_X12_193 dX12_toldNumber_10 h0 (by decide) rfl ?_
    refine go_iconst 2 dX12_toldNumber_13 (by decide) ?_
    refine go_icmp_eq 25 dX12_toldNumber_14 (by decide) (fun c10 => ?_) (fun c10 => ?_)
    · replace hf := (if_pos c10).symm.trans hf
      refine go_aload_n 0 dX12_toldNumber_25 rfl rfl ?_
      refine go_fI fl_X12_190 dX12_toldNumber_26 h0 (by decide) rfl ?_
      refine go_iload_n 1 dX12_toldNumber_29 rfl rfl ?_
      refine go_icmp_lt 41 dX12_toldNumber_30 (by decide) (fun c11 => ?_) (fun c11 => ?_)
      · replace hf := (if_pos c11).symm.trans hf
        refine go_msk [true, false, false, false] [some (.ref this), none, none, none] rfl ?_
        exact w_X12_toldNumber_41 hs h0 σ hf
      · replace hf := (if_neg c11).symm.trans hf
        refine go_aload_n 0 dX12_toldNumber_33 rfl rfl ?_
        refine go_fI fl_X12_190 dX12_toldNumber_34 h0 (by decide) rfl ?_
        refine go_iload_n 2 dX12_toldNumber_37 rfl rfl ?_
        refine go_icmp_le 46 dX12_toldNumber_38 (by decide) (fun c12 => ?_) (fun c12 => ?_)
        · replace hf := (if_pos c12).symm.trans hf
          refine go_msk [true, false, false, false] [some (.ref this), none, none, none] rfl ?_
          exact w_X12_toldNumber_46 hs h0 σ hf
        · replace hf := (if_neg c12).symm.trans hf
          refine go_msk [true, false, false, false] [some (.ref this), none, none, none] rfl ?_
          exact w_X12_toldNumber_41 hs h0 σ hf
    · replace hf := (if_neg c10).symm.trans hf
      refine go_aload_n 0 dX12_toldNumber_17 rfl rfl ?_
      refine go_iconst 2 dX12_toldNumber_18 (by decide) ?_
      obtain ⟨r13, σ14, q15, hf⟩ := bnd_some hf
      refine go_Vv (av := [.int 2]) (rest := []) (t_X12_wrong hs h0 q15) ok_X12_wrong ml_X12_255 dX12_toldNumber_19 h0 rfl rfl (by decide) (Nat.le_refl _) (Nat.le_refl _) (Nat.le_of_ble_eq_true rfl) ?_
      refine go_goto 46 dX12_toldNumber_22 (by decide) ?_
      refine go_msk [true, false, false, false] [some (.ref this), none, none, none] rfl ?_
      exact w_X12_toldNumber_46 hs h0 σ14 hf
  · replace hf := (if_neg c9).symm.trans hf
    refine go_iconst 0 dX12_toldNumber_7 (by decide) ?_
    cases hf
    exact go_iret rfl dX12_toldNumber_8 (Nat.le_refl _) ⟨rfl, rfl⟩
def f_X12_told (N : Nat) (ρ : Nat → Nat → Nat) (this : Nat) (a1 : Int64) (a2 : Int32) (a3 : Int32) (σ : St) : Option (Int32 × St) :=
  bnd (f_X12_want N ρ this a1 σ) fun _ σ2 =>
  bnd (f_X12_toldNumber N ρ this a2 a3 σ2) fun r4 σ5 =>
  some (r4, σ5)
set_option maxRecDepth 100000 in
set_option maxHeartbeats 4000000 in
theorem t_X12_told {N : Nat} {Γ : SG} {ρ : Nat → Nat → Nat} (hs : Sh Γ ρ) {this : Nat} {a1 : Int64} {a2 : Int32} {a3 : Int32} (h0 : Γ[this]? = some (0, 12)) {σ : St} {r : Int32} {σr : St} (hf : f_X12_told N ρ this a1 a2 a3 σ = some (r, σr)) : Tri mX12_told 3 0 0 [.ref this, .long a1, .int a2, .int a3] (hp Γ ρ σ) (Ki Γ ρ r σr) := by
  unfold f_X12_told at hf
  refine tri_of [some (.ref this), some (.long a1), none, some (.int a2), some (.int a3)] (plainFor_of_name rfl) rfl (Nat.le_of_ble_eq_true rfl) ?_
  refine go_aload_n 0 dX12_told_0 rfl rfl ?_
  refine go_lload_n 1 dX12_told_1 rfl rfl ?_
  obtain ⟨r1, σ2, q3, hf⟩ := bnd_some hf
  refine go_Vv (av := [.long a1]) (rest := []) (t_X12_want hs h0 q3) ok_X12_want ml_X12_261 dX12_told_2 h0 rfl rfl (by decide) (Nat.le_refl _) (Nat.le_refl _) (Nat.le_of_ble_eq_true rfl) ?_
  refine go_aload_n 0 dX12_told_5 rfl rfl ?_
  refine go_iload_n 3 dX12_told_6 rfl rfl ?_
  refine go_iload dX12_told_7 rfl ?_
  obtain ⟨r4, σ5, q6, hf⟩ := bnd_some hf
  refine go_Vi (av := [.int a2, .int a3]) (rest := []) (t_X12_toldNumber hs h0 q6) ok_X12_toldNumber ml_X12_265 dX12_told_9 h0 rfl rfl (by decide) (Nat.le_refl _) (Nat.le_refl _) (Nat.le_of_ble_eq_true rfl) ?_
  cases hf
  exact go_iret rfl dX12_told_12 (Nat.le_refl _) ⟨rfl, rfl⟩
def f_X12_option_27 (N : Nat) (ρ : Nat → Nat → Nat) (this : Nat) (a1 : Int64) (a2 : Int32) (a3 : Int32) (s0 : Int32) (σ : St) : Option (Int32 × St) :=
  some (s0, σ)
def f_X12_option_26 (N : Nat) (ρ : Nat → Nat → Nat) (this : Nat) (a1 : Int64) (a2 : Int32) (a3 : Int32) (σ : St) : Option (Int32 × St) :=
  f_X12_option_27 N ρ this a1 a2 a3 a2 σ
def f_X12_option (N : Nat) (ρ : Nat → Nat → Nat) (this : Nat) (a1 : Int64) (a2 : Int32) (a3 : Int32) (σ : St) : Option (Int32 × St) :=
  if (σ.1 this 2 : Int32) = 0 then
    bnd (f_X12_isWord N ρ this a1 σ) fun r2 σ3 =>
    if (r2 : Int32) = 0 then
      f_X12_option_26 N ρ this a1 a2 a3 σ3
    else
      bnd (f_X12_told N ρ this a1 a2 a3 σ3) fun r6 σ7 =>
      f_X12_option_27 N ρ this a1 a2 a3 r6 σ7
  else
    f_X12_option_26 N ρ this a1 a2 a3 σ
set_option maxRecDepth 100000 in
set_option maxHeartbeats 4000000 in
theorem w_X12_option_27 {N : Nat} {Γ : SG} {ρ : Nat → Nat → Nat} (hs : Sh Γ ρ) {this : Nat} {a1 : Int64} {a2 : Int32} {a3 : Int32} (h0 : Γ[this]? = some (0, 12)) {n0 : Nat} {r : Int32} {σr : St} (s0 : Int32) (σ : St) (hf : f_X12_option_27 N ρ this a1 a2 a3 s0 σ = some (r, σr)) : Go mX12_option 4 0 0 n0 (Ki Γ ρ r σr) 0 0 27 [none, none, none, none, none] [.int s0] (hp Γ ρ σ) := by
  unfold f_X12_option_27 at hf
  cases hf
  exact go_iret rfl dX12_option_27 (Nat.le_refl _) ⟨rfl, rfl⟩
set_option maxRecDepth 100000 in
set_option maxHeartbeats 4000000 in
theorem w_X12_option_26 {N : Nat} {Γ : SG} {ρ : Nat → Nat → Nat} (hs : Sh Γ ρ) {this : Nat} {a1 : Int64} {a2 : Int32} {a3 : Int32} (h0 : Γ[this]? = some (0, 12)) {n0 : Nat} {r : Int32} {σr : St} (σ : St) (hf : f_X12_option_26 N ρ this a1 a2 a3 σ = some (r, σr)) : Go mX12_option 4 0 0 n0 (Ki Γ ρ r σr) 0 0 26 [none, none, none, some (.int a2), none] [] (hp Γ ρ σ) := by
  unfold f_X12_option_26 at hf
  refine go_iload_n 3 dX12_option_26 rfl rfl ?_
  refine go_msk [false, false, false, false, false] [none, none, none, none, none] rfl ?_
  exact w_X12_option_27 hs h0 a2 σ hf
set_option maxRecDepth 100000 in
set_option maxHeartbeats 4000000 in
theorem t_X12_option {N : Nat} {Γ : SG} {ρ : Nat → Nat → Nat} (hs : Sh Γ ρ) {this : Nat} {a1 : Int64} {a2 : Int32} {a3 : Int32} (h0 : Γ[this]? = some (0, 12)) {σ : St} {r : Int32} {σr : St} (hf : f_X12_option N ρ this a1 a2 a3 σ = some (r, σr)) : Tri mX12_option 4 0 0 [.ref this, .long a1, .int a2, .int a3] (hp Γ ρ σ) (Ki Γ ρ r σr) := by
  unfold f_X12_option at hf
  refine tri_of [some (.ref this), some (.long a1), none, some (.int a2), some (.int a3)] (plainFor_of_name rfl) rfl (Nat.le_of_ble_eq_true rfl) ?_
  refine go_aload_n 0 dX12_option_0 rfl rfl ?_
  refine go_fI fl_X12_206 dX12_option_1 h0 (by decide) rfl ?_
  refine go_if_ne 26 dX12_option_4 (by decide) (fun c1 => ?_) (fun c1 => ?_)
  · replace hf := (if_neg c1).symm.trans hf
    refine go_msk [false, false, false, true, false] [none, none, none, some (.int a2), none] rfl ?_
    exact w_X12_option_26 hs h0 σ hf
  · replace hf := (if_pos c1).symm.trans hf
    refine go_aload_n 0 dX12_option_7 rfl rfl ?_
    refine go_lload_n 1 dX12_option_8 rfl rfl ?_
    obtain ⟨r2, σ3, q4, hf⟩ := bnd_some hf
    refine go_Vi (av := [.long a1]) (rest := []) (t_X12_isWord hs h0 q4) ok_X12_isWord ml_X12_251 dX12_option_9 h0 rfl rfl (by decide) (Nat.le_refl _) (Nat.le_refl _) (Nat.le_of_ble_eq_true rfl) ?_
    refine go_if_eq 26 dX12_option_12 (by decide) (fun c5 => ?_) (fun c5 => ?_)
    · replace hf := (if_pos c5).symm.trans hf
      refine go_msk [false, false, false, true, false] [none, none, none, some (.int a2), none] rfl ?_
      exact w_X12_option_26 hs h0 σ3 hf
    · replace hf := (if_neg c5).symm.trans hf
      refine go_aload_n 0 dX12_option_15 rfl rfl ?_
      refine go_lload_n 1 dX12_option_16 rfl rfl ?_
      refine go_iload_n 3 dX12_option_17 rfl rfl ?_
      refine go_iload dX12_option_18 rfl ?_
      obtain ⟨r6, σ7, q8, hf⟩ := bnd_some hf
      refine go_Vi (av := [.long a1, .int a2, .int a3]) (rest := []) (t_X12_told hs h0 q8) ok_X12_told ml_X12_269 dX12_option_20 h0 rfl rfl (by decide) (Nat.le_refl _) (Nat.le_refl _) (Nat.le_of_ble_eq_true rfl) ?_
      refine go_goto 27 dX12_option_23 (by decide) ?_
      refine go_msk [false, false, false, false, false] [none, none, none, none, none] rfl ?_
      exact w_X12_option_27 hs h0 r6 σ7 hf
def f_X12_newName_51 (N : Nat) (ρ : Nat → Nat → Nat) (this : Nat) (a1 : Int32) (a2 : Int32) (rec18 : Int32 → St → Option (Int32 × St)) (x3 : Int32) (σ : St) : Option (Int32 × St) :=
  rec18 (x3 + 1) σ
def f_X12_newName_57 (N : Nat) (ρ : Nat → Nat → Nat) (this : Nat) (a1 : Int32) (a2 : Int32) (σ : St) : Option (Int32 × St) :=
  if (σ.1 this 2 : Int32) ≤ 0 then
    gd (ib (a1 + a2) 11) <|
    nmd (sJ σ (ρ this 10) (a1 + a2).toNatClampNeg (σ.2 this 9)) fun σ3 =>
    bnd (f_X12_token N ρ this σ3) fun _ σ5 =>
    some (0, σ5)
  else
    some (0, σ)
def b_X12_newName_18 (N : Nat) (ρ : Nat → Nat → Nat) (this : Nat) (a1 : Int32) (a2 : Int32) (rec18 : Int32 → St → Option (Int32 × St)) (x3 : Int32) (σ : St) : Option (Int32 × St) :=
  if a2 ≤ (x3 : Int32) then
    f_X12_newName_57 N ρ this a1 a2 σ
  else
    if (σ.1 this 2 : Int32) = 0 then
      gd (ib (a1 + x3) 11) <|
      if (lg_cmp (σ.2 (ρ this 10) (a1 + x3).toNatClampNeg) (σ.2 this 9) : Int32) = 0 then
        bnd (f_X12_wrong N ρ this 3 σ) fun _ σ12 =>
        f_X12_newName_51 N ρ this a1 a2 rec18 x3 σ12
      else
        f_X12_newName_51 N ρ this a1 a2 rec18 x3 σ
    else
      f_X12_newName_57 N ρ this a1 a2 σ
def f_X12_newName_18 (N : Nat) (ρ : Nat → Nat → Nat) (this : Nat) (a1 : Int32) (a2 : Int32) : Nat → Int32 → St → Option (Int32 × St)
  | 0, _, _ => none
  | n + 1, x3, σ => b_X12_newName_18 N ρ this a1 a2 (f_X12_newName_18 N ρ this a1 a2 n) x3 σ
def f_X12_newName_16 (N : Nat) (ρ : Nat → Nat → Nat) (this : Nat) (a1 : Int32) (a2 : Int32) (σ : St) : Option (Int32 × St) :=
  f_X12_newName_18 N ρ this a1 a2 N 0 σ
def f_X12_newName (N : Nat) (ρ : Nat → Nat → Nat) (this : Nat) (a1 : Int32) (a2 : Int32) (σ : St) : Option (Int32 × St) :=
  bnd (f_X12_token N ρ this σ) fun _ σ15 =>
  bnd (f_X12_isName N ρ this σ15) fun r17 σ18 =>
  if (r17 : Int32) = 0 then
    bnd (f_X12_wrong N ρ this 2 σ18) fun _ σ22 =>
    f_X12_newName_16 N ρ this a1 a2 σ22
  else
    f_X12_newName_16 N ρ this a1 a2 σ18
set_option maxRecDepth 100000 in
set_option maxHeartbeats 4000000 in
theorem w_X12_newName_51 {N : Nat} {Γ : SG} {ρ : Nat → Nat → Nat} (hs : Sh Γ ρ) {this : Nat} {a1 : Int32} {a2 : Int32} (h0 : Γ[this]? = some (0, 12)) {n0 : Nat} {r : Int32} {σr : St} (rec18 : Int32 → St → Option (Int32 × St)) (hrec18 : ∀ (x3 : Int32) (σ : St), rec18 x3 σ = some (r, σr) → Go mX12_newName 2 0 0 n0 (Kv Γ ρ σr) 0 0 18 [some (.ref this), some (.int a1), some (.int a2), some (.int x3)] [] (hp Γ ρ σ)) (x3 : Int32) (σ : St) (hf : f_X12_newName_51 N ρ this a1 a2 rec18 x3 σ = some (r, σr)) : Go mX12_newName 2 0 0 n0 (Kv Γ ρ σr) 0 0 51 [some (.ref this), some (.int a1), some (.int a2), some (.int x3)] [] (hp Γ ρ σ) := by
  unfold f_X12_newName_51 at hf
  refine go_iinc (x3 + 1) [some (.ref this), some (.int a1), some (.int a2), some (.int (x3 + 1))] dX12_newName_51 rfl rfl (by decide) rfl ?_
  refine go_goto 18 dX12_newName_54 (by decide) ?_
  exact hrec18 (x3 + 1) σ hf
set_option maxRecDepth 100000 in
set_option maxHeartbeats 4000000 in
theorem w_X12_newName_57 {N : Nat} {Γ : SG} {ρ : Nat → Nat → Nat} (hs : Sh Γ ρ) {this : Nat} {a1 : Int32} {a2 : Int32} (h0 : Γ[this]? = some (0, 12)) {n0 : Nat} {r : Int32} {σr : St} (σ : St) (hf : f_X12_newName_57 N ρ this a1 a2 σ = some (r, σr)) : Go mX12_newName 2 0 0 n0 (Kv Γ ρ σr) 0 0 57 [some (.ref this), some (.int a1), some (.int a2), none] [] (hp Γ ρ σ) := by
  unfold f_X12_newName_57 at hf
  refine go_aload_n 0 dX12_newName_57 rfl rfl ?_
  refine go_fI fl_X12_206 dX12_newName_58 h0 (by decide) rfl ?_
  refine go_if_le 65 dX12_newName_61 (by decide) (fun c1 => ?_) (fun c1 => ?_)
  · replace hf := (if_pos c1).symm.trans hf
    refine go_aload_n 0 dX12_newName_65 rfl rfl ?_
    refine go_fR fl_X12_17 dX12_newName_66 h0 (by decide) rfl ?_
    refine go_iload_n 1 dX12_newName_69 rfl rfl ?_
    refine go_iload_n 2 dX12_newName_70 rfl rfl ?_
    refine go_iadd dX12_newName_71 ?_
    refine go_aload_n 0 dX12_newName_72 rfl rfl ?_
    refine go_fJ fl_X12_186 dX12_newName_73 h0 (by decide) rfl ?_
    obtain ⟨g2, hf⟩ := gd_some hf
    obtain ⟨σ3, eσ3, hf⟩ := nmd_some hf
    refine go_wJ dX12_newName_76 (hs.1 _ 12 10 h0 rfl) (ib_in g2) ?_
    rw [eσ3]
    refine go_aload_n 0 dX12_newName_77 rfl rfl ?_
    obtain ⟨r4, σ5, q6, hf⟩ := bnd_some hf
    refine go_Vv (av := []) (rest := []) (t_X12_token hs h0 q6) ok_X12_token ml_X12_258 dX12_newName_78 h0 rfl rfl (by decide) (Nat.le_refl _) (Nat.le_refl _) (Nat.le_of_ble_eq_true rfl) ?_
    cases hf
    exact go_vret rfl dX12_newName_81 (Nat.le_refl _) ⟨rfl, rfl⟩
  · replace hf := (if_neg c1).symm.trans hf
    cases hf
    exact go_vret rfl dX12_newName_64 (Nat.le_refl _) ⟨rfl, rfl⟩
set_option maxRecDepth 100000 in
set_option maxHeartbeats 4000000 in
theorem v_X12_newName_18 {N : Nat} {Γ : SG} {ρ : Nat → Nat → Nat} (hs : Sh Γ ρ) {this : Nat} {a1 : Int32} {a2 : Int32} (h0 : Γ[this]? = some (0, 12)) {n0 : Nat} {r : Int32} {σr : St} (rec18 : Int32 → St → Option (Int32 × St)) (hrec18 : ∀ (x3 : Int32) (σ : St), rec18 x3 σ = some (r, σr) → Go mX12_newName 2 0 0 n0 (Kv Γ ρ σr) 0 0 18 [some (.ref this), some (.int a1), some (.int a2), some (.int x3)] [] (hp Γ ρ σ)) (x3 : Int32) (σ : St) (hf : b_X12_newName_18 N ρ this a1 a2 rec18 x3 σ = some (r, σr)) : Go mX12_newName 2 0 0 n0 (Kv Γ ρ σr) 0 0 18 [some (.ref this), some (.int a1), some (.int a2), some (.int x3)] [] (hp Γ ρ σ) := by
  unfold b_X12_newName_18 at hf
  refine go_iload_n 3 dX12_newName_18 rfl rfl ?_
  refine go_iload_n 2 dX12_newName_19 rfl rfl ?_
  refine go_icmp_ge 57 dX12_newName_20 (by decide) (fun c7 => ?_) (fun c7 => ?_)
  · replace hf := (if_pos c7).symm.trans hf
    refine go_msk [true, true, true, false] [some (.ref this), some (.int a1), some (.int a2), none] rfl ?_
    exact w_X12_newName_57 hs h0 σ hf
  · replace hf := (if_neg c7).symm.trans hf
    refine go_aload_n 0 dX12_newName_23 rfl rfl ?_
    refine go_fI fl_X12_206 dX12_newName_24 h0 (by decide) rfl ?_
    refine go_if_ne 57 dX12_newName_27 (by decide) (fun c8 => ?_) (fun c8 => ?_)
    · replace hf := (if_neg c8).symm.trans hf
      refine go_msk [true, true, true, false] [some (.ref this), some (.int a1), some (.int a2), none] rfl ?_
      exact w_X12_newName_57 hs h0 σ hf
    · replace hf := (if_pos c8).symm.trans hf
      refine go_aload_n 0 dX12_newName_30 rfl rfl ?_
      refine go_fR fl_X12_17 dX12_newName_31 h0 (by decide) rfl ?_
      refine go_iload_n 1 dX12_newName_34 rfl rfl ?_
      refine go_iload_n 3 dX12_newName_35 rfl rfl ?_
      refine go_iadd dX12_newName_36 ?_
      obtain ⟨g9, hf⟩ := gd_some hf
      refine go_rJ dX12_newName_37 (hs.1 _ 12 10 h0 rfl) (ib_in g9) ?_
      refine go_aload_n 0 dX12_newName_38 rfl rfl ?_
      refine go_fJ fl_X12_186 dX12_newName_39 h0 (by decide) rfl ?_
      refine go_lcmp dX12_newName_42 ?_
      refine go_if_ne 51 dX12_newName_43 (by decide) (fun c10 => ?_) (fun c10 => ?_)
      · replace hf := (if_neg c10).symm.trans hf
        exact w_X12_newName_51 hs h0 rec18 hrec18 x3 σ hf
      · replace hf := (if_pos c10).symm.trans hf
        refine go_aload_n 0 dX12_newName_46 rfl rfl ?_
        refine go_iconst 3 dX12_newName_47 (by decide) ?_
        obtain ⟨r11, σ12, q13, hf⟩ := bnd_some hf
        refine go_Vv (av := [.int 3]) (rest := []) (t_X12_wrong hs h0 q13) ok_X12_wrong ml_X12_255 dX12_newName_48 h0 rfl rfl (by decide) (Nat.le_refl _) (Nat.le_refl _) (Nat.le_of_ble_eq_true rfl) ?_
        exact w_X12_newName_51 hs h0 rec18 hrec18 x3 σ12 hf
theorem w_X12_newName_18 {N : Nat} {Γ : SG} {ρ : Nat → Nat → Nat} (hs : Sh Γ ρ) {this : Nat} {a1 : Int32} {a2 : Int32} (h0 : Γ[this]? = some (0, 12)) {n0 : Nat} {r : Int32} {σr : St} : ∀ (n : Nat) (x3 : Int32) (σ : St), f_X12_newName_18 N ρ this a1 a2 n x3 σ = some (r, σr) → Go mX12_newName 2 0 0 n0 (Kv Γ ρ σr) 0 0 18 [some (.ref this), some (.int a1), some (.int a2), some (.int x3)] [] (hp Γ ρ σ) := by
  intro n
  induction n with
  | zero => intro x3 σ hf; cases hf
  | succ n ih => intro x3 σ hf; exact v_X12_newName_18 hs h0 _ ih x3 σ hf
set_option maxRecDepth 100000 in
set_option maxHeartbeats 4000000 in
theorem w_X12_newName_16 {N : Nat} {Γ : SG} {ρ : Nat → Nat → Nat} (hs : Sh Γ ρ) {this : Nat} {a1 : Int32} {a2 : Int32} (h0 : Γ[this]? = some (0, 12)) {n0 : Nat} {r : Int32} {σr : St} (σ : St) (hf : f_X12_newName_16 N ρ this a1 a2 σ = some (r, σr)) : Go mX12_newName 2 0 0 n0 (Kv Γ ρ σr) 0 0 16 [some (.ref this), some (.int a1), some (.int a2), none] [] (hp Γ ρ σ) := by
  unfold f_X12_newName_16 at hf
  refine go_iconst 0 dX12_newName_16 (by decide) ?_
  refine go_istore_n 3 [some (.ref this), some (.int a1), some (.int a2), some (.int 0)] dX12_newName_17 rfl (by decide) rfl ?_
  exact w_X12_newName_18 hs h0 N 0 σ hf
set_option maxRecDepth 100000 in
set_option maxHeartbeats 4000000 in
theorem t_X12_newName {N : Nat} {Γ : SG} {ρ : Nat → Nat → Nat} (hs : Sh Γ ρ) {this : Nat} {a1 : Int32} {a2 : Int32} (h0 : Γ[this]? = some (0, 12)) {σ : St} {r : Int32} {σr : St} (hf : f_X12_newName N ρ this a1 a2 σ = some (r, σr)) : Tri mX12_newName 2 0 0 [.ref this, .int a1, .int a2] (hp Γ ρ σ) (Kv Γ ρ σr) := by
  unfold f_X12_newName at hf
  refine tri_of [some (.ref this), some (.int a1), some (.int a2), none] (plainFor_of_name rfl) rfl (Nat.le_of_ble_eq_true rfl) ?_
  refine go_aload_n 0 dX12_newName_0 rfl rfl ?_
  obtain ⟨r14, σ15, q16, hf⟩ := bnd_some hf
  refine go_Vv (av := []) (rest := []) (t_X12_token hs h0 q16) ok_X12_token ml_X12_258 dX12_newName_1 h0 rfl rfl (by decide) (Nat.le_refl _) (Nat.le_refl _) (Nat.le_of_ble_eq_true rfl) ?_
  refine go_aload_n 0 dX12_newName_4 rfl rfl ?_
  obtain ⟨r17, σ18, q19, hf⟩ := bnd_some hf
  refine go_Vi (av := []) (rest := []) (t_X12_isName hs h0 q19) ok_X12_isName ml_X12_273 dX12_newName_5 h0 rfl rfl (by decide) (Nat.le_refl _) (Nat.le_refl _) (Nat.le_of_ble_eq_true rfl) ?_
  refine go_if_ne 16 dX12_newName_8 (by decide) (fun c20 => ?_) (fun c20 => ?_)
  · replace hf := (if_neg c20).symm.trans hf
    exact w_X12_newName_16 hs h0 σ18 hf
  · replace hf := (if_pos c20).symm.trans hf
    refine go_aload_n 0 dX12_newName_11 rfl rfl ?_
    refine go_iconst 2 dX12_newName_12 (by decide) ?_
    obtain ⟨r21, σ22, q23, hf⟩ := bnd_some hf
    refine go_Vv (av := [.int 2]) (rest := []) (t_X12_wrong hs h0 q23) ok_X12_wrong ml_X12_255 dX12_newName_13 h0 rfl rfl (by decide) (Nat.le_refl _) (Nat.le_refl _) (Nat.le_of_ble_eq_true rfl) ?_
    exact w_X12_newName_16 hs h0 σ22 hf
def f_X12_add (N : Nat) (ρ : Nat → Nat → Nat) (this : Nat) (a1 : Int32) (a2 : Int32) (σ : St) : Option (Int32 × St) :=
  gd (ib (σ.1 this 20) 2) <|
  gd (ib ((320 * (σ.1 this 20)) + (σ.1 (ρ this 13) (σ.1 this 20).toNatClampNeg)) 640) <|
  nmd (sI σ (ρ this 11) ((320 * (σ.1 this 20)) + (σ.1 (ρ this 13) (σ.1 this 20).toNatClampNeg)).toNatClampNeg a1) fun σ3 =>
  gd (ib (σ3.1 this 20) 2) <|
  gd (ib ((320 * (σ3.1 this 20)) + (σ3.1 (ρ this 13) (σ3.1 this 20).toNatClampNeg)) 640) <|
  nmd (sI σ3 (ρ this 12) ((320 * (σ3.1 this 20)) + (σ3.1 (ρ this 13) (σ3.1 this 20).toNatClampNeg)).toNatClampNeg a2) fun σ6 =>
  gd (ib (σ6.1 this 20) 2) <|
  gd (ib (σ6.1 this 20) 2) <|
  nmd (sI σ6 (ρ this 13) (σ6.1 this 20).toNatClampNeg ((σ6.1 (ρ this 13) (σ6.1 this 20).toNatClampNeg) + 1)) fun σ9 =>
  some (0, σ9)
set_option maxRecDepth 100000 in
set_option maxHeartbeats 4000000 in
theorem t_X12_add {N : Nat} {Γ : SG} {ρ : Nat → Nat → Nat} (hs : Sh Γ ρ) {this : Nat} {a1 : Int32} {a2 : Int32} (h0 : Γ[this]? = some (0, 12)) {σ : St} {r : Int32} {σr : St} (hf : f_X12_add N ρ this a1 a2 σ = some (r, σr)) : Tri mX12_add 0 0 0 [.ref this, .int a1, .int a2] (hp Γ ρ σ) (Kv Γ ρ σr) := by
  unfold f_X12_add at hf
  refine tri_of [some (.ref this), some (.int a1), some (.int a2)] (plainFor_of_name rfl) rfl (Nat.le_of_ble_eq_true rfl) ?_
  refine go_aload_n 0 dX12_add_0 rfl rfl ?_
  refine go_fR fl_X12_21 dX12_add_1 h0 (by decide) rfl ?_
  refine go_sipush 320 dX12_add_4 (by decide) ?_
  refine go_aload_n 0 dX12_add_7 rfl rfl ?_
  refine go_fI fl_X12_276 dX12_add_8 h0 (by decide) rfl ?_
  refine go_imul dX12_add_11 ?_
  refine go_aload_n 0 dX12_add_12 rfl rfl ?_
  refine go_fR fl_X12_27 dX12_add_13 h0 (by decide) rfl ?_
  refine go_aload_n 0 dX12_add_16 rfl rfl ?_
  refine go_fI fl_X12_276 dX12_add_17 h0 (by decide) rfl ?_
  obtain ⟨g1, hf⟩ := gd_some hf
  refine go_rI dX12_add_20 (hs.1 _ 12 13 h0 rfl) (ib_in g1) ?_
  refine go_iadd dX12_add_21 ?_
  refine go_iload_n 1 dX12_add_22 rfl rfl ?_
  obtain ⟨g2, hf⟩ := gd_some hf
  obtain ⟨σ3, eσ3, hf⟩ := nmd_some hf
  refine go_wI dX12_add_23 (hs.1 _ 12 11 h0 rfl) (ib_in g2) ?_
  rw [eσ3]
  refine go_aload_n 0 dX12_add_24 rfl rfl ?_
  refine go_fR fl_X12_24 dX12_add_25 h0 (by decide) rfl ?_
  refine go_sipush 320 dX12_add_28 (by decide) ?_
  refine go_aload_n 0 dX12_add_31 rfl rfl ?_
  refine go_fI fl_X12_276 dX12_add_32 h0 (by decide) rfl ?_
  refine go_imul dX12_add_35 ?_
  refine go_aload_n 0 dX12_add_36 rfl rfl ?_
  refine go_fR fl_X12_27 dX12_add_37 h0 (by decide) rfl ?_
  refine go_aload_n 0 dX12_add_40 rfl rfl ?_
  refine go_fI fl_X12_276 dX12_add_41 h0 (by decide) rfl ?_
  obtain ⟨g4, hf⟩ := gd_some hf
  refine go_rI dX12_add_44 (hs.1 _ 12 13 h0 rfl) (ib_in g4) ?_
  refine go_iadd dX12_add_45 ?_
  refine go_iload_n 2 dX12_add_46 rfl rfl ?_
  obtain ⟨g5, hf⟩ := gd_some hf
  obtain ⟨σ6, eσ6, hf⟩ := nmd_some hf
  refine go_wI dX12_add_47 (hs.1 _ 12 12 h0 rfl) (ib_in g5) ?_
  rw [eσ6]
  refine go_aload_n 0 dX12_add_48 rfl rfl ?_
  refine go_fR fl_X12_27 dX12_add_49 h0 (by decide) rfl ?_
  refine go_aload_n 0 dX12_add_52 rfl rfl ?_
  refine go_fI fl_X12_276 dX12_add_53 h0 (by decide) rfl ?_
  refine go_dup2 dX12_add_56 rfl rfl ?_
  obtain ⟨g7, hf⟩ := gd_some hf
  refine go_rI dX12_add_57 (hs.1 _ 12 13 h0 rfl) (ib_in g7) ?_
  refine go_iconst 1 dX12_add_58 (by decide) ?_
  refine go_iadd dX12_add_59 ?_
  obtain ⟨g8, hf⟩ := gd_some hf
  obtain ⟨σ9, eσ9, hf⟩ := nmd_some hf
  refine go_wI dX12_add_60 (hs.1 _ 12 13 h0 rfl) (ib_in g8) ?_
  rw [eσ9]
  cases hf
  exact go_vret rfl dX12_add_61 (Nat.le_refl _) ⟨rfl, rfl⟩
def f_X12_tight_84 (N : Nat) (ρ : Nat → Nat → Nat) (a1 : Int32) (σ : St) : Option (Int32 × St) :=
  some (5, σ)
def f_X12_tight_82 (N : Nat) (ρ : Nat → Nat → Nat) (a1 : Int32) (σ : St) : Option (Int32 × St) :=
  some (4, σ)
def f_X12_tight (N : Nat) (ρ : Nat → Nat → Nat) (a1 : Int32) (σ : St) : Option (Int32 × St) :=
  if (a1 : Int32) = 21 then
    some (3, σ)
  else
  if (a1 : Int32) = 38 then
    some (2, σ)
  else
  if (a1 : Int32) = 43 then
    f_X12_tight_84 N ρ a1 σ
  else
  if (a1 : Int32) = 45 then
    f_X12_tight_84 N ρ a1 σ
  else
  if (a1 : Int32) = 60 then
    f_X12_tight_82 N ρ a1 σ
  else
  if (a1 : Int32) = 61 then
    f_X12_tight_82 N ρ a1 σ
  else
  if (a1 : Int32) = 62 then
    f_X12_tight_82 N ρ a1 σ
  else
  if (a1 : Int32) = 124 then
    some (1, σ)
  else
    some (6, σ)
set_option maxRecDepth 100000 in
set_option maxHeartbeats 4000000 in
theorem w_X12_tight_84 {N : Nat} {Γ : SG} {ρ : Nat → Nat → Nat} (hs : Sh Γ ρ) {a1 : Int32} {n0 : Nat} {r : Int32} {σr : St} (σ : St) (hf : f_X12_tight_84 N ρ a1 σ = some (r, σr)) : Go mX12_tight 0 0 0 n0 (Ki Γ ρ r σr) 0 0 84 [none] [] (hp Γ ρ σ) := by
  unfold f_X12_tight_84 at hf
  refine go_iconst 5 dX12_tight_84 (by decide) ?_
  cases hf
  exact go_iret rfl dX12_tight_85 (Nat.le_refl _) ⟨rfl, rfl⟩
set_option maxRecDepth 100000 in
set_option maxHeartbeats 4000000 in
theorem w_X12_tight_82 {N : Nat} {Γ : SG} {ρ : Nat → Nat → Nat} (hs : Sh Γ ρ) {a1 : Int32} {n0 : Nat} {r : Int32} {σr : St} (σ : St) (hf : f_X12_tight_82 N ρ a1 σ = some (r, σr)) : Go mX12_tight 0 0 0 n0 (Ki Γ ρ r σr) 0 0 82 [none] [] (hp Γ ρ σ) := by
  unfold f_X12_tight_82 at hf
  refine go_iconst 4 dX12_tight_82 (by decide) ?_
  cases hf
  exact go_iret rfl dX12_tight_83 (Nat.le_refl _) ⟨rfl, rfl⟩
set_option maxRecDepth 100000 in
set_option maxHeartbeats 4000000 in
theorem t_X12_tight {N : Nat} {Γ : SG} {ρ : Nat → Nat → Nat} (hs : Sh Γ ρ) {a1 : Int32} {σ : St} {r : Int32} {σr : St} (hf : f_X12_tight N ρ a1 σ = some (r, σr)) : Tri mX12_tight 0 0 0 [.int a1] (hp Γ ρ σ) (Ki Γ ρ r σr) := by
  unfold f_X12_tight at hf
  refine tri_of [some (.int a1)] (plainFor_of_name rfl) rfl (Nat.le_of_ble_eq_true rfl) ?_
  refine go_iload_n 0 dX12_tight_0 rfl rfl ?_
  by_cases c1 : (a1 : Int32) = 21
  · replace hf := (if_pos c1).symm.trans hf
    refine go_lookup 80 dX12_tight_1 (by decide) (off := 79) (by rw [c1]; decide) (by decide) ?_
    refine go_iconst 3 dX12_tight_80 (by decide) ?_
    cases hf
    exact go_iret rfl dX12_tight_81 (Nat.le_refl _) ⟨rfl, rfl⟩
  replace hf := (if_neg c1).symm.trans hf
  by_cases c2 : (a1 : Int32) = 38
  · replace hf := (if_pos c2).symm.trans hf
    refine go_lookup 78 dX12_tight_1 (by decide) (off := 77) (by rw [c2]; decide) (by decide) ?_
    refine go_iconst 2 dX12_tight_78 (by decide) ?_
    cases hf
    exact go_iret rfl dX12_tight_79 (Nat.le_refl _) ⟨rfl, rfl⟩
  replace hf := (if_neg c2).symm.trans hf
  by_cases c3 : (a1 : Int32) = 43
  · replace hf := (if_pos c3).symm.trans hf
    refine go_lookup 84 dX12_tight_1 (by decide) (off := 83) (by rw [c3]; decide) (by decide) ?_
    refine go_msk [false] [none] rfl ?_
    exact w_X12_tight_84 hs σ hf
  replace hf := (if_neg c3).symm.trans hf
  by_cases c4 : (a1 : Int32) = 45
  · replace hf := (if_pos c4).symm.trans hf
    refine go_lookup 84 dX12_tight_1 (by decide) (off := 83) (by rw [c4]; decide) (by decide) ?_
    refine go_msk [false] [none] rfl ?_
    exact w_X12_tight_84 hs σ hf
  replace hf := (if_neg c4).symm.trans hf
  by_cases c5 : (a1 : Int32) = 60
  · replace hf := (if_pos c5).symm.trans hf
    refine go_lookup 82 dX12_tight_1 (by decide) (off := 81) (by rw [c5]; decide) (by decide) ?_
    refine go_msk [false] [none] rfl ?_
    exact w_X12_tight_82 hs σ hf
  replace hf := (if_neg c5).symm.trans hf
  by_cases c6 : (a1 : Int32) = 61
  · replace hf := (if_pos c6).symm.trans hf
    refine go_lookup 82 dX12_tight_1 (by decide) (off := 81) (by rw [c6]; decide) (by decide) ?_
    refine go_msk [false] [none] rfl ?_
    exact w_X12_tight_82 hs σ hf
  replace hf := (if_neg c6).symm.trans hf
  by_cases c7 : (a1 : Int32) = 62
  · replace hf := (if_pos c7).symm.trans hf
    refine go_lookup 82 dX12_tight_1 (by decide) (off := 81) (by rw [c7]; decide) (by decide) ?_
    refine go_msk [false] [none] rfl ?_
    exact w_X12_tight_82 hs σ hf
  replace hf := (if_neg c7).symm.trans hf
  by_cases c8 : (a1 : Int32) = 124
  · replace hf := (if_pos c8).symm.trans hf
    refine go_lookup 76 dX12_tight_1 (by decide) (off := 75) (by rw [c8]; decide) (by decide) ?_
    refine go_iconst 1 dX12_tight_76 (by decide) ?_
    cases hf
    exact go_iret rfl dX12_tight_77 (Nat.le_refl _) ⟨rfl, rfl⟩
  replace hf := (if_neg c8).symm.trans hf
  refine go_lookup 86 dX12_tight_1 (by decide) (off := 85) (by rw [lv_osw (k := 21) c1 (by decide)]; rw [lv_osw (k := 38) c2 (by decide)]; rw [lv_osw (k := 43) c3 (by decide)]; rw [lv_osw (k := 45) c4 (by decide)]; rw [lv_osw (k := 60) c5 (by decide)]; rw [lv_osw (k := 61) c6 (by decide)]; rw [lv_osw (k := 62) c7 (by decide)]; rw [lv_osw (k := 124) c8 (by decide)]; rfl) (by decide) ?_
  refine go_bipush 6 dX12_tight_86 (by decide) ?_
  cases hf
  exact go_iret rfl dX12_tight_88 (Nat.le_refl _) ⟨rfl, rfl⟩
def f_X12_close_101 (N : Nat) (ρ : Nat → Nat → Nat) (this : Nat) (a1 : Int32) (σ : St) : Option (Int32 × St) :=
  some (0, σ)
def b_X12_close_0 (N : Nat) (ρ : Nat → Nat → Nat) (this : Nat) (a1 : Int32) (rec0 : St → Option (Int32 × St)) (σ : St) : Option (Int32 × St) :=
  if (σ.1 this 21 : Int32) ≤ 0 then
    f_X12_close_101 N ρ this a1 σ
  else
    gd (ib ((σ.1 this 21) - 1) 160) <|
    if (σ.1 (ρ this 17) ((σ.1 this 21) - 1).toNatClampNeg : Int32) = 20 then
      f_X12_close_101 N ρ this a1 σ
    else
      gd (ib ((σ.1 this 21) - 1) 160) <|
      bnd (f_X12_tight N ρ (σ.1 (ρ this 17) ((σ.1 this 21) - 1).toNatClampNeg) σ) fun r5 σ6 =>
      if (r5 : Int32) < a1 then
        f_X12_close_101 N ρ this a1 σ6
      else
        nmd (sI σ6 this 21 ((σ6.1 this 21) - 1)) fun σ9 =>
        gd (ib (σ9.1 this 21) 160) <|
        if (σ9.1 (ρ this 17) (σ9.1 this 21).toNatClampNeg : Int32) = 21 then
          bnd (f_X12_add N ρ this 2 0 σ9) fun _ σ17 =>
          nmd (sI σ17 this 25 ((σ17.1 this 25) - 1)) fun σ19 =>
          rec0 σ19
        else
          gd (ib (σ9.1 this 21) 160) <|
          bnd (f_X12_add N ρ this 3 (σ9.1 (ρ this 17) (σ9.1 this 21).toNatClampNeg) σ9) fun _ σ14 =>
          rec0 σ14
def f_X12_close_0 (N : Nat) (ρ : Nat → Nat → Nat) (this : Nat) (a1 : Int32) : Nat → St → Option (Int32 × St)
  | 0, _ => none
  | n + 1, σ => b_X12_close_0 N ρ this a1 (f_X12_close_0 N ρ this a1 n) σ
def f_X12_close (N : Nat) (ρ : Nat → Nat → Nat) (this : Nat) (a1 : Int32) (σ : St) : Option (Int32 × St) :=
  f_X12_close_0 N ρ this a1 N σ
set_option maxRecDepth 100000 in
set_option maxHeartbeats 4000000 in
theorem w_X12_close_101 {N : Nat} {Γ : SG} {ρ : Nat → Nat → Nat} (hs : Sh Γ ρ) {this : Nat} {a1 : Int32} (h0 : Γ[this]? = some (0, 12)) {n0 : Nat} {r : Int32} {σr : St} (σ : St) (hf : f_X12_close_101 N ρ this a1 σ = some (r, σr)) : Go mX12_close 1 0 0 n0 (Kv Γ ρ σr) 0 0 101 [none, none] [] (hp Γ ρ σ) := by
  unfold f_X12_close_101 at hf
  cases hf
  exact go_vret rfl dX12_close_101 (Nat.le_refl _) ⟨rfl, rfl⟩
set_option maxRecDepth 100000 in
set_option maxHeartbeats 4000000 in
theorem v_X12_close_0 {N : Nat} {Γ : SG} {ρ : Nat → Nat → Nat} (hs : Sh Γ ρ) {this : Nat} {a1 : Int32} (h0 : Γ[this]? = some (0, 12)) {n0 : Nat} {r : Int32} {σr : St} (rec0 : St → Option (Int32 × St)) (hrec0 : ∀ (σ : St), rec0 σ = some (r, σr) → Go mX12_close 1 0 0 n0 (Kv Γ ρ σr) 0 0 0 [some (.ref this), some (.int a1)] [] (hp Γ ρ σ)) (σ : St) (hf : b_X12_close_0 N ρ this a1 rec0 σ = some (r, σr)) : Go mX12_close 1 0 0 n0 (Kv Γ ρ σr) 0 0 0 [some (.ref this), some (.int a1)] [] (hp Γ ρ σ) := by
  unfold b_X12_close_0 at hf
  refine go_aload_n 0 dX12_close_0 rfl rfl ?_
  refine go_fI fl_X12_279 dX12_close_1 h0 (by decide) rfl ?_
  refine go_if_le 101 dX12_close_4 (by decide) (fun c1 => ?_) (fun c1 => ?_)
  · replace hf := (if_pos c1).symm.trans hf
    refine go_msk [false, false] [none, none] rfl ?_
    exact w_X12_close_101 hs h0 σ hf
  · replace hf := (if_neg c1).symm.trans hf
    refine go_aload_n 0 dX12_close_7 rfl rfl ?_
    refine go_fR fl_X12_39 dX12_close_8 h0 (by decide) rfl ?_
    refine go_aload_n 0 dX12_close_11 rfl rfl ?_
    refine go_fI fl_X12_279 dX12_close_12 h0 (by decide) rfl ?_
    refine go_iconst 1 dX12_close_15 (by decide) ?_
    refine go_isub dX12_close_16 ?_
    obtain ⟨g2, hf⟩ := gd_some hf
    refine go_rI dX12_close_17 (hs.1 _ 12 17 h0 rfl) (ib_in g2) ?_
    refine go_bipush 20 dX12_close_18 (by decide) ?_
    refine go_icmp_eq 101 dX12_close_20 (by decide) (fun c3 => ?_) (fun c3 => ?_)
    · replace hf := (if_pos c3).symm.trans hf
      refine go_msk [false, false] [none, none] rfl ?_
      exact w_X12_close_101 hs h0 σ hf
    · replace hf := (if_neg c3).symm.trans hf
      refine go_aload_n 0 dX12_close_23 rfl rfl ?_
      refine go_fR fl_X12_39 dX12_close_24 h0 (by decide) rfl ?_
      refine go_aload_n 0 dX12_close_27 rfl rfl ?_
      refine go_fI fl_X12_279 dX12_close_28 h0 (by decide) rfl ?_
      refine go_iconst 1 dX12_close_31 (by decide) ?_
      refine go_isub dX12_close_32 ?_
      obtain ⟨g4, hf⟩ := gd_some hf
      refine go_rI dX12_close_33 (hs.1 _ 12 17 h0 rfl) (ib_in g4) ?_
      obtain ⟨r5, σ6, q7, hf⟩ := bnd_some hf
      refine go_Si (av := [.int (σ.1 (ρ this 17) ((σ.1 this 21) - 1).toNatClampNeg)]) (rest := []) (t_X12_tight hs  q7) ok_X12_tight ml_X12_282 dX12_close_34 rfl rfl (by decide) (Nat.le_refl _) (Nat.le_refl _) (Nat.le_of_ble_eq_true rfl) ?_
      refine go_iload_n 1 dX12_close_37 rfl rfl ?_
      refine go_icmp_lt 101 dX12_close_38 (by decide) (fun c8 => ?_) (fun c8 => ?_)
      · replace hf := (if_pos c8).symm.trans hf
        refine go_msk [false, false] [none, none] rfl ?_
        exact w_X12_close_101 hs h0 σ6 hf
      · replace hf := (if_neg c8).symm.trans hf
        refine go_aload_n 0 dX12_close_41 rfl rfl ?_
        refine go_dup dX12_close_42 rfl ?_
        refine go_fI fl_X12_279 dX12_close_43 h0 (by decide) rfl ?_
        refine go_iconst 1 dX12_close_46 (by decide) ?_
        refine go_isub dX12_close_47 ?_
        obtain ⟨σ9, eσ9, hf⟩ := nmd_some hf
        refine go_pI fl_X12_279 ft_12_21 (okv_i _) dX12_close_48 h0 (by decide) rfl ?_
        rw [eσ9]
        refine go_aload_n 0 dX12_close_51 rfl rfl ?_
        refine go_fR fl_X12_39 dX12_close_52 h0 (by decide) rfl ?_
        refine go_aload_n 0 dX12_close_55 rfl rfl ?_
        refine go_fI fl_X12_279 dX12_close_56 h0 (by decide) rfl ?_
        obtain ⟨g10, hf⟩ := gd_some hf
        refine go_rI dX12_close_59 (hs.1 _ 12 17 h0 rfl) (ib_in g10) ?_
        refine go_bipush 21 dX12_close_60 (by decide) ?_
        refine go_icmp_ne 84 dX12_close_62 (by decide) (fun c11 => ?_) (fun c11 => ?_)
        · replace hf := (if_neg c11).symm.trans hf
          refine go_aload_n 0 dX12_close_84 rfl rfl ?_
          refine go_iconst 3 dX12_close_85 (by decide) ?_
          refine go_aload_n 0 dX12_close_86 rfl rfl ?_
          refine go_fR fl_X12_39 dX12_close_87 h0 (by decide) rfl ?_
          refine go_aload_n 0 dX12_close_90 rfl rfl ?_
          refine go_fI fl_X12_279 dX12_close_91 h0 (by decide) rfl ?_
          obtain ⟨g12, hf⟩ := gd_some hf
          refine go_rI dX12_close_94 (hs.1 _ 12 17 h0 rfl) (ib_in g12) ?_
          obtain ⟨r13, σ14, q15, hf⟩ := bnd_some hf
          refine go_Vv (av := [.int 3, .int (σ9.1 (ρ this 17) (σ9.1 this 21).toNatClampNeg)]) (rest := []) (t_X12_add hs h0 q15) ok_X12_add ml_X12_285 dX12_close_95 h0 rfl rfl (by decide) (Nat.le_refl _) (Nat.le_refl _) (Nat.le_of_ble_eq_true rfl) ?_
          refine go_goto 0 dX12_close_98 (by decide) ?_
          exact hrec0 σ14 hf
        · replace hf := (if_pos c11).symm.trans hf
          refine go_aload_n 0 dX12_close_65 rfl rfl ?_
          refine go_iconst 2 dX12_close_66 (by decide) ?_
          refine go_iconst 0 dX12_close_67 (by decide) ?_
          obtain ⟨r16, σ17, q18, hf⟩ := bnd_some hf
          refine go_Vv (av := [.int 2, .int 0]) (rest := []) (t_X12_add hs h0 q18) ok_X12_add ml_X12_285 dX12_close_68 h0 rfl rfl (by decide) (Nat.le_refl _) (Nat.le_refl _) (Nat.le_of_ble_eq_true rfl) ?_
          refine go_aload_n 0 dX12_close_71 rfl rfl ?_
          refine go_dup dX12_close_72 rfl ?_
          refine go_fI fl_X12_289 dX12_close_73 h0 (by decide) rfl ?_
          refine go_iconst 1 dX12_close_76 (by decide) ?_
          refine go_isub dX12_close_77 ?_
          obtain ⟨σ19, eσ19, hf⟩ := nmd_some hf
          refine go_pI fl_X12_289 ft_12_25 (okv_i _) dX12_close_78 h0 (by decide) rfl ?_
          rw [eσ19]
          refine go_goto 0 dX12_close_81 (by decide) ?_
          exact hrec0 σ19 hf
theorem w_X12_close_0 {N : Nat} {Γ : SG} {ρ : Nat → Nat → Nat} (hs : Sh Γ ρ) {this : Nat} {a1 : Int32} (h0 : Γ[this]? = some (0, 12)) {n0 : Nat} {r : Int32} {σr : St} : ∀ (n : Nat) (σ : St), f_X12_close_0 N ρ this a1 n σ = some (r, σr) → Go mX12_close 1 0 0 n0 (Kv Γ ρ σr) 0 0 0 [some (.ref this), some (.int a1)] [] (hp Γ ρ σ) := by
  intro n
  induction n with
  | zero => intro σ hf; cases hf
  | succ n ih => intro σ hf; exact v_X12_close_0 hs h0 _ ih σ hf
set_option maxRecDepth 100000 in
set_option maxHeartbeats 4000000 in
theorem t_X12_close {N : Nat} {Γ : SG} {ρ : Nat → Nat → Nat} (hs : Sh Γ ρ) {this : Nat} {a1 : Int32} (h0 : Γ[this]? = some (0, 12)) {σ : St} {r : Int32} {σr : St} (hf : f_X12_close N ρ this a1 σ = some (r, σr)) : Tri mX12_close 1 0 0 [.ref this, .int a1] (hp Γ ρ σ) (Kv Γ ρ σr) := by
  unfold f_X12_close at hf
  refine tri_of [some (.ref this), some (.int a1)] (plainFor_of_name rfl) rfl (Nat.le_of_ble_eq_true rfl) ?_
  exact w_X12_close_0 hs h0 N σ hf
def f_X12_hasRelation_74 (N : Nat) (ρ : Nat → Nat → Nat) (this : Nat) (s0 : Int32) (σ : St) : Option (Int32 × St) :=
  gd (bb s0) <|
  some (s0, σ)
def f_X12_hasRelation_73 (N : Nat) (ρ : Nat → Nat → Nat) (this : Nat) (σ : St) : Option (Int32 × St) :=
  f_X12_hasRelation_74 N ρ this 0 σ
def f_X12_hasRelation_41 (N : Nat) (ρ : Nat → Nat → Nat) (this : Nat) (x1 : Int32) (σ : St) : Option (Int32 × St) :=
  if (x1 : Int32) < 0 then
    f_X12_hasRelation_73 N ρ this σ
  else
    gd (ib x1 160) <|
    if (σ.1 (ρ this 17) x1.toNatClampNeg : Int32) = 20 then
      f_X12_hasRelation_73 N ρ this σ
    else
      gd (ib x1 160) <|
      bnd (f_X12_tight N ρ (σ.1 (ρ this 17) x1.toNatClampNeg) σ) fun r6 σ7 =>
      if (r6 : Int32) = 4 then
        f_X12_hasRelation_74 N ρ this 1 σ7
      else
        f_X12_hasRelation_73 N ρ this σ7
def b_X12_hasRelation_7 (N : Nat) (ρ : Nat → Nat → Nat) (this : Nat) (rec7 : Int32 → St → Option (Int32 × St)) (x1 : Int32) (σ : St) : Option (Int32 × St) :=
  if (x1 : Int32) < 0 then
    f_X12_hasRelation_41 N ρ this x1 σ
  else
    gd (ib x1 160) <|
    if (σ.1 (ρ this 17) x1.toNatClampNeg : Int32) = 20 then
      f_X12_hasRelation_41 N ρ this x1 σ
    else
      gd (ib x1 160) <|
      bnd (f_X12_tight N ρ (σ.1 (ρ this 17) x1.toNatClampNeg) σ) fun r14 σ15 =>
      if (r14 : Int32) ≤ 4 then
        f_X12_hasRelation_41 N ρ this x1 σ15
      else
        rec7 (x1 + (-1)) σ15
def f_X12_hasRelation_7 (N : Nat) (ρ : Nat → Nat → Nat) (this : Nat) : Nat → Int32 → St → Option (Int32 × St)
  | 0, _, _ => none
  | n + 1, x1, σ => b_X12_hasRelation_7 N ρ this (f_X12_hasRelation_7 N ρ this n) x1 σ
def f_X12_hasRelation (N : Nat) (ρ : Nat → Nat → Nat) (this : Nat) (σ : St) : Option (Int32 × St) :=
  nmd ((σ.1 this 21) - 1) fun y18 =>
  f_X12_hasRelation_7 N ρ this N y18 σ
set_option maxRecDepth 100000 in
set_option maxHeartbeats 4000000 in
theorem w_X12_hasRelation_74 {N : Nat} {Γ : SG} {ρ : Nat → Nat → Nat} (hs : Sh Γ ρ) {this : Nat} (h0 : Γ[this]? = some (0, 12)) {n0 : Nat} {r : Int32} {σr : St} (s0 : Int32) (σ : St) (hf : f_X12_hasRelation_74 N ρ this s0 σ = some (r, σr)) : Go mX12_hasRelation 1 0 0 n0 (Ki Γ ρ r σr) 0 0 74 [none, none] [.int s0] (hp Γ ρ σ) := by
  unfold f_X12_hasRelation_74 at hf
  obtain ⟨g1, hf⟩ := gd_some hf
  cases hf
  exact go_zret rfl (bb_of g1) dX12_hasRelation_74 (Nat.le_refl _) ⟨rfl, rfl⟩
set_option maxRecDepth 100000 in
set_option maxHeartbeats 4000000 in
theorem w_X12_hasRelation_73 {N : Nat} {Γ : SG} {ρ : Nat → Nat → Nat} (hs : Sh Γ ρ) {this : Nat} (h0 : Γ[this]? = some (0, 12)) {n0 : Nat} {r : Int32} {σr : St} (σ : St) (hf : f_X12_hasRelation_73 N ρ this σ = some (r, σr)) : Go mX12_hasRelation 1 0 0 n0 (Ki Γ ρ r σr) 0 0 73 [none, none] [] (hp Γ ρ σ) := by
  unfold f_X12_hasRelation_73 at hf
  refine go_iconst 0 dX12_hasRelation_73 (by decide) ?_
  exact w_X12_hasRelation_74 hs h0 0 σ hf
set_option maxRecDepth 100000 in
set_option maxHeartbeats 4000000 in
theorem w_X12_hasRelation_41 {N : Nat} {Γ : SG} {ρ : Nat → Nat → Nat} (hs : Sh Γ ρ) {this : Nat} (h0 : Γ[this]? = some (0, 12)) {n0 : Nat} {r : Int32} {σr : St} (x1 : Int32) (σ : St) (hf : f_X12_hasRelation_41 N ρ this x1 σ = some (r, σr)) : Go mX12_hasRelation 1 0 0 n0 (Ki Γ ρ r σr) 0 0 41 [some (.ref this), some (.int x1)] [] (hp Γ ρ σ) := by
  unfold f_X12_hasRelation_41 at hf
  refine go_iload_n 1 dX12_hasRelation_41 rfl rfl ?_
  refine go_if_lt 73 dX12_hasRelation_42 (by decide) (fun c2 => ?_) (fun c2 => ?_)
  · replace hf := (if_pos c2).symm.trans hf
    refine go_msk [false, false] [none, none] rfl ?_
    exact w_X12_hasRelation_73 hs h0 σ hf
  · replace hf := (if_neg c2).symm.trans hf
    refine go_aload_n 0 dX12_hasRelation_45 rfl rfl ?_
    refine go_fR fl_X12_39 dX12_hasRelation_46 h0 (by decide) rfl ?_
    refine go_iload_n 1 dX12_hasRelation_49 rfl rfl ?_
    obtain ⟨g3, hf⟩ := gd_some hf
    refine go_rI dX12_hasRelation_50 (hs.1 _ 12 17 h0 rfl) (ib_in g3) ?_
    refine go_bipush 20 dX12_hasRelation_51 (by decide) ?_
    refine go_icmp_eq 73 dX12_hasRelation_53 (by decide) (fun c4 => ?_) (fun c4 => ?_)
    · replace hf := (if_pos c4).symm.trans hf
      refine go_msk [false, false] [none, none] rfl ?_
      exact w_X12_hasRelation_73 hs h0 σ hf
    · replace hf := (if_neg c4).symm.trans hf
      refine go_aload_n 0 dX12_hasRelation_56 rfl rfl ?_
      refine go_fR fl_X12_39 dX12_hasRelation_57 h0 (by decide) rfl ?_
      refine go_iload_n 1 dX12_hasRelation_60 rfl rfl ?_
      obtain ⟨g5, hf⟩ := gd_some hf
      refine go_rI dX12_hasRelation_61 (hs.1 _ 12 17 h0 rfl) (ib_in g5) ?_
      obtain ⟨r6, σ7, q8, hf⟩ := bnd_some hf
      refine go_Si (av := [.int (σ.1 (ρ this 17) x1.toNatClampNeg)]) (rest := []) (t_X12_tight hs  q8) ok_X12_tight ml_X12_282 dX12_hasRelation_62 rfl rfl (by decide) (Nat.le_refl _) (Nat.le_refl _) (Nat.le_of_ble_eq_true rfl) ?_
      refine go_iconst 4 dX12_hasRelation_65 (by decide) ?_
      refine go_icmp_ne 73 dX12_hasRelation_66 (by decide) (fun c9 => ?_) (fun c9 => ?_)
      · replace hf := (if_neg c9).symm.trans hf
        refine go_msk [false, false] [none, none] rfl ?_
        exact w_X12_hasRelation_73 hs h0 σ7 hf
      · replace hf := (if_pos c9).symm.trans hf
        refine go_iconst 1 dX12_hasRelation_69 (by decide) ?_
        refine go_goto 74 dX12_hasRelation_70 (by decide) ?_
        refine go_msk [false, false] [none, none] rfl ?_
        exact w_X12_hasRelation_74 hs h0 1 σ7 hf
set_option maxRecDepth 100000 in
set_option maxHeartbeats 4000000 in
theorem v_X12_hasRelation_7 {N : Nat} {Γ : SG} {ρ : Nat → Nat → Nat} (hs : Sh Γ ρ) {this : Nat} (h0 : Γ[this]? = some (0, 12)) {n0 : Nat} {r : Int32} {σr : St} (rec7 : Int32 → St → Option (Int32 × St)) (hrec7 : ∀ (x1 : Int32) (σ : St), rec7 x1 σ = some (r, σr) → Go mX12_hasRelation 1 0 0 n0 (Ki Γ ρ r σr) 0 0 7 [some (.ref this), some (.int x1)] [] (hp Γ ρ σ)) (x1 : Int32) (σ : St) (hf : b_X12_hasRelation_7 N ρ this rec7 x1 σ = some (r, σr)) : Go mX12_hasRelation 1 0 0 n0 (Ki Γ ρ r σr) 0 0 7 [some (.ref this), some (.int x1)] [] (hp Γ ρ σ) := by
  unfold b_X12_hasRelation_7 at hf
  refine go_iload_n 1 dX12_hasRelation_7 rfl rfl ?_
  refine go_if_lt 41 dX12_hasRelation_8 (by decide) (fun c10 => ?_) (fun c10 => ?_)
  · replace hf := (if_pos c10).symm.trans hf
    exact w_X12_hasRelation_41 hs h0 x1 σ hf
  · replace hf := (if_neg c10).symm.trans hf
    refine go_aload_n 0 dX12_hasRelation_11 rfl rfl ?_
    refine go_fR fl_X12_39 dX12_hasRelation_12 h0 (by decide) rfl ?_
    refine go_iload_n 1 dX12_hasRelation_15 rfl rfl ?_
    obtain ⟨g11, hf⟩ := gd_some hf
    refine go_rI dX12_hasRelation_16 (hs.1 _ 12 17 h0 rfl) (ib_in g11) ?_
    refine go_bipush 20 dX12_hasRelation_17 (by decide) ?_
    refine go_icmp_eq 41 dX12_hasRelation_19 (by decide) (fun c12 => ?_) (fun c12 => ?_)
    · replace hf := (if_pos c12).symm.trans hf
      exact w_X12_hasRelation_41 hs h0 x1 σ hf
    · replace hf := (if_neg c12).symm.trans hf
      refine go_aload_n 0 dX12_hasRelation_22 rfl rfl ?_
      refine go_fR fl_X12_39 dX12_hasRelation_23 h0 (by decide) rfl ?_
      refine go_iload_n 1 dX12_hasRelation_26 rfl rfl ?_
      obtain ⟨g13, hf⟩ := gd_some hf
      refine go_rI dX12_hasRelation_27 (hs.1 _ 12 17 h0 rfl) (ib_in g13) ?_
      obtain ⟨r14, σ15, q16, hf⟩ := bnd_some hf
      refine go_Si (av := [.int (σ.1 (ρ this 17) x1.toNatClampNeg)]) (rest := []) (t_X12_tight hs  q16) ok_X12_tight ml_X12_282 dX12_hasRelation_28 rfl rfl (by decide) (Nat.le_refl _) (Nat.le_refl _) (Nat.le_of_ble_eq_true rfl) ?_
      refine go_iconst 4 dX12_hasRelation_31 (by decide) ?_
      refine go_icmp_le 41 dX12_hasRelation_32 (by decide) (fun c17 => ?_) (fun c17 => ?_)
      · replace hf := (if_pos c17).symm.trans hf
        exact w_X12_hasRelation_41 hs h0 x1 σ15 hf
      · replace hf := (if_neg c17).symm.trans hf
        refine go_iinc (x1 + (-1)) [some (.ref this), some (.int (x1 + (-1)))] dX12_hasRelation_35 rfl rfl (by decide) rfl ?_
        refine go_goto 7 dX12_hasRelation_38 (by decide) ?_
        exact hrec7 (x1 + (-1)) σ15 hf
theorem w_X12_hasRelation_7 {N : Nat} {Γ : SG} {ρ : Nat → Nat → Nat} (hs : Sh Γ ρ) {this : Nat} (h0 : Γ[this]? = some (0, 12)) {n0 : Nat} {r : Int32} {σr : St} : ∀ (n : Nat) (x1 : Int32) (σ : St), f_X12_hasRelation_7 N ρ this n x1 σ = some (r, σr) → Go mX12_hasRelation 1 0 0 n0 (Ki Γ ρ r σr) 0 0 7 [some (.ref this), some (.int x1)] [] (hp Γ ρ σ) := by
  intro n
  induction n with
  | zero => intro x1 σ hf; cases hf
  | succ n ih => intro x1 σ hf; exact v_X12_hasRelation_7 hs h0 _ ih x1 σ hf
set_option maxRecDepth 100000 in
set_option maxHeartbeats 4000000 in
theorem t_X12_hasRelation {N : Nat} {Γ : SG} {ρ : Nat → Nat → Nat} (hs : Sh Γ ρ) {this : Nat} (h0 : Γ[this]? = some (0, 12)) {σ : St} {r : Int32} {σr : St} (hf : f_X12_hasRelation N ρ this σ = some (r, σr)) : Tri mX12_hasRelation 1 0 0 [.ref this] (hp Γ ρ σ) (Ki Γ ρ r σr) := by
  unfold f_X12_hasRelation at hf
  refine tri_of [some (.ref this), none] (plainFor_of_name rfl) rfl (Nat.le_of_ble_eq_true rfl) ?_
  refine go_aload_n 0 dX12_hasRelation_0 rfl rfl ?_
  refine go_fI fl_X12_279 dX12_hasRelation_1 h0 (by decide) rfl ?_
  refine go_iconst 1 dX12_hasRelation_4 (by decide) ?_
  refine go_isub dX12_hasRelation_5 ?_
  obtain ⟨y18, ey18, hf⟩ := nmd_some hf
  refine go_nm ey18 ?_
  refine go_istore_n 1 [some (.ref this), some (.int y18)] dX12_hasRelation_6 rfl (by decide) rfl ?_
  exact w_X12_hasRelation_7 hs h0 N y18 σ hf
def f_X12_mayNot_46 (N : Nat) (ρ : Nat → Nat → Nat) (this : Nat) (s0 : Int32) (σ : St) : Option (Int32 × St) :=
  gd (bb s0) <|
  some (s0, σ)
def f_X12_mayNot_41 (N : Nat) (ρ : Nat → Nat → Nat) (this : Nat) (σ : St) : Option (Int32 × St) :=
  f_X12_mayNot_46 N ρ this 1 σ
def f_X12_mayNot (N : Nat) (ρ : Nat → Nat → Nat) (this : Nat) (σ : St) : Option (Int32 × St) :=
  if (σ.1 this 21 : Int32) = 0 then
    f_X12_mayNot_41 N ρ this σ
  else
    gd (ib ((σ.1 this 21) - 1) 160) <|
    if (σ.1 (ρ this 17) ((σ.1 this 21) - 1).toNatClampNeg : Int32) = 20 then
      f_X12_mayNot_41 N ρ this σ
    else
      gd (ib ((σ.1 this 21) - 1) 160) <|
      bnd (f_X12_tight N ρ (σ.1 (ρ this 17) ((σ.1 this 21) - 1).toNatClampNeg) σ) fun r6 σ7 =>
      if 4 ≤ (r6 : Int32) then
        f_X12_mayNot_46 N ρ this 0 σ7
      else
        f_X12_mayNot_41 N ρ this σ7
set_option maxRecDepth 100000 in
set_option maxHeartbeats 4000000 in
theorem w_X12_mayNot_46 {N : Nat} {Γ : SG} {ρ : Nat → Nat → Nat} (hs : Sh Γ ρ) {this : Nat} (h0 : Γ[this]? = some (0, 12)) {n0 : Nat} {r : Int32} {σr : St} (s0 : Int32) (σ : St) (hf : f_X12_mayNot_46 N ρ this s0 σ = some (r, σr)) : Go mX12_mayNot 1 0 0 n0 (Ki Γ ρ r σr) 0 0 46 [none] [.int s0] (hp Γ ρ σ) := by
  unfold f_X12_mayNot_46 at hf
  obtain ⟨g1, hf⟩ := gd_some hf
  cases hf
  exact go_zret rfl (bb_of g1) dX12_mayNot_46 (Nat.le_refl _) ⟨rfl, rfl⟩
set_option maxRecDepth 100000 in
set_option maxHeartbeats 4000000 in
theorem w_X12_mayNot_41 {N : Nat} {Γ : SG} {ρ : Nat → Nat → Nat} (hs : Sh Γ ρ) {this : Nat} (h0 : Γ[this]? = some (0, 12)) {n0 : Nat} {r : Int32} {σr : St} (σ : St) (hf : f_X12_mayNot_41 N ρ this σ = some (r, σr)) : Go mX12_mayNot 1 0 0 n0 (Ki Γ ρ r σr) 0 0 41 [none] [] (hp Γ ρ σ) := by
  unfold f_X12_mayNot_41 at hf
  refine go_iconst 1 dX12_mayNot_41 (by decide) ?_
  refine go_goto 46 dX12_mayNot_42 (by decide) ?_
  exact w_X12_mayNot_46 hs h0 1 σ hf
set_option maxRecDepth 100000 in
set_option maxHeartbeats 4000000 in
theorem t_X12_mayNot {N : Nat} {Γ : SG} {ρ : Nat → Nat → Nat} (hs : Sh Γ ρ) {this : Nat} (h0 : Γ[this]? = some (0, 12)) {σ : St} {r : Int32} {σr : St} (hf : f_X12_mayNot N ρ this σ = some (r, σr)) : Tri mX12_mayNot 1 0 0 [.ref this] (hp Γ ρ σ) (Ki Γ ρ r σr) := by
  unfold f_X12_mayNot at hf
  refine tri_of [some (.ref this)] (plainFor_of_name rfl) rfl (Nat.le_of_ble_eq_true rfl) ?_
  refine go_aload_n 0 dX12_mayNot_0 rfl rfl ?_
  refine go_fI fl_X12_279 dX12_mayNot_1 h0 (by decide) rfl ?_
  refine go_if_eq 41 dX12_mayNot_4 (by decide) (fun c2 => ?_) (fun c2 => ?_)
  · replace hf := (if_pos c2).symm.trans hf
    refine go_msk [false] [none] rfl ?_
    exact w_X12_mayNot_41 hs h0 σ hf
  · replace hf := (if_neg c2).symm.trans hf
    refine go_aload_n 0 dX12_mayNot_7 rfl rfl ?_
    refine go_fR fl_X12_39 dX12_mayNot_8 h0 (by decide) rfl ?_
    refine go_aload_n 0 dX12_mayNot_11 rfl rfl ?_
    refine go_fI fl_X12_279 dX12_mayNot_12 h0 (by decide) rfl ?_
    refine go_iconst 1 dX12_mayNot_15 (by decide) ?_
    refine go_isub dX12_mayNot_16 ?_
    obtain ⟨g3, hf⟩ := gd_some hf
    refine go_rI dX12_mayNot_17 (hs.1 _ 12 17 h0 rfl) (ib_in g3) ?_
    refine go_bipush 20 dX12_mayNot_18 (by decide) ?_
    refine go_icmp_eq 41 dX12_mayNot_20 (by decide) (fun c4 => ?_) (fun c4 => ?_)
    · replace hf := (if_pos c4).symm.trans hf
      refine go_msk [false] [none] rfl ?_
      exact w_X12_mayNot_41 hs h0 σ hf
    · replace hf := (if_neg c4).symm.trans hf
      refine go_aload_n 0 dX12_mayNot_23 rfl rfl ?_
      refine go_fR fl_X12_39 dX12_mayNot_24 h0 (by decide) rfl ?_
      refine go_aload_n 0 dX12_mayNot_27 rfl rfl ?_
      refine go_fI fl_X12_279 dX12_mayNot_28 h0 (by decide) rfl ?_
      refine go_iconst 1 dX12_mayNot_31 (by decide) ?_
      refine go_isub dX12_mayNot_32 ?_
      obtain ⟨g5, hf⟩ := gd_some hf
      refine go_rI dX12_mayNot_33 (hs.1 _ 12 17 h0 rfl) (ib_in g5) ?_
      obtain ⟨r6, σ7, q8, hf⟩ := bnd_some hf
      refine go_Si (av := [.int (σ.1 (ρ this 17) ((σ.1 this 21) - 1).toNatClampNeg)]) (rest := []) (t_X12_tight hs  q8) ok_X12_tight ml_X12_282 dX12_mayNot_34 rfl rfl (by decide) (Nat.le_refl _) (Nat.le_refl _) (Nat.le_of_ble_eq_true rfl) ?_
      refine go_iconst 4 dX12_mayNot_37 (by decide) ?_
      refine go_icmp_ge 45 dX12_mayNot_38 (by decide) (fun c9 => ?_) (fun c9 => ?_)
      · replace hf := (if_pos c9).symm.trans hf
        refine go_iconst 0 dX12_mayNot_45 (by decide) ?_
        refine go_msk [false] [none] rfl ?_
        exact w_X12_mayNot_46 hs h0 0 σ7 hf
      · replace hf := (if_neg c9).symm.trans hf
        refine go_msk [false] [none] rfl ?_
        exact w_X12_mayNot_41 hs h0 σ7 hf
def f_X12_asked_91 (N : Nat) (ρ : Nat → Nat → Nat) (this : Nat) (s0 : Int32) (σ : St) : Option (Int32 × St) :=
  some (s0, σ)
def f_X12_asked (N : Nat) (ρ : Nat → Nat → Nat) (this : Nat) (σ : St) : Option (Int32 × St) :=
  if (σ.1 this 6 : Int32) = 1 then
    if (lg_cmp (σ.2 this 9) (448377484921) : Int32) = 0 then
      some (0, σ)
    else
      if (lg_cmp (σ.2 this 9) (1835101817) : Int32) = 0 then
        some (1, σ)
      else
        if (lg_cmp (σ.2 this 9) (2002874989) : Int32) = 0 then
          some (2, σ)
        else
          if (lg_cmp (σ.2 this 9) (1684369012) : Int32) = 0 then
            some (3, σ)
          else
            if (lg_cmp (σ.2 this 9) (126943973305959) : Int32) = 0 then
              some (4, σ)
            else
              if (lg_cmp (σ.2 this 9) (6578553) : Int32) = 0 then
                f_X12_asked_91 N ρ this 5 σ
              else
                f_X12_asked_91 N ρ this (-1) σ
  else
    some ((-1), σ)
set_option maxRecDepth 100000 in
set_option maxHeartbeats 4000000 in
theorem w_X12_asked_91 {N : Nat} {Γ : SG} {ρ : Nat → Nat → Nat} (hs : Sh Γ ρ) {this : Nat} (h0 : Γ[this]? = some (0, 12)) {n0 : Nat} {r : Int32} {σr : St} (s0 : Int32) (σ : St) (hf : f_X12_asked_91 N ρ this s0 σ = some (r, σr)) : Go mX12_asked 0 0 0 n0 (Ki Γ ρ r σr) 0 0 91 [none] [.int s0] (hp Γ ρ σ) := by
  unfold f_X12_asked_91 at hf
  cases hf
  exact go_iret rfl dX12_asked_91 (Nat.le_refl _) ⟨rfl, rfl⟩
set_option maxRecDepth 100000 in
set_option maxHeartbeats 4000000 in
theorem t_X12_asked {N : Nat} {Γ : SG} {ρ : Nat → Nat → Nat} (hs : Sh Γ ρ) {this : Nat} (h0 : Γ[this]? = some (0, 12)) {σ : St} {r : Int32} {σr : St} (hf : f_X12_asked N ρ this σ = some (r, σr)) : Tri mX12_asked 0 0 0 [.ref this] (hp Γ ρ σ) (Ki Γ ρ r σr) := by
  unfold f_X12_asked at hf
  refine tri_of [some (.ref this)] (plainFor_of_name rfl) rfl (Nat.le_of_ble_eq_true rfl) ?_
  refine go_aload_n 0 dX12_asked_0 rfl rfl ?_
  refine go_fI fl_X12_193 dX12_asked_1 h0 (by decide) rfl ?_
  refine go_iconst 1 dX12_asked_4 (by decide) ?_
  refine go_icmp_eq 10 dX12_asked_5 (by decide) (fun c1 => ?_) (fun c1 => ?_)
  · replace hf := (if_pos c1).symm.trans hf
    refine go_aload_n 0 dX12_asked_10 rfl rfl ?_
    refine go_fJ fl_X12_186 dX12_asked_11 h0 (by decide) rfl ?_
    refine go_ldc2 (448377484921) dX12_asked_14 cn_X12_213 ?_
    refine go_lcmp dX12_asked_17 ?_
    refine go_if_ne 23 dX12_asked_18 (by decide) (fun c2 => ?_) (fun c2 => ?_)
    · replace hf := (if_neg c2).symm.trans hf
      refine go_aload_n 0 dX12_asked_23 rfl rfl ?_
      refine go_fJ fl_X12_186 dX12_asked_24 h0 (by decide) rfl ?_
      refine go_ldc2 (1835101817) dX12_asked_27 cn_X12_237 ?_
      refine go_lcmp dX12_asked_30 ?_
      refine go_if_ne 36 dX12_asked_31 (by decide) (fun c3 => ?_) (fun c3 => ?_)
      · replace hf := (if_neg c3).symm.trans hf
        refine go_aload_n 0 dX12_asked_36 rfl rfl ?_
        refine go_fJ fl_X12_186 dX12_asked_37 h0 (by decide) rfl ?_
        refine go_ldc2 (2002874989) dX12_asked_40 cn_X12_217 ?_
        refine go_lcmp dX12_asked_43 ?_
        refine go_if_ne 49 dX12_asked_44 (by decide) (fun c4 => ?_) (fun c4 => ?_)
        · replace hf := (if_neg c4).symm.trans hf
          refine go_aload_n 0 dX12_asked_49 rfl rfl ?_
          refine go_fJ fl_X12_186 dX12_asked_50 h0 (by decide) rfl ?_
          refine go_ldc2 (1684369012) dX12_asked_53 cn_X12_225 ?_
          refine go_lcmp dX12_asked_56 ?_
          refine go_if_ne 62 dX12_asked_57 (by decide) (fun c5 => ?_) (fun c5 => ?_)
          · replace hf := (if_neg c5).symm.trans hf
            refine go_aload_n 0 dX12_asked_62 rfl rfl ?_
            refine go_fJ fl_X12_186 dX12_asked_63 h0 (by decide) rfl ?_
            refine go_ldc2 (126943973305959) dX12_asked_66 cn_X12_221 ?_
            refine go_lcmp dX12_asked_69 ?_
            refine go_if_ne 75 dX12_asked_70 (by decide) (fun c6 => ?_) (fun c6 => ?_)
            · replace hf := (if_neg c6).symm.trans hf
              refine go_aload_n 0 dX12_asked_75 rfl rfl ?_
              refine go_fJ fl_X12_186 dX12_asked_76 h0 (by decide) rfl ?_
              refine go_ldc2 (6578553) dX12_asked_79 cn_X12_239 ?_
              refine go_lcmp dX12_asked_82 ?_
              refine go_if_ne 90 dX12_asked_83 (by decide) (fun c7 => ?_) (fun c7 => ?_)
              · replace hf := (if_neg c7).symm.trans hf
                refine go_iconst (-1) dX12_asked_90 (by decide) ?_
                refine go_msk [false] [none] rfl ?_
                exact w_X12_asked_91 hs h0 (-1) σ hf
              · replace hf := (if_pos c7).symm.trans hf
                refine go_iconst 5 dX12_asked_86 (by decide) ?_
                refine go_goto 91 dX12_asked_87 (by decide) ?_
                refine go_msk [false] [none] rfl ?_
                exact w_X12_asked_91 hs h0 5 σ hf
            · replace hf := (if_pos c6).symm.trans hf
              refine go_iconst 4 dX12_asked_73 (by decide) ?_
              cases hf
              exact go_iret rfl dX12_asked_74 (Nat.le_refl _) ⟨rfl, rfl⟩
          · replace hf := (if_pos c5).symm.trans hf
            refine go_iconst 3 dX12_asked_60 (by decide) ?_
            cases hf
            exact go_iret rfl dX12_asked_61 (Nat.le_refl _) ⟨rfl, rfl⟩
        · replace hf := (if_pos c4).symm.trans hf
          refine go_iconst 2 dX12_asked_47 (by decide) ?_
          cases hf
          exact go_iret rfl dX12_asked_48 (Nat.le_refl _) ⟨rfl, rfl⟩
      · replace hf := (if_pos c3).symm.trans hf
        refine go_iconst 1 dX12_asked_34 (by decide) ?_
        cases hf
        exact go_iret rfl dX12_asked_35 (Nat.le_refl _) ⟨rfl, rfl⟩
    · replace hf := (if_pos c2).symm.trans hf
      refine go_iconst 0 dX12_asked_21 (by decide) ?_
      cases hf
      exact go_iret rfl dX12_asked_22 (Nat.le_refl _) ⟨rfl, rfl⟩
  · replace hf := (if_neg c1).symm.trans hf
    refine go_iconst (-1) dX12_asked_8 (by decide) ?_
    cases hf
    exact go_iret rfl dX12_asked_9 (Nat.le_refl _) ⟨rfl, rfl⟩
def f_X12_isFull_23 (N : Nat) (ρ : Nat → Nat → Nat) (this : Nat) (s0 : Int32) (σ : St) : Option (Int32 × St) :=
  gd (bb s0) <|
  some (s0, σ)
def f_X12_isFull_18 (N : Nat) (ρ : Nat → Nat → Nat) (this : Nat) (σ : St) : Option (Int32 × St) :=
  f_X12_isFull_23 N ρ this 1 σ
def f_X12_isFull (N : Nat) (ρ : Nat → Nat → Nat) (this : Nat) (σ : St) : Option (Int32 × St) :=
  if (σ.1 this 22 : Int32) = 60 then
    f_X12_isFull_18 N ρ this σ
  else
    if (σ.1 this 24 : Int32) = 30 then
      f_X12_isFull_18 N ρ this σ
    else
      f_X12_isFull_23 N ρ this 0 σ
set_option maxRecDepth 100000 in
set_option maxHeartbeats 4000000 in
theorem w_X12_isFull_23 {N : Nat} {Γ : SG} {ρ : Nat → Nat → Nat} (hs : Sh Γ ρ) {this : Nat} (h0 : Γ[this]? = some (0, 12)) {n0 : Nat} {r : Int32} {σr : St} (s0 : Int32) (σ : St) (hf : f_X12_isFull_23 N ρ this s0 σ = some (r, σr)) : Go mX12_isFull 0 0 0 n0 (Ki Γ ρ r σr) 0 0 23 [none] [.int s0] (hp Γ ρ σ) := by
  unfold f_X12_isFull_23 at hf
  obtain ⟨g1, hf⟩ := gd_some hf
  cases hf
  exact go_zret rfl (bb_of g1) dX12_isFull_23 (Nat.le_refl _) ⟨rfl, rfl⟩
set_option maxRecDepth 100000 in
set_option maxHeartbeats 4000000 in
theorem w_X12_isFull_18 {N : Nat} {Γ : SG} {ρ : Nat → Nat → Nat} (hs : Sh Γ ρ) {this : Nat} (h0 : Γ[this]? = some (0, 12)) {n0 : Nat} {r : Int32} {σr : St} (σ : St) (hf : f_X12_isFull_18 N ρ this σ = some (r, σr)) : Go mX12_isFull 0 0 0 n0 (Ki Γ ρ r σr) 0 0 18 [none] [] (hp Γ ρ σ) := by
  unfold f_X12_isFull_18 at hf
  refine go_iconst 1 dX12_isFull_18 (by decide) ?_
  refine go_goto 23 dX12_isFull_19 (by decide) ?_
  exact w_X12_isFull_23 hs h0 1 σ hf
set_option maxRecDepth 100000 in
set_option maxHeartbeats 4000000 in
theorem t_X12_isFull {N : Nat} {Γ : SG} {ρ : Nat → Nat → Nat} (hs : Sh Γ ρ) {this : Nat} (h0 : Γ[this]? = some (0, 12)) {σ : St} {r : Int32} {σr : St} (hf : f_X12_isFull N ρ this σ = some (r, σr)) : Tri mX12_isFull 0 0 0 [.ref this] (hp Γ ρ σ) (Ki Γ ρ r σr) := by
  unfold f_X12_isFull at hf
  refine tri_of [some (.ref this)] (plainFor_of_name rfl) rfl (Nat.le_of_ble_eq_true rfl) ?_
  refine go_aload_n 0 dX12_isFull_0 rfl rfl ?_
  refine go_fI fl_X12_292 dX12_isFull_1 h0 (by decide) rfl ?_
  refine go_bipush 60 dX12_isFull_4 (by decide) ?_
  refine go_icmp_eq 18 dX12_isFull_6 (by decide) (fun c2 => ?_) (fun c2 => ?_)
  · replace hf := (if_pos c2).symm.trans hf
    refine go_msk [false] [none] rfl ?_
    exact w_X12_isFull_18 hs h0 σ hf
  · replace hf := (if_neg c2).symm.trans hf
    refine go_aload_n 0 dX12_isFull_9 rfl rfl ?_
    refine go_fI fl_X12_295 dX12_isFull_10 h0 (by decide) rfl ?_
    refine go_bipush 30 dX12_isFull_13 (by decide) ?_
    refine go_icmp_ne 22 dX12_isFull_15 (by decide) (fun c3 => ?_) (fun c3 => ?_)
    · replace hf := (if_neg c3).symm.trans hf
      refine go_iconst 0 dX12_isFull_22 (by decide) ?_
      refine go_msk [false] [none] rfl ?_
      exact w_X12_isFull_23 hs h0 0 σ hf
    · replace hf := (if_pos c3).symm.trans hf
      refine go_msk [false] [none] rfl ?_
      exact w_X12_isFull_18 hs h0 σ hf
def f_X12_countUnit (N : Nat) (ρ : Nat → Nat → Nat) (this : Nat) (σ : St) : Option (Int32 × St) :=
  nmd (sI σ this 22 ((σ.1 this 22) + 1)) fun σ1 =>
  nmd (sI σ1 this 24 ((σ1.1 this 24) + 1)) fun σ2 =>
  some (0, σ2)
set_option maxRecDepth 100000 in
set_option maxHeartbeats 4000000 in
theorem t_X12_countUnit {N : Nat} {Γ : SG} {ρ : Nat → Nat → Nat} (hs : Sh Γ ρ) {this : Nat} (h0 : Γ[this]? = some (0, 12)) {σ : St} {r : Int32} {σr : St} (hf : f_X12_countUnit N ρ this σ = some (r, σr)) : Tri mX12_countUnit 0 0 0 [.ref this] (hp Γ ρ σ) (Kv Γ ρ σr) := by
  unfold f_X12_countUnit at hf
  refine tri_of [some (.ref this)] (plainFor_of_name rfl) rfl (Nat.le_of_ble_eq_true rfl) ?_
  refine go_aload_n 0 dX12_countUnit_0 rfl rfl ?_
  refine go_dup dX12_countUnit_1 rfl ?_
  refine go_fI fl_X12_292 dX12_countUnit_2 h0 (by decide) rfl ?_
  refine go_iconst 1 dX12_countUnit_5 (by decide) ?_
  refine go_iadd dX12_countUnit_6 ?_
  obtain ⟨σ1, eσ1, hf⟩ := nmd_some hf
  refine go_pI fl_X12_292 ft_12_22 (okv_i _) dX12_countUnit_7 h0 (by decide) rfl ?_
  rw [eσ1]
  refine go_aload_n 0 dX12_countUnit_10 rfl rfl ?_
  refine go_dup dX12_countUnit_11 rfl ?_
  refine go_fI fl_X12_295 dX12_countUnit_12 h0 (by decide) rfl ?_
  refine go_iconst 1 dX12_countUnit_15 (by decide) ?_
  refine go_iadd dX12_countUnit_16 ?_
  obtain ⟨σ2, eσ2, hf⟩ := nmd_some hf
  refine go_pI fl_X12_295 ft_12_24 (okv_i _) dX12_countUnit_17 h0 (by decide) rfl ?_
  rw [eσ2]
  cases hf
  exact go_vret rfl dX12_countUnit_20 (Nat.le_refl _) ⟨rfl, rfl⟩
def f_X12_openUp_41 (N : Nat) (ρ : Nat → Nat → Nat) (this : Nat) (a1 : Int32) (σ : St) : Option (Int32 × St) :=
  some (0, σ)
def f_X12_openUp (N : Nat) (ρ : Nat → Nat → Nat) (this : Nat) (a1 : Int32) (σ : St) : Option (Int32 × St) :=
  gd (ib (σ.1 this 21) 160) <|
  nmd (sI σ (ρ this 17) (σ.1 this 21).toNatClampNeg a1) fun σ2 =>
  nmd (sI σ2 this 21 ((σ2.1 this 21) + 1)) fun σ3 =>
  nmd (sI σ3 this 25 ((σ3.1 this 25) + 1)) fun σ4 =>
  if (σ4.1 this 2 : Int32) = 0 then
    bnd (f_X12_token N ρ this σ4) fun _ σ7 =>
    f_X12_openUp_41 N ρ this a1 σ7
  else
    f_X12_openUp_41 N ρ this a1 σ4
set_option maxRecDepth 100000 in
set_option maxHeartbeats 4000000 in
theorem w_X12_openUp_41 {N : Nat} {Γ : SG} {ρ : Nat → Nat → Nat} (hs : Sh Γ ρ) {this : Nat} {a1 : Int32} (h0 : Γ[this]? = some (0, 12)) {n0 : Nat} {r : Int32} {σr : St} (σ : St) (hf : f_X12_openUp_41 N ρ this a1 σ = some (r, σr)) : Go mX12_openUp 2 0 0 n0 (Kv Γ ρ σr) 0 0 41 [none, none] [] (hp Γ ρ σ) := by
  unfold f_X12_openUp_41 at hf
  cases hf
  exact go_vret rfl dX12_openUp_41 (Nat.le_refl _) ⟨rfl, rfl⟩
set_option maxRecDepth 100000 in
set_option maxHeartbeats 4000000 in
theorem t_X12_openUp {N : Nat} {Γ : SG} {ρ : Nat → Nat → Nat} (hs : Sh Γ ρ) {this : Nat} {a1 : Int32} (h0 : Γ[this]? = some (0, 12)) {σ : St} {r : Int32} {σr : St} (hf : f_X12_openUp N ρ this a1 σ = some (r, σr)) : Tri mX12_openUp 2 0 0 [.ref this, .int a1] (hp Γ ρ σ) (Kv Γ ρ σr) := by
  unfold f_X12_openUp at hf
  refine tri_of [some (.ref this), some (.int a1)] (plainFor_of_name rfl) rfl (Nat.le_of_ble_eq_true rfl) ?_
  refine go_aload_n 0 dX12_openUp_0 rfl rfl ?_
  refine go_fR fl_X12_39 dX12_openUp_1 h0 (by decide) rfl ?_
  refine go_aload_n 0 dX12_openUp_4 rfl rfl ?_
  refine go_fI fl_X12_279 dX12_openUp_5 h0 (by decide) rfl ?_
  refine go_iload_n 1 dX12_openUp_8 rfl rfl ?_
  obtain ⟨g1, hf⟩ := gd_some hf
  obtain ⟨σ2, eσ2, hf⟩ := nmd_some hf
  refine go_wI dX12_openUp_9 (hs.1 _ 12 17 h0 rfl) (ib_in g1) ?_
  rw [eσ2]
  refine go_aload_n 0 dX12_openUp_10 rfl rfl ?_
  refine go_dup dX12_openUp_11 rfl ?_
  refine go_fI fl_X12_279 dX12_openUp_12 h0 (by decide) rfl ?_
  refine go_iconst 1 dX12_openUp_15 (by decide) ?_
  refine go_iadd dX12_openUp_16 ?_
  obtain ⟨σ3, eσ3, hf⟩ := nmd_some hf
  refine go_pI fl_X12_279 ft_12_21 (okv_i _) dX12_openUp_17 h0 (by decide) rfl ?_
  rw [eσ3]
  refine go_aload_n 0 dX12_openUp_20 rfl rfl ?_
  refine go_dup dX12_openUp_21 rfl ?_
  refine go_fI fl_X12_289 dX12_openUp_22 h0 (by decide) rfl ?_
  refine go_iconst 1 dX12_openUp_25 (by decide) ?_
  refine go_iadd dX12_openUp_26 ?_
  obtain ⟨σ4, eσ4, hf⟩ := nmd_some hf
  refine go_pI fl_X12_289 ft_12_25 (okv_i _) dX12_openUp_27 h0 (by decide) rfl ?_
  rw [eσ4]
  refine go_aload_n 0 dX12_openUp_30 rfl rfl ?_
  refine go_fI fl_X12_206 dX12_openUp_31 h0 (by decide) rfl ?_
  refine go_if_ne 41 dX12_openUp_34 (by decide) (fun c5 => ?_) (fun c5 => ?_)
  · replace hf := (if_neg c5).symm.trans hf
    refine go_msk [false, false] [none, none] rfl ?_
    exact w_X12_openUp_41 hs h0 σ4 hf
  · replace hf := (if_pos c5).symm.trans hf
    refine go_aload_n 0 dX12_openUp_37 rfl rfl ?_
    obtain ⟨r6, σ7, q8, hf⟩ := bnd_some hf
    refine go_Vv (av := []) (rest := []) (t_X12_token hs h0 q8) ok_X12_token ml_X12_258 dX12_openUp_38 h0 rfl rfl (by decide) (Nat.le_refl _) (Nat.le_refl _) (Nat.le_of_ble_eq_true rfl) ?_
    refine go_msk [false, false] [none, none] rfl ?_
    exact w_X12_openUp_41 hs h0 σ7 hf
def f_X12_unit_44 (N : Nat) (ρ : Nat → Nat → Nat) (this : Nat) (rec2 : Int32 → St → Option (Int32 × St)) (x1 : Int32) (σ : St) : Option (Int32 × St) :=
  bnd (f_X12_openUp N ρ this 21 σ) fun _ σ2 =>
  rec2 x1 σ2
def f_X12_unit_83 (N : Nat) (ρ : Nat → Nat → Nat) (this : Nat) (rec2 : Int32 → St → Option (Int32 × St)) (x1 : Int32) (σ : St) : Option (Int32 × St) :=
  bnd (f_X12_countUnit N ρ this σ) fun _ σ5 =>
  bnd (f_X12_openUp N ρ this 20 σ5) fun _ σ8 =>
  rec2 x1 σ8
def f_X12_unit_78 (N : Nat) (ρ : Nat → Nat → Nat) (this : Nat) (rec2 : Int32 → St → Option (Int32 × St)) (x1 : Int32) (σ : St) : Option (Int32 × St) :=
  bnd (f_X12_wrong N ρ this 2 σ) fun _ σ11 =>
  f_X12_unit_83 N ρ this rec2 x1 σ11
def f_X12_unit_53 (N : Nat) (ρ : Nat → Nat → Nat) (this : Nat) (rec2 : Int32 → St → Option (Int32 × St)) (x1 : Int32) (σ : St) : Option (Int32 × St) :=
  if (σ.1 this 6 : Int32) = 40 then
    bnd (f_X12_isFull N ρ this σ) fun r14 σ15 =>
    if (r14 : Int32) = 0 then
      if (σ15.1 this 25 : Int32) ≤ 6 then
        f_X12_unit_83 N ρ this rec2 x1 σ15
      else
        f_X12_unit_78 N ρ this rec2 x1 σ15
    else
      f_X12_unit_78 N ρ this rec2 x1 σ15
  else
    rec2 0 σ
def f_X12_unit_172 (N : Nat) (ρ : Nat → Nat → Nat) (this : Nat) (s0 : Int32) (s1 : Int32) (σ : St) : Option (Int32 × St) :=
  bnd (f_X12_add N ρ this s1 s0 σ) fun _ σ20 =>
  bnd (f_X12_token N ρ this σ20) fun _ σ23 =>
  some (0, σ23)
def f_X12_unit_160 (N : Nat) (ρ : Nat → Nat → Nat) (this : Nat) (x2 : Int32) (s0 : Int32) (σ : St) : Option (Int32 × St) :=
  if 0 ≤ (x2 : Int32) then
    f_X12_unit_172 N ρ this x2 s0 σ
  else
    f_X12_unit_172 N ρ this (σ.1 this 8) s0 σ
def f_X12_unit_138 (N : Nat) (ρ : Nat → Nat → Nat) (this : Nat) (x2 : Int32) (σ : St) : Option (Int32 × St) :=
  if (σ.1 this 2 : Int32) ≤ 0 then
    bnd (f_X12_countUnit N ρ this σ) fun _ σ28 =>
    if 0 ≤ (x2 : Int32) then
      f_X12_unit_160 N ρ this x2 1 σ28
    else
      f_X12_unit_160 N ρ this x2 0 σ28
  else
    some (0, σ)
def f_X12_unit_133 (N : Nat) (ρ : Nat → Nat → Nat) (this : Nat) (x2 : Int32) (σ : St) : Option (Int32 × St) :=
  bnd (f_X12_wrong N ρ this 2 σ) fun _ σ32 =>
  f_X12_unit_138 N ρ this x2 σ32
def f_X12_unit_126 (N : Nat) (ρ : Nat → Nat → Nat) (this : Nat) (x2 : Int32) (σ : St) : Option (Int32 × St) :=
  bnd (f_X12_isFull N ρ this σ) fun r34 σ35 =>
  if (r34 : Int32) = 0 then
    f_X12_unit_138 N ρ this x2 σ35
  else
    f_X12_unit_133 N ρ this x2 σ35
def f_X12_unit_101 (N : Nat) (ρ : Nat → Nat → Nat) (this : Nat) (σ : St) : Option (Int32 × St) :=
  if (σ.1 this 2 : Int32) ≤ 0 then
    bnd (f_X12_asked N ρ this σ) fun r39 σ40 =>
    if (σ40.1 this 6 : Int32) = 2 then
      f_X12_unit_126 N ρ this r39 σ40
    else
      if (r39 : Int32) < 0 then
        f_X12_unit_133 N ρ this r39 σ40
      else
        f_X12_unit_126 N ρ this r39 σ40
  else
    some (0, σ)
def b_X12_unit_2 (N : Nat) (ρ : Nat → Nat → Nat) (this : Nat) (rec2 : Int32 → St → Option (Int32 × St)) (x1 : Int32) (σ : St) : Option (Int32 × St) :=
  if (x1 : Int32) = 0 then
    f_X12_unit_101 N ρ this σ
  else
    if (σ.1 this 2 : Int32) = 0 then
      bnd (f_X12_isWord N ρ this (7237492) σ) fun r46 σ47 =>
      if (r46 : Int32) = 0 then
        f_X12_unit_53 N ρ this rec2 x1 σ47
      else
        bnd (f_X12_mayNot N ρ this σ47) fun r50 σ51 =>
        if (r50 : Int32) = 0 then
          f_X12_unit_53 N ρ this rec2 x1 σ51
        else
          if (σ51.1 this 25 : Int32) ≤ 6 then
            f_X12_unit_44 N ρ this rec2 x1 σ51
          else
            bnd (f_X12_wrong N ρ this 2 σ51) fun _ σ56 =>
            f_X12_unit_44 N ρ this rec2 x1 σ56
    else
      f_X12_unit_101 N ρ this σ
def f_X12_unit_2 (N : Nat) (ρ : Nat → Nat → Nat) (this : Nat) : Nat → Int32 → St → Option (Int32 × St)
  | 0, _, _ => none
  | n + 1, x1, σ => b_X12_unit_2 N ρ this (f_X12_unit_2 N ρ this n) x1 σ
def f_X12_unit (N : Nat) (ρ : Nat → Nat → Nat) (this : Nat) (σ : St) : Option (Int32 × St) :=
  f_X12_unit_2 N ρ this N 1 σ
set_option maxRecDepth 100000 in
set_option maxHeartbeats 4000000 in
theorem w_X12_unit_44 {N : Nat} {Γ : SG} {ρ : Nat → Nat → Nat} (hs : Sh Γ ρ) {this : Nat} (h0 : Γ[this]? = some (0, 12)) {n0 : Nat} {r : Int32} {σr : St} (rec2 : Int32 → St → Option (Int32 × St)) (hrec2 : ∀ (x1 : Int32) (σ : St), rec2 x1 σ = some (r, σr) → Go mX12_unit 3 0 0 n0 (Kv Γ ρ σr) 0 0 2 [some (.ref this), some (.int x1), none] [] (hp Γ ρ σ)) (x1 : Int32) (σ : St) (hf : f_X12_unit_44 N ρ this rec2 x1 σ = some (r, σr)) : Go mX12_unit 3 0 0 n0 (Kv Γ ρ σr) 0 0 44 [some (.ref this), some (.int x1), none] [] (hp Γ ρ σ) := by
  unfold f_X12_unit_44 at hf
  refine go_aload_n 0 dX12_unit_44 rfl rfl ?_
  refine go_bipush 21 dX12_unit_45 (by decide) ?_
  obtain ⟨r1, σ2, q3, hf⟩ := bnd_some hf
  refine go_Vv (av := [.int 21]) (rest := []) (t_X12_openUp hs h0 q3) ok_X12_openUp ml_X12_301 dX12_unit_47 h0 rfl rfl (by decide) (Nat.le_refl _) (Nat.le_refl _) (Nat.le_of_ble_eq_true rfl) ?_
  refine go_goto 2 dX12_unit_50 (by decide) ?_
  exact hrec2 x1 σ2 hf
set_option maxRecDepth 100000 in
set_option maxHeartbeats 4000000 in
theorem w_X12_unit_83 {N : Nat} {Γ : SG} {ρ : Nat → Nat → Nat} (hs : Sh Γ ρ) {this : Nat} (h0 : Γ[this]? = some (0, 12)) {n0 : Nat} {r : Int32} {σr : St} (rec2 : Int32 → St → Option (Int32 × St)) (hrec2 : ∀ (x1 : Int32) (σ : St), rec2 x1 σ = some (r, σr) → Go mX12_unit 3 0 0 n0 (Kv Γ ρ σr) 0 0 2 [some (.ref this), some (.int x1), none] [] (hp Γ ρ σ)) (x1 : Int32) (σ : St) (hf : f_X12_unit_83 N ρ this rec2 x1 σ = some (r, σr)) : Go mX12_unit 3 0 0 n0 (Kv Γ ρ σr) 0 0 83 [some (.ref this), some (.int x1), none] [] (hp Γ ρ σ) := by
  unfold f_X12_unit_83 at hf
  refine go_aload_n 0 dX12_unit_83 rfl rfl ?_
  obtain ⟨r4, σ5, q6, hf⟩ := bnd_some hf
  refine go_Vv (av := []) (rest := []) (t_X12_countUnit hs h0 q6) ok_X12_countUnit ml_X12_307 dX12_unit_84 h0 rfl rfl (by decide) (Nat.le_refl _) (Nat.le_refl _) (Nat.le_of_ble_eq_true rfl) ?_
  refine go_aload_n 0 dX12_unit_87 rfl rfl ?_
  refine go_bipush 20 dX12_unit_88 (by decide) ?_
  obtain ⟨r7, σ8, q9, hf⟩ := bnd_some hf
  refine go_Vv (av := [.int 20]) (rest := []) (t_X12_openUp hs h0 q9) ok_X12_openUp ml_X12_301 dX12_unit_90 h0 rfl rfl (by decide) (Nat.le_refl _) (Nat.le_refl _) (Nat.le_of_ble_eq_true rfl) ?_
  refine go_goto 2 dX12_unit_93 (by decide) ?_
  exact hrec2 x1 σ8 hf
set_option maxRecDepth 100000 in
set_option maxHeartbeats 4000000 in
theorem w_X12_unit_78 {N : Nat} {Γ : SG} {ρ : Nat → Nat → Nat} (hs : Sh Γ ρ) {this : Nat} (h0 : Γ[this]? = some (0, 12)) {n0 : Nat} {r : Int32} {σr : St} (rec2 : Int32 → St → Option (Int32 × St)) (hrec2 : ∀ (x1 : Int32) (σ : St), rec2 x1 σ = some (r, σr) → Go mX12_unit 3 0 0 n0 (Kv Γ ρ σr) 0 0 2 [some (.ref this), some (.int x1), none] [] (hp Γ ρ σ)) (x1 : Int32) (σ : St) (hf : f_X12_unit_78 N ρ this rec2 x1 σ = some (r, σr)) : Go mX12_unit 3 0 0 n0 (Kv Γ ρ σr) 0 0 78 [some (.ref this), some (.int x1), none] [] (hp Γ ρ σ) := by
  unfold f_X12_unit_78 at hf
  refine go_aload_n 0 dX12_unit_78 rfl rfl ?_
  refine go_iconst 2 dX12_unit_79 (by decide) ?_
  obtain ⟨r10, σ11, q12, hf⟩ := bnd_some hf
  refine go_Vv (av := [.int 2]) (rest := []) (t_X12_wrong hs h0 q12) ok_X12_wrong ml_X12_255 dX12_unit_80 h0 rfl rfl (by decide) (Nat.le_refl _) (Nat.le_refl _) (Nat.le_of_ble_eq_true rfl) ?_
  exact w_X12_unit_83 hs h0 rec2 hrec2 x1 σ11 hf
set_option maxRecDepth 100000 in
set_option maxHeartbeats 4000000 in
theorem w_X12_unit_53 {N : Nat} {Γ : SG} {ρ : Nat → Nat → Nat} (hs : Sh Γ ρ) {this : Nat} (h0 : Γ[this]? = some (0, 12)) {n0 : Nat} {r : Int32} {σr : St} (rec2 : Int32 → St → Option (Int32 × St)) (hrec2 : ∀ (x1 : Int32) (σ : St), rec2 x1 σ = some (r, σr) → Go mX12_unit 3 0 0 n0 (Kv Γ ρ σr) 0 0 2 [some (.ref this), some (.int x1), none] [] (hp Γ ρ σ)) (x1 : Int32) (σ : St) (hf : f_X12_unit_53 N ρ this rec2 x1 σ = some (r, σr)) : Go mX12_unit 3 0 0 n0 (Kv Γ ρ σr) 0 0 53 [some (.ref this), some (.int x1), none] [] (hp Γ ρ σ) := by
  unfold f_X12_unit_53 at hf
  refine go_aload_n 0 dX12_unit_53 rfl rfl ?_
  refine go_fI fl_X12_193 dX12_unit_54 h0 (by decide) rfl ?_
  refine go_bipush 40 dX12_unit_57 (by decide) ?_
  refine go_icmp_ne 96 dX12_unit_59 (by decide) (fun c13 => ?_) (fun c13 => ?_)
  · replace hf := (if_neg c13).symm.trans hf
    refine go_iconst 0 dX12_unit_96 (by decide) ?_
    refine go_istore_n 1 [some (.ref this), some (.int 0), none] dX12_unit_97 rfl (by decide) rfl ?_
    refine go_goto 2 dX12_unit_98 (by decide) ?_
    exact hrec2 0 σ hf
  · replace hf := (if_pos c13).symm.trans hf
    refine go_aload_n 0 dX12_unit_62 rfl rfl ?_
    obtain ⟨r14, σ15, q16, hf⟩ := bnd_some hf
    refine go_Vi (av := []) (rest := []) (t_X12_isFull hs h0 q16) ok_X12_isFull ml_X12_304 dX12_unit_63 h0 rfl rfl (by decide) (Nat.le_refl _) (Nat.le_refl _) (Nat.le_of_ble_eq_true rfl) ?_
    refine go_if_ne 78 dX12_unit_66 (by decide) (fun c17 => ?_) (fun c17 => ?_)
    · replace hf := (if_neg c17).symm.trans hf
      exact w_X12_unit_78 hs h0 rec2 hrec2 x1 σ15 hf
    · replace hf := (if_pos c17).symm.trans hf
      refine go_aload_n 0 dX12_unit_69 rfl rfl ?_
      refine go_fI fl_X12_289 dX12_unit_70 h0 (by decide) rfl ?_
      refine go_bipush 6 dX12_unit_73 (by decide) ?_
      refine go_icmp_le 83 dX12_unit_75 (by decide) (fun c18 => ?_) (fun c18 => ?_)
      · replace hf := (if_pos c18).symm.trans hf
        exact w_X12_unit_83 hs h0 rec2 hrec2 x1 σ15 hf
      · replace hf := (if_neg c18).symm.trans hf
        exact w_X12_unit_78 hs h0 rec2 hrec2 x1 σ15 hf
set_option maxRecDepth 100000 in
set_option maxHeartbeats 4000000 in
theorem w_X12_unit_172 {N : Nat} {Γ : SG} {ρ : Nat → Nat → Nat} (hs : Sh Γ ρ) {this : Nat} (h0 : Γ[this]? = some (0, 12)) {n0 : Nat} {r : Int32} {σr : St} (s0 : Int32) (s1 : Int32) (σ : St) (hf : f_X12_unit_172 N ρ this s0 s1 σ = some (r, σr)) : Go mX12_unit 3 0 0 n0 (Kv Γ ρ σr) 0 0 172 [some (.ref this), none, none] [.int s0, .int s1, .ref this] (hp Γ ρ σ) := by
  unfold f_X12_unit_172 at hf
  obtain ⟨r19, σ20, q21, hf⟩ := bnd_some hf
  refine go_Vv (av := [.int s1, .int s0]) (rest := []) (t_X12_add hs h0 q21) ok_X12_add ml_X12_285 dX12_unit_172 h0 rfl rfl (by decide) (Nat.le_refl _) (Nat.le_refl _) (Nat.le_of_ble_eq_true rfl) ?_
  refine go_aload_n 0 dX12_unit_175 rfl rfl ?_
  obtain ⟨r22, σ23, q24, hf⟩ := bnd_some hf
  refine go_Vv (av := []) (rest := []) (t_X12_token hs h0 q24) ok_X12_token ml_X12_258 dX12_unit_176 h0 rfl rfl (by decide) (Nat.le_refl _) (Nat.le_refl _) (Nat.le_of_ble_eq_true rfl) ?_
  cases hf
  exact go_vret rfl dX12_unit_179 (Nat.le_refl _) ⟨rfl, rfl⟩
set_option maxRecDepth 100000 in
set_option maxHeartbeats 4000000 in
theorem w_X12_unit_160 {N : Nat} {Γ : SG} {ρ : Nat → Nat → Nat} (hs : Sh Γ ρ) {this : Nat} (h0 : Γ[this]? = some (0, 12)) {n0 : Nat} {r : Int32} {σr : St} (x2 : Int32) (s0 : Int32) (σ : St) (hf : f_X12_unit_160 N ρ this x2 s0 σ = some (r, σr)) : Go mX12_unit 3 0 0 n0 (Kv Γ ρ σr) 0 0 160 [some (.ref this), none, some (.int x2)] [.int s0, .ref this] (hp Γ ρ σ) := by
  unfold f_X12_unit_160 at hf
  refine go_iload_n 2 dX12_unit_160 rfl rfl ?_
  refine go_if_ge 171 dX12_unit_161 (by decide) (fun c25 => ?_) (fun c25 => ?_)
  · replace hf := (if_pos c25).symm.trans hf
    refine go_iload_n 2 dX12_unit_171 rfl rfl ?_
    refine go_msk [true, false, false] [some (.ref this), none, none] rfl ?_
    exact w_X12_unit_172 hs h0 x2 s0 σ hf
  · replace hf := (if_neg c25).symm.trans hf
    refine go_aload_n 0 dX12_unit_164 rfl rfl ?_
    refine go_fI fl_X12_190 dX12_unit_165 h0 (by decide) rfl ?_
    refine go_goto 172 dX12_unit_168 (by decide) ?_
    refine go_msk [true, false, false] [some (.ref this), none, none] rfl ?_
    exact w_X12_unit_172 hs h0 (σ.1 this 8) s0 σ hf
set_option maxRecDepth 100000 in
set_option maxHeartbeats 4000000 in
theorem w_X12_unit_138 {N : Nat} {Γ : SG} {ρ : Nat → Nat → Nat} (hs : Sh Γ ρ) {this : Nat} (h0 : Γ[this]? = some (0, 12)) {n0 : Nat} {r : Int32} {σr : St} (x2 : Int32) (σ : St) (hf : f_X12_unit_138 N ρ this x2 σ = some (r, σr)) : Go mX12_unit 3 0 0 n0 (Kv Γ ρ σr) 0 0 138 [some (.ref this), none, some (.int x2)] [] (hp Γ ρ σ) := by
  unfold f_X12_unit_138 at hf
  refine go_aload_n 0 dX12_unit_138 rfl rfl ?_
  refine go_fI fl_X12_206 dX12_unit_139 h0 (by decide) rfl ?_
  refine go_if_le 146 dX12_unit_142 (by decide) (fun c26 => ?_) (fun c26 => ?_)
  · replace hf := (if_pos c26).symm.trans hf
    refine go_aload_n 0 dX12_unit_146 rfl rfl ?_
    obtain ⟨r27, σ28, q29, hf⟩ := bnd_some hf
    refine go_Vv (av := []) (rest := []) (t_X12_countUnit hs h0 q29) ok_X12_countUnit ml_X12_307 dX12_unit_147 h0 rfl rfl (by decide) (Nat.le_refl _) (Nat.le_refl _) (Nat.le_of_ble_eq_true rfl) ?_
    refine go_aload_n 0 dX12_unit_150 rfl rfl ?_
    refine go_iload_n 2 dX12_unit_151 rfl rfl ?_
    refine go_if_ge 159 dX12_unit_152 (by decide) (fun c30 => ?_) (fun c30 => ?_)
    · replace hf := (if_pos c30).symm.trans hf
      refine go_iconst 1 dX12_unit_159 (by decide) ?_
      exact w_X12_unit_160 hs h0 x2 1 σ28 hf
    · replace hf := (if_neg c30).symm.trans hf
      refine go_iconst 0 dX12_unit_155 (by decide) ?_
      refine go_goto 160 dX12_unit_156 (by decide) ?_
      exact w_X12_unit_160 hs h0 x2 0 σ28 hf
  · replace hf := (if_neg c26).symm.trans hf
    cases hf
    exact go_vret rfl dX12_unit_145 (Nat.le_refl _) ⟨rfl, rfl⟩
set_option maxRecDepth 100000 in
set_option maxHeartbeats 4000000 in
theorem w_X12_unit_133 {N : Nat} {Γ : SG} {ρ : Nat → Nat → Nat} (hs : Sh Γ ρ) {this : Nat} (h0 : Γ[this]? = some (0, 12)) {n0 : Nat} {r : Int32} {σr : St} (x2 : Int32) (σ : St) (hf : f_X12_unit_133 N ρ this x2 σ = some (r, σr)) : Go mX12_unit 3 0 0 n0 (Kv Γ ρ σr) 0 0 133 [some (.ref this), none, some (.int x2)] [] (hp Γ ρ σ) := by
  unfold f_X12_unit_133 at hf
  refine go_aload_n 0 dX12_unit_133 rfl rfl ?_
  refine go_iconst 2 dX12_unit_134 (by decide) ?_
  obtain ⟨r31, σ32, q33, hf⟩ := bnd_some hf
  refine go_Vv (av := [.int 2]) (rest := []) (t_X12_wrong hs h0 q33) ok_X12_wrong ml_X12_255 dX12_unit_135 h0 rfl rfl (by decide) (Nat.le_refl _) (Nat.le_refl _) (Nat.le_of_ble_eq_true rfl) ?_
  exact w_X12_unit_138 hs h0 x2 σ32 hf
set_option maxRecDepth 100000 in
set_option maxHeartbeats 4000000 in
theorem w_X12_unit_126 {N : Nat} {Γ : SG} {ρ : Nat → Nat → Nat} (hs : Sh Γ ρ) {this : Nat} (h0 : Γ[this]? = some (0, 12)) {n0 : Nat} {r : Int32} {σr : St} (x2 : Int32) (σ : St) (hf : f_X12_unit_126 N ρ this x2 σ = some (r, σr)) : Go mX12_unit 3 0 0 n0 (Kv Γ ρ σr) 0 0 126 [some (.ref this), none, some (.int x2)] [] (hp Γ ρ σ) := by
  unfold f_X12_unit_126 at hf
  refine go_aload_n 0 dX12_unit_126 rfl rfl ?_
  obtain ⟨r34, σ35, q36, hf⟩ := bnd_some hf
  refine go_Vi (av := []) (rest := []) (t_X12_isFull hs h0 q36) ok_X12_isFull ml_X12_304 dX12_unit_127 h0 rfl rfl (by decide) (Nat.le_refl _) (Nat.le_refl _) (Nat.le_of_ble_eq_true rfl) ?_
  refine go_if_eq 138 dX12_unit_130 (by decide) (fun c37 => ?_) (fun c37 => ?_)
  · replace hf := (if_pos c37).symm.trans hf
    exact w_X12_unit_138 hs h0 x2 σ35 hf
  · replace hf := (if_neg c37).symm.trans hf
    exact w_X12_unit_133 hs h0 x2 σ35 hf
set_option maxRecDepth 100000 in
set_option maxHeartbeats 4000000 in
theorem w_X12_unit_101 {N : Nat} {Γ : SG} {ρ : Nat → Nat → Nat} (hs : Sh Γ ρ) {this : Nat} (h0 : Γ[this]? = some (0, 12)) {n0 : Nat} {r : Int32} {σr : St} (σ : St) (hf : f_X12_unit_101 N ρ this σ = some (r, σr)) : Go mX12_unit 3 0 0 n0 (Kv Γ ρ σr) 0 0 101 [some (.ref this), none, none] [] (hp Γ ρ σ) := by
  unfold f_X12_unit_101 at hf
  refine go_aload_n 0 dX12_unit_101 rfl rfl ?_
  refine go_fI fl_X12_206 dX12_unit_102 h0 (by decide) rfl ?_
  refine go_if_le 109 dX12_unit_105 (by decide) (fun c38 => ?_) (fun c38 => ?_)
  · replace hf := (if_pos c38).symm.trans hf
    refine go_aload_n 0 dX12_unit_109 rfl rfl ?_
    obtain ⟨r39, σ40, q41, hf⟩ := bnd_some hf
    refine go_Vi (av := []) (rest := []) (t_X12_asked hs h0 q41) ok_X12_asked ml_X12_310 dX12_unit_110 h0 rfl rfl (by decide) (Nat.le_refl _) (Nat.le_refl _) (Nat.le_of_ble_eq_true rfl) ?_
    refine go_istore_n 2 [some (.ref this), none, some (.int r39)] dX12_unit_113 rfl (by decide) rfl ?_
    refine go_aload_n 0 dX12_unit_114 rfl rfl ?_
    refine go_fI fl_X12_193 dX12_unit_115 h0 (by decide) rfl ?_
    refine go_iconst 2 dX12_unit_118 (by decide) ?_
    refine go_icmp_eq 126 dX12_unit_119 (by decide) (fun c42 => ?_) (fun c42 => ?_)
    · replace hf := (if_pos c42).symm.trans hf
      exact w_X12_unit_126 hs h0 r39 σ40 hf
    · replace hf := (if_neg c42).symm.trans hf
      refine go_iload_n 2 dX12_unit_122 rfl rfl ?_
      refine go_if_lt 133 dX12_unit_123 (by decide) (fun c43 => ?_) (fun c43 => ?_)
      · replace hf := (if_pos c43).symm.trans hf
        exact w_X12_unit_133 hs h0 r39 σ40 hf
      · replace hf := (if_neg c43).symm.trans hf
        exact w_X12_unit_126 hs h0 r39 σ40 hf
  · replace hf := (if_neg c38).symm.trans hf
    cases hf
    exact go_vret rfl dX12_unit_108 (Nat.le_refl _) ⟨rfl, rfl⟩
set_option maxRecDepth 100000 in
set_option maxHeartbeats 4000000 in
theorem v_X12_unit_2 {N : Nat} {Γ : SG} {ρ : Nat → Nat → Nat} (hs : Sh Γ ρ) {this : Nat} (h0 : Γ[this]? = some (0, 12)) {n0 : Nat} {r : Int32} {σr : St} (rec2 : Int32 → St → Option (Int32 × St)) (hrec2 : ∀ (x1 : Int32) (σ : St), rec2 x1 σ = some (r, σr) → Go mX12_unit 3 0 0 n0 (Kv Γ ρ σr) 0 0 2 [some (.ref this), some (.int x1), none] [] (hp Γ ρ σ)) (x1 : Int32) (σ : St) (hf : b_X12_unit_2 N ρ this rec2 x1 σ = some (r, σr)) : Go mX12_unit 3 0 0 n0 (Kv Γ ρ σr) 0 0 2 [some (.ref this), some (.int x1), none] [] (hp Γ ρ σ) := by
  unfold b_X12_unit_2 at hf
  refine go_iload_n 1 dX12_unit_2 rfl rfl ?_
  refine go_if_eq 101 dX12_unit_3 (by decide) (fun c44 => ?_) (fun c44 => ?_)
  · replace hf := (if_pos c44).symm.trans hf
    refine go_msk [true, false, false] [some (.ref this), none, none] rfl ?_
    exact w_X12_unit_101 hs h0 σ hf
  · replace hf := (if_neg c44).symm.trans hf
    refine go_aload_n 0 dX12_unit_6 rfl rfl ?_
    refine go_fI fl_X12_206 dX12_unit_7 h0 (by decide) rfl ?_
    refine go_if_ne 101 dX12_unit_10 (by decide) (fun c45 => ?_) (fun c45 => ?_)
    · replace hf := (if_neg c45).symm.trans hf
      refine go_msk [true, false, false] [some (.ref this), none, none] rfl ?_
      exact w_X12_unit_101 hs h0 σ hf
    · replace hf := (if_pos c45).symm.trans hf
      refine go_aload_n 0 dX12_unit_13 rfl rfl ?_
      refine go_ldc2 (7237492) dX12_unit_14 cn_X12_245 ?_
      obtain ⟨r46, σ47, q48, hf⟩ := bnd_some hf
      refine go_Vi (av := [.long (7237492)]) (rest := []) (t_X12_isWord hs h0 q48) ok_X12_isWord ml_X12_251 dX12_unit_17 h0 rfl rfl (by decide) (Nat.le_refl _) (Nat.le_refl _) (Nat.le_of_ble_eq_true rfl) ?_
      refine go_if_eq 53 dX12_unit_20 (by decide) (fun c49 => ?_) (fun c49 => ?_)
      · replace hf := (if_pos c49).symm.trans hf
        exact w_X12_unit_53 hs h0 rec2 hrec2 x1 σ47 hf
      · replace hf := (if_neg c49).symm.trans hf
        refine go_aload_n 0 dX12_unit_23 rfl rfl ?_
        obtain ⟨r50, σ51, q52, hf⟩ := bnd_some hf
        refine go_Vi (av := []) (rest := []) (t_X12_mayNot hs h0 q52) ok_X12_mayNot ml_X12_298 dX12_unit_24 h0 rfl rfl (by decide) (Nat.le_refl _) (Nat.le_refl _) (Nat.le_of_ble_eq_true rfl) ?_
        refine go_if_eq 53 dX12_unit_27 (by decide) (fun c53 => ?_) (fun c53 => ?_)
        · replace hf := (if_pos c53).symm.trans hf
          exact w_X12_unit_53 hs h0 rec2 hrec2 x1 σ51 hf
        · replace hf := (if_neg c53).symm.trans hf
          refine go_aload_n 0 dX12_unit_30 rfl rfl ?_
          refine go_fI fl_X12_289 dX12_unit_31 h0 (by decide) rfl ?_
          refine go_bipush 6 dX12_unit_34 (by decide) ?_
          refine go_icmp_le 44 dX12_unit_36 (by decide) (fun c54 => ?_) (fun c54 => ?_)
          · replace hf := (if_pos c54).symm.trans hf
            exact w_X12_unit_44 hs h0 rec2 hrec2 x1 σ51 hf
          · replace hf := (if_neg c54).symm.trans hf
            refine go_aload_n 0 dX12_unit_39 rfl rfl ?_
            refine go_iconst 2 dX12_unit_40 (by decide) ?_
            obtain ⟨r55, σ56, q57, hf⟩ := bnd_some hf
            refine go_Vv (av := [.int 2]) (rest := []) (t_X12_wrong hs h0 q57) ok_X12_wrong ml_X12_255 dX12_unit_41 h0 rfl rfl (by decide) (Nat.le_refl _) (Nat.le_refl _) (Nat.le_of_ble_eq_true rfl) ?_
            exact w_X12_unit_44 hs h0 rec2 hrec2 x1 σ56 hf
theorem w_X12_unit_2 {N : Nat} {Γ : SG} {ρ : Nat → Nat → Nat} (hs : Sh Γ ρ) {this : Nat} (h0 : Γ[this]? = some (0, 12)) {n0 : Nat} {r : Int32} {σr : St} : ∀ (n : Nat) (x1 : Int32) (σ : St), f_X12_unit_2 N ρ this n x1 σ = some (r, σr) → Go mX12_unit 3 0 0 n0 (Kv Γ ρ σr) 0 0 2 [some (.ref this), some (.int x1), none] [] (hp Γ ρ σ) := by
  intro n
  induction n with
  | zero => intro x1 σ hf; cases hf
  | succ n ih => intro x1 σ hf; exact v_X12_unit_2 hs h0 _ ih x1 σ hf
set_option maxRecDepth 100000 in
set_option maxHeartbeats 4000000 in
theorem t_X12_unit {N : Nat} {Γ : SG} {ρ : Nat → Nat → Nat} (hs : Sh Γ ρ) {this : Nat} (h0 : Γ[this]? = some (0, 12)) {σ : St} {r : Int32} {σr : St} (hf : f_X12_unit N ρ this σ = some (r, σr)) : Tri mX12_unit 3 0 0 [.ref this] (hp Γ ρ σ) (Kv Γ ρ σr) := by
  unfold f_X12_unit at hf
  refine tri_of [some (.ref this), none, none] (plainFor_of_name rfl) rfl (Nat.le_of_ble_eq_true rfl) ?_
  refine go_iconst 1 dX12_unit_0 (by decide) ?_
  refine go_istore_n 1 [some (.ref this), some (.int 1), none] dX12_unit_1 rfl (by decide) rfl ?_
  exact w_X12_unit_2 hs h0 N 1 σ hf
def f_X12_sign_106 (N : Nat) (ρ : Nat → Nat → Nat) (this : Nat) (s0 : Int32) (σ : St) : Option (Int32 × St) :=
  some (s0, σ)
def f_X12_sign_98 (N : Nat) (ρ : Nat → Nat → Nat) (this : Nat) (σ : St) : Option (Int32 × St) :=
  f_X12_sign_106 N ρ this (σ.1 this 6) σ
def f_X12_sign (N : Nat) (ρ : Nat → Nat → Nat) (this : Nat) (σ : St) : Option (Int32 × St) :=
  bnd (f_X12_isWord N ρ this (6385252) σ) fun r1 σ2 =>
  if (r1 : Int32) = 0 then
    bnd (f_X12_isWord N ρ this (28530) σ2) fun r5 σ6 =>
    if (r5 : Int32) = 0 then
      if (σ6.1 this 6 : Int32) = 60 then
        f_X12_sign_98 N ρ this σ6
      else
        if (σ6.1 this 6 : Int32) = 62 then
          f_X12_sign_98 N ρ this σ6
        else
          if (σ6.1 this 6 : Int32) = 61 then
            f_X12_sign_98 N ρ this σ6
          else
            if (σ6.1 this 6 : Int32) = 43 then
              f_X12_sign_98 N ρ this σ6
            else
              if (σ6.1 this 6 : Int32) = 45 then
                f_X12_sign_98 N ρ this σ6
              else
                if (σ6.1 this 6 : Int32) = 42 then
                  f_X12_sign_98 N ρ this σ6
                else
                  if (σ6.1 this 6 : Int32) = 47 then
                    f_X12_sign_98 N ρ this σ6
                  else
                    if (σ6.1 this 6 : Int32) = 37 then
                      f_X12_sign_98 N ρ this σ6
                    else
                      f_X12_sign_106 N ρ this 0 σ6
    else
      some (124, σ6)
  else
    some (38, σ2)
set_option maxRecDepth 100000 in
set_option maxHeartbeats 4000000 in
theorem w_X12_sign_106 {N : Nat} {Γ : SG} {ρ : Nat → Nat → Nat} (hs : Sh Γ ρ) {this : Nat} (h0 : Γ[this]? = some (0, 12)) {n0 : Nat} {r : Int32} {σr : St} (s0 : Int32) (σ : St) (hf : f_X12_sign_106 N ρ this s0 σ = some (r, σr)) : Go mX12_sign 1 0 0 n0 (Ki Γ ρ r σr) 0 0 106 [none] [.int s0] (hp Γ ρ σ) := by
  unfold f_X12_sign_106 at hf
  cases hf
  exact go_iret rfl dX12_sign_106 (Nat.le_refl _) ⟨rfl, rfl⟩
set_option maxRecDepth 100000 in
set_option maxHeartbeats 4000000 in
theorem w_X12_sign_98 {N : Nat} {Γ : SG} {ρ : Nat → Nat → Nat} (hs : Sh Γ ρ) {this : Nat} (h0 : Γ[this]? = some (0, 12)) {n0 : Nat} {r : Int32} {σr : St} (σ : St) (hf : f_X12_sign_98 N ρ this σ = some (r, σr)) : Go mX12_sign 1 0 0 n0 (Ki Γ ρ r σr) 0 0 98 [some (.ref this)] [] (hp Γ ρ σ) := by
  unfold f_X12_sign_98 at hf
  refine go_aload_n 0 dX12_sign_98 rfl rfl ?_
  refine go_fI fl_X12_193 dX12_sign_99 h0 (by decide) rfl ?_
  refine go_goto 106 dX12_sign_102 (by decide) ?_
  refine go_msk [false] [none] rfl ?_
  exact w_X12_sign_106 hs h0 (σ.1 this 6) σ hf
set_option maxRecDepth 100000 in
set_option maxHeartbeats 4000000 in
theorem t_X12_sign {N : Nat} {Γ : SG} {ρ : Nat → Nat → Nat} (hs : Sh Γ ρ) {this : Nat} (h0 : Γ[this]? = some (0, 12)) {σ : St} {r : Int32} {σr : St} (hf : f_X12_sign N ρ this σ = some (r, σr)) : Tri mX12_sign 1 0 0 [.ref this] (hp Γ ρ σ) (Ki Γ ρ r σr) := by
  unfold f_X12_sign at hf
  refine tri_of [some (.ref this)] (plainFor_of_name rfl) rfl (Nat.le_of_ble_eq_true rfl) ?_
  refine go_aload_n 0 dX12_sign_0 rfl rfl ?_
  refine go_ldc2 (6385252) dX12_sign_1 cn_X12_241 ?_
  obtain ⟨r1, σ2, q3, hf⟩ := bnd_some hf
  refine go_Vi (av := [.long (6385252)]) (rest := []) (t_X12_isWord hs h0 q3) ok_X12_isWord ml_X12_251 dX12_sign_4 h0 rfl rfl (by decide) (Nat.le_refl _) (Nat.le_refl _) (Nat.le_of_ble_eq_true rfl) ?_
  refine go_if_eq 13 dX12_sign_7 (by decide) (fun c4 => ?_) (fun c4 => ?_)
  · replace hf := (if_pos c4).symm.trans hf
    refine go_aload_n 0 dX12_sign_13 rfl rfl ?_
    refine go_ldc2 (28530) dX12_sign_14 cn_X12_243 ?_
    obtain ⟨r5, σ6, q7, hf⟩ := bnd_some hf
    refine go_Vi (av := [.long (28530)]) (rest := []) (t_X12_isWord hs h0 q7) ok_X12_isWord ml_X12_251 dX12_sign_17 h0 rfl rfl (by decide) (Nat.le_refl _) (Nat.le_refl _) (Nat.le_of_ble_eq_true rfl) ?_
    refine go_if_eq 26 dX12_sign_20 (by decide) (fun c8 => ?_) (fun c8 => ?_)
    · replace hf := (if_pos c8).symm.trans hf
      refine go_aload_n 0 dX12_sign_26 rfl rfl ?_
      refine go_fI fl_X12_193 dX12_sign_27 h0 (by decide) rfl ?_
      refine go_bipush 60 dX12_sign_30 (by decide) ?_
      refine go_icmp_eq 98 dX12_sign_32 (by decide) (fun c9 => ?_) (fun c9 => ?_)
      · replace hf := (if_pos c9).symm.trans hf
        exact w_X12_sign_98 hs h0 σ6 hf
      · replace hf := (if_neg c9).symm.trans hf
        refine go_aload_n 0 dX12_sign_35 rfl rfl ?_
        refine go_fI fl_X12_193 dX12_sign_36 h0 (by decide) rfl ?_
        refine go_bipush 62 dX12_sign_39 (by decide) ?_
        refine go_icmp_eq 98 dX12_sign_41 (by decide) (fun c10 => ?_) (fun c10 => ?_)
        · replace hf := (if_pos c10).symm.trans hf
          exact w_X12_sign_98 hs h0 σ6 hf
        · replace hf := (if_neg c10).symm.trans hf
          refine go_aload_n 0 dX12_sign_44 rfl rfl ?_
          refine go_fI fl_X12_193 dX12_sign_45 h0 (by decide) rfl ?_
          refine go_bipush 61 dX12_sign_48 (by decide) ?_
          refine go_icmp_eq 98 dX12_sign_50 (by decide) (fun c11 => ?_) (fun c11 => ?_)
          · replace hf := (if_pos c11).symm.trans hf
            exact w_X12_sign_98 hs h0 σ6 hf
          · replace hf := (if_neg c11).symm.trans hf
            refine go_aload_n 0 dX12_sign_53 rfl rfl ?_
            refine go_fI fl_X12_193 dX12_sign_54 h0 (by decide) rfl ?_
            refine go_bipush 43 dX12_sign_57 (by decide) ?_
            refine go_icmp_eq 98 dX12_sign_59 (by decide) (fun c12 => ?_) (fun c12 => ?_)
            · replace hf := (if_pos c12).symm.trans hf
              exact w_X12_sign_98 hs h0 σ6 hf
            · replace hf := (if_neg c12).symm.trans hf
              refine go_aload_n 0 dX12_sign_62 rfl rfl ?_
              refine go_fI fl_X12_193 dX12_sign_63 h0 (by decide) rfl ?_
              refine go_bipush 45 dX12_sign_66 (by decide) ?_
              refine go_icmp_eq 98 dX12_sign_68 (by decide) (fun c13 => ?_) (fun c13 => ?_)
              · replace hf := (if_pos c13).symm.trans hf
                exact w_X12_sign_98 hs h0 σ6 hf
              · replace hf := (if_neg c13).symm.trans hf
                refine go_aload_n 0 dX12_sign_71 rfl rfl ?_
                refine go_fI fl_X12_193 dX12_sign_72 h0 (by decide) rfl ?_
                refine go_bipush 42 dX12_sign_75 (by decide) ?_
                refine go_icmp_eq 98 dX12_sign_77 (by decide) (fun c14 => ?_) (fun c14 => ?_)
                · replace hf := (if_pos c14).symm.trans hf
                  exact w_X12_sign_98 hs h0 σ6 hf
                · replace hf := (if_neg c14).symm.trans hf
                  refine go_aload_n 0 dX12_sign_80 rfl rfl ?_
                  refine go_fI fl_X12_193 dX12_sign_81 h0 (by decide) rfl ?_
                  refine go_bipush 47 dX12_sign_84 (by decide) ?_
                  refine go_icmp_eq 98 dX12_sign_86 (by decide) (fun c15 => ?_) (fun c15 => ?_)
                  · replace hf := (if_pos c15).symm.trans hf
                    exact w_X12_sign_98 hs h0 σ6 hf
                  · replace hf := (if_neg c15).symm.trans hf
                    refine go_aload_n 0 dX12_sign_89 rfl rfl ?_
                    refine go_fI fl_X12_193 dX12_sign_90 h0 (by decide) rfl ?_
                    refine go_bipush 37 dX12_sign_93 (by decide) ?_
                    refine go_icmp_ne 105 dX12_sign_95 (by decide) (fun c16 => ?_) (fun c16 => ?_)
                    · replace hf := (if_neg c16).symm.trans hf
                      refine go_iconst 0 dX12_sign_105 (by decide) ?_
                      refine go_msk [false] [none] rfl ?_
                      exact w_X12_sign_106 hs h0 0 σ6 hf
                    · replace hf := (if_pos c16).symm.trans hf
                      exact w_X12_sign_98 hs h0 σ6 hf
    · replace hf := (if_neg c8).symm.trans hf
      refine go_bipush 124 dX12_sign_23 (by decide) ?_
      cases hf
      exact go_iret rfl dX12_sign_25 (Nat.le_refl _) ⟨rfl, rfl⟩
  · replace hf := (if_neg c4).symm.trans hf
    refine go_bipush 38 dX12_sign_10 (by decide) ?_
    cases hf
    exact go_iret rfl dX12_sign_12 (Nat.le_refl _) ⟨rfl, rfl⟩
def f_X12_hasBracket_32 (N : Nat) (ρ : Nat → Nat → Nat) (this : Nat) (rec4 : Int32 → Int32 → St → Option (Int32 × St)) (x2 : Int32) (s0 : Int32) (σ : St) : Option (Int32 × St) :=
  rec4 s0 (x2 + 1) σ
def f_X12_hasBracket_27 (N : Nat) (ρ : Nat → Nat → Nat) (this : Nat) (rec4 : Int32 → Int32 → St → Option (Int32 × St)) (x2 : Int32) (σ : St) : Option (Int32 × St) :=
  f_X12_hasBracket_32 N ρ this rec4 x2 1 σ
def b_X12_hasBracket_4 (N : Nat) (ρ : Nat → Nat → Nat) (this : Nat) (rec4 : Int32 → Int32 → St → Option (Int32 × St)) (x1 : Int32) (x2 : Int32) (σ : St) : Option (Int32 × St) :=
  if (σ.1 this 21) ≤ (x2 : Int32) then
    gd (bb x1) <|
    some (x1, σ)
  else
    if (x1 : Int32) = 0 then
      gd (ib x2 160) <|
      if (σ.1 (ρ this 17) x2.toNatClampNeg : Int32) = 20 then
        f_X12_hasBracket_27 N ρ this rec4 x2 σ
      else
        f_X12_hasBracket_32 N ρ this rec4 x2 0 σ
    else
      f_X12_hasBracket_27 N ρ this rec4 x2 σ
def f_X12_hasBracket_4 (N : Nat) (ρ : Nat → Nat → Nat) (this : Nat) : Nat → Int32 → Int32 → St → Option (Int32 × St)
  | 0, _, _, _ => none
  | n + 1, x1, x2, σ => b_X12_hasBracket_4 N ρ this (f_X12_hasBracket_4 N ρ this n) x1 x2 σ
def f_X12_hasBracket (N : Nat) (ρ : Nat → Nat → Nat) (this : Nat) (σ : St) : Option (Int32 × St) :=
  f_X12_hasBracket_4 N ρ this N 0 0 σ
set_option maxRecDepth 100000 in
set_option maxHeartbeats 4000000 in
theorem w_X12_hasBracket_32 {N : Nat} {Γ : SG} {ρ : Nat → Nat → Nat} (hs : Sh Γ ρ) {this : Nat} (h0 : Γ[this]? = some (0, 12)) {n0 : Nat} {r : Int32} {σr : St} (rec4 : Int32 → Int32 → St → Option (Int32 × St)) (hrec4 : ∀ (x1 : Int32) (x2 : Int32) (σ : St), rec4 x1 x2 σ = some (r, σr) → Go mX12_hasBracket 0 0 0 n0 (Ki Γ ρ r σr) 0 0 4 [some (.ref this), some (.int x1), some (.int x2)] [] (hp Γ ρ σ)) (x2 : Int32) (s0 : Int32) (σ : St) (hf : f_X12_hasBracket_32 N ρ this rec4 x2 s0 σ = some (r, σr)) : Go mX12_hasBracket 0 0 0 n0 (Ki Γ ρ r σr) 0 0 32 [some (.ref this), none, some (.int x2)] [.int s0] (hp Γ ρ σ) := by
  unfold f_X12_hasBracket_32 at hf
  refine go_istore_n 1 [some (.ref this), some (.int s0), some (.int x2)] dX12_hasBracket_32 rfl (by decide) rfl ?_
  refine go_iinc (x2 + 1) [some (.ref this), some (.int s0), some (.int (x2 + 1))] dX12_hasBracket_33 rfl rfl (by decide) rfl ?_
  refine go_goto 4 dX12_hasBracket_36 (by decide) ?_
  exact hrec4 s0 (x2 + 1) σ hf
set_option maxRecDepth 100000 in
set_option maxHeartbeats 4000000 in
theorem w_X12_hasBracket_27 {N : Nat} {Γ : SG} {ρ : Nat → Nat → Nat} (hs : Sh Γ ρ) {this : Nat} (h0 : Γ[this]? = some (0, 12)) {n0 : Nat} {r : Int32} {σr : St} (rec4 : Int32 → Int32 → St → Option (Int32 × St)) (hrec4 : ∀ (x1 : Int32) (x2 : Int32) (σ : St), rec4 x1 x2 σ = some (r, σr) → Go mX12_hasBracket 0 0 0 n0 (Ki Γ ρ r σr) 0 0 4 [some (.ref this), some (.int x1), some (.int x2)] [] (hp Γ ρ σ)) (x2 : Int32) (σ : St) (hf : f_X12_hasBracket_27 N ρ this rec4 x2 σ = some (r, σr)) : Go mX12_hasBracket 0 0 0 n0 (Ki Γ ρ r σr) 0 0 27 [some (.ref this), none, some (.int x2)] [] (hp Γ ρ σ) := by
  unfold f_X12_hasBracket_27 at hf
  refine go_iconst 1 dX12_hasBracket_27 (by decide) ?_
  refine go_goto 32 dX12_hasBracket_28 (by decide) ?_
  exact w_X12_hasBracket_32 hs h0 rec4 hrec4 x2 1 σ hf
set_option maxRecDepth 100000 in
set_option maxHeartbeats 4000000 in
theorem v_X12_hasBracket_4 {N : Nat} {Γ : SG} {ρ : Nat → Nat → Nat} (hs : Sh Γ ρ) {this : Nat} (h0 : Γ[this]? = some (0, 12)) {n0 : Nat} {r : Int32} {σr : St} (rec4 : Int32 → Int32 → St → Option (Int32 × St)) (hrec4 : ∀ (x1 : Int32) (x2 : Int32) (σ : St), rec4 x1 x2 σ = some (r, σr) → Go mX12_hasBracket 0 0 0 n0 (Ki Γ ρ r σr) 0 0 4 [some (.ref this), some (.int x1), some (.int x2)] [] (hp Γ ρ σ)) (x1 : Int32) (x2 : Int32) (σ : St) (hf : b_X12_hasBracket_4 N ρ this rec4 x1 x2 σ = some (r, σr)) : Go mX12_hasBracket 0 0 0 n0 (Ki Γ ρ r σr) 0 0 4 [some (.ref this), some (.int x1), some (.int x2)] [] (hp Γ ρ σ) := by
  unfold b_X12_hasBracket_4 at hf
  refine go_iload_n 2 dX12_hasBracket_4 rfl rfl ?_
  refine go_aload_n 0 dX12_hasBracket_5 rfl rfl ?_
  refine go_fI fl_X12_279 dX12_hasBracket_6 h0 (by decide) rfl ?_
  refine go_icmp_ge 39 dX12_hasBracket_9 (by decide) (fun c1 => ?_) (fun c1 => ?_)
  · replace hf := (if_pos c1).symm.trans hf
    refine go_iload_n 1 dX12_hasBracket_39 rfl rfl ?_
    obtain ⟨g2, hf⟩ := gd_some hf
    cases hf
    exact go_zret rfl (bb_of g2) dX12_hasBracket_40 (Nat.le_refl _) ⟨rfl, rfl⟩
  · replace hf := (if_neg c1).symm.trans hf
    refine go_iload_n 1 dX12_hasBracket_12 rfl rfl ?_
    refine go_if_ne 27 dX12_hasBracket_13 (by decide) (fun c3 => ?_) (fun c3 => ?_)
    · replace hf := (if_neg c3).symm.trans hf
      refine go_msk [true, false, true] [some (.ref this), none, some (.int x2)] rfl ?_
      exact w_X12_hasBracket_27 hs h0 rec4 hrec4 x2 σ hf
    · replace hf := (if_pos c3).symm.trans hf
      refine go_aload_n 0 dX12_hasBracket_16 rfl rfl ?_
      refine go_fR fl_X12_39 dX12_hasBracket_17 h0 (by decide) rfl ?_
      refine go_iload_n 2 dX12_hasBracket_20 rfl rfl ?_
      obtain ⟨g4, hf⟩ := gd_some hf
      refine go_rI dX12_hasBracket_21 (hs.1 _ 12 17 h0 rfl) (ib_in g4) ?_
      refine go_bipush 20 dX12_hasBracket_22 (by decide) ?_
      refine go_icmp_ne 31 dX12_hasBracket_24 (by decide) (fun c5 => ?_) (fun c5 => ?_)
      · replace hf := (if_neg c5).symm.trans hf
        refine go_iconst 0 dX12_hasBracket_31 (by decide) ?_
        refine go_msk [true, false, true] [some (.ref this), none, some (.int x2)] rfl ?_
        exact w_X12_hasBracket_32 hs h0 rec4 hrec4 x2 0 σ hf
      · replace hf := (if_pos c5).symm.trans hf
        refine go_msk [true, false, true] [some (.ref this), none, some (.int x2)] rfl ?_
        exact w_X12_hasBracket_27 hs h0 rec4 hrec4 x2 σ hf
theorem w_X12_hasBracket_4 {N : Nat} {Γ : SG} {ρ : Nat → Nat → Nat} (hs : Sh Γ ρ) {this : Nat} (h0 : Γ[this]? = some (0, 12)) {n0 : Nat} {r : Int32} {σr : St} : ∀ (n : Nat) (x1 : Int32) (x2 : Int32) (σ : St), f_X12_hasBracket_4 N ρ this n x1 x2 σ = some (r, σr) → Go mX12_hasBracket 0 0 0 n0 (Ki Γ ρ r σr) 0 0 4 [some (.ref this), some (.int x1), some (.int x2)] [] (hp Γ ρ σ) := by
  intro n
  induction n with
  | zero => intro x1 x2 σ hf; cases hf
  | succ n ih => intro x1 x2 σ hf; exact v_X12_hasBracket_4 hs h0 _ ih x1 x2 σ hf
set_option maxRecDepth 100000 in
set_option maxHeartbeats 4000000 in
theorem t_X12_hasBracket {N : Nat} {Γ : SG} {ρ : Nat → Nat → Nat} (hs : Sh Γ ρ) {this : Nat} (h0 : Γ[this]? = some (0, 12)) {σ : St} {r : Int32} {σr : St} (hf : f_X12_hasBracket N ρ this σ = some (r, σr)) : Tri mX12_hasBracket 0 0 0 [.ref this] (hp Γ ρ σ) (Ki Γ ρ r σr) := by
  unfold f_X12_hasBracket at hf
  refine tri_of [some (.ref this), none, none] (plainFor_of_name rfl) rfl (Nat.le_of_ble_eq_true rfl) ?_
  refine go_iconst 0 dX12_hasBracket_0 (by decide) ?_
  refine go_istore_n 1 [some (.ref this), some (.int 0), none] dX12_hasBracket_1 rfl (by decide) rfl ?_
  refine go_iconst 0 dX12_hasBracket_2 (by decide) ?_
  refine go_istore_n 2 [some (.ref this), some (.int 0), some (.int 0)] dX12_hasBracket_3 rfl (by decide) rfl ?_
  exact w_X12_hasBracket_4 hs h0 N 0 0 σ hf
def f_X12_formula_174 (N : Nat) (ρ : Nat → Nat → Nat) (this : Nat) (a1 : Int32) (rec50 : Int32 → St → Option (Int32 × St)) (x2 : Int32) (σ : St) : Option (Int32 × St) :=
  rec50 x2 σ
def f_X12_formula_133 (N : Nat) (ρ : Nat → Nat → Nat) (this : Nat) (a1 : Int32) (rec50 : Int32 → St → Option (Int32 × St)) (x2 : Int32) (x3 : Int32) (σ : St) : Option (Int32 × St) :=
  bnd (f_X12_tight N ρ x3 σ) fun r1 σ2 =>
  bnd (f_X12_close N ρ this r1 σ2) fun _ σ5 =>
  gd (ib (σ5.1 this 21) 160) <|
  nmd (sI σ5 (ρ this 17) (σ5.1 this 21).toNatClampNeg x3) fun σ8 =>
  nmd (sI σ8 this 21 ((σ8.1 this 21) + 1)) fun σ9 =>
  bnd (f_X12_token N ρ this σ9) fun _ σ11 =>
  bnd (f_X12_unit N ρ this σ11) fun _ σ14 =>
  f_X12_formula_174 N ρ this a1 rec50 x2 σ14
def f_X12_formula_172 (N : Nat) (ρ : Nat → Nat → Nat) (this : Nat) (a1 : Int32) (rec50 : Int32 → St → Option (Int32 × St)) (σ : St) : Option (Int32 × St) :=
  f_X12_formula_174 N ρ this a1 rec50 0 σ
def f_X12_formula_114 (N : Nat) (ρ : Nat → Nat → Nat) (this : Nat) (a1 : Int32) (rec50 : Int32 → St → Option (Int32 × St)) (x2 : Int32) (x3 : Int32) (σ : St) : Option (Int32 × St) :=
  if (x3 : Int32) = 0 then
    f_X12_formula_172 N ρ this a1 rec50 σ
  else
    bnd (f_X12_tight N ρ x3 σ) fun r17 σ18 =>
    if (r17 : Int32) = 4 then
      bnd (f_X12_hasRelation N ρ this σ18) fun r21 σ22 =>
      if (r21 : Int32) = 0 then
        f_X12_formula_133 N ρ this a1 rec50 x2 x3 σ22
      else
        f_X12_formula_172 N ρ this a1 rec50 σ22
    else
      f_X12_formula_133 N ρ this a1 rec50 x2 x3 σ18
def f_X12_formula_208 (N : Nat) (ρ : Nat → Nat → Nat) (this : Nat) (a1 : Int32) (σ : St) : Option (Int32 × St) :=
  some (0, σ)
def f_X12_formula_196 (N : Nat) (ρ : Nat → Nat → Nat) (this : Nat) (a1 : Int32) (σ : St) : Option (Int32 × St) :=
  if (σ.1 this 2 : Int32) = 0 then
    bnd (f_X12_close N ρ this 0 σ) fun _ σ27 =>
    f_X12_formula_208 N ρ this a1 σ27
  else
    f_X12_formula_208 N ρ this a1 σ
def f_X12_formula_177 (N : Nat) (ρ : Nat → Nat → Nat) (this : Nat) (a1 : Int32) (σ : St) : Option (Int32 × St) :=
  if (σ.1 this 2 : Int32) = 0 then
    bnd (f_X12_hasBracket N ρ this σ) fun r30 σ31 =>
    if (r30 : Int32) = 0 then
      f_X12_formula_196 N ρ this a1 σ31
    else
      bnd (f_X12_wrong N ρ this 2 σ31) fun _ σ35 =>
      f_X12_formula_196 N ρ this a1 σ35
  else
    f_X12_formula_196 N ρ this a1 σ
def b_X12_formula_50 (N : Nat) (ρ : Nat → Nat → Nat) (this : Nat) (a1 : Int32) (rec50 : Int32 → St → Option (Int32 × St)) (x2 : Int32) (σ : St) : Option (Int32 × St) :=
  if (x2 : Int32) = 0 then
    f_X12_formula_177 N ρ this a1 σ
  else
    if (σ.1 this 2 : Int32) = 0 then
      bnd (f_X12_sign N ρ this σ) fun r39 σ40 =>
      if (σ40.1 this 6 : Int32) = 41 then
        bnd (f_X12_hasBracket N ρ this σ40) fun r43 σ44 =>
        if (r43 : Int32) = 0 then
          f_X12_formula_114 N ρ this a1 rec50 x2 r39 σ44
        else
          bnd (f_X12_close N ρ this 0 σ44) fun _ σ48 =>
          nmd (sI σ48 this 21 ((σ48.1 this 21) - 1)) fun σ50 =>
          nmd (sI σ50 this 25 ((σ50.1 this 25) - 1)) fun σ51 =>
          bnd (f_X12_token N ρ this σ51) fun _ σ53 =>
          f_X12_formula_174 N ρ this a1 rec50 x2 σ53
      else
        f_X12_formula_114 N ρ this a1 rec50 x2 r39 σ40
    else
      f_X12_formula_177 N ρ this a1 σ
def f_X12_formula_50 (N : Nat) (ρ : Nat → Nat → Nat) (this : Nat) (a1 : Int32) : Nat → Int32 → St → Option (Int32 × St)
  | 0, _, _ => none
  | n + 1, x2, σ => b_X12_formula_50 N ρ this a1 (f_X12_formula_50 N ρ this a1 n) x2 σ
def f_X12_formula (N : Nat) (ρ : Nat → Nat → Nat) (this : Nat) (a1 : Int32) (σ : St) : Option (Int32 × St) :=
  bnd (f_X12_token N ρ this σ) fun _ σ56 =>
  nmd (sI σ56 this 20 a1) fun σ58 =>
  gd (ib (σ58.1 this 20) 2) <|
  nmd (sI σ58 (ρ this 19) (σ58.1 this 20).toNatClampNeg (vp_nar .boolean 1)) fun σ60 =>
  gd (ib (σ60.1 this 20) 2) <|
  nmd (sI σ60 (ρ this 13) (σ60.1 this 20).toNatClampNeg 0) fun σ62 =>
  nmd (sI σ62 this 21 0) fun σ63 =>
  nmd (sI σ63 this 25 0) fun σ64 =>
  nmd (sI σ64 this 24 0) fun σ65 =>
  bnd (f_X12_unit N ρ this σ65) fun _ σ67 =>
  f_X12_formula_50 N ρ this a1 N 1 σ67
set_option maxRecDepth 100000 in
set_option maxHeartbeats 4000000 in
theorem w_X12_formula_174 {N : Nat} {Γ : SG} {ρ : Nat → Nat → Nat} (hs : Sh Γ ρ) {this : Nat} {a1 : Int32} (h0 : Γ[this]? = some (0, 12)) {n0 : Nat} {r : Int32} {σr : St} (rec50 : Int32 → St → Option (Int32 × St)) (hrec50 : ∀ (x2 : Int32) (σ : St), rec50 x2 σ = some (r, σr) → Go mX12_formula 4 0 0 n0 (Kv Γ ρ σr) 0 0 50 [some (.ref this), none, some (.int x2), none] [] (hp Γ ρ σ)) (x2 : Int32) (σ : St) (hf : f_X12_formula_174 N ρ this a1 rec50 x2 σ = some (r, σr)) : Go mX12_formula 4 0 0 n0 (Kv Γ ρ σr) 0 0 174 [some (.ref this), none, some (.int x2), none] [] (hp Γ ρ σ) := by
  unfold f_X12_formula_174 at hf
  refine go_goto 50 dX12_formula_174 (by decide) ?_
  exact hrec50 x2 σ hf
set_option maxRecDepth 100000 in
set_option maxHeartbeats 4000000 in
theorem w_X12_formula_133 {N : Nat} {Γ : SG} {ρ : Nat → Nat → Nat} (hs : Sh Γ ρ) {this : Nat} {a1 : Int32} (h0 : Γ[this]? = some (0, 12)) {n0 : Nat} {r : Int32} {σr : St} (rec50 : Int32 → St → Option (Int32 × St)) (hrec50 : ∀ (x2 : Int32) (σ : St), rec50 x2 σ = some (r, σr) → Go mX12_formula 4 0 0 n0 (Kv Γ ρ σr) 0 0 50 [some (.ref this), none, some (.int x2), none] [] (hp Γ ρ σ)) (x2 : Int32) (x3 : Int32) (σ : St) (hf : f_X12_formula_133 N ρ this a1 rec50 x2 x3 σ = some (r, σr)) : Go mX12_formula 4 0 0 n0 (Kv Γ ρ σr) 0 0 133 [some (.ref this), none, some (.int x2), some (.int x3)] [] (hp Γ ρ σ) := by
  unfold f_X12_formula_133 at hf
  refine go_aload_n 0 dX12_formula_133 rfl rfl ?_
  refine go_iload_n 3 dX12_formula_134 rfl rfl ?_
  obtain ⟨r1, σ2, q3, hf⟩ := bnd_some hf
  refine go_Si (av := [.int x3]) (rest := [.ref this]) (t_X12_tight hs  q3) ok_X12_tight ml_X12_282 dX12_formula_135 rfl rfl (by decide) (Nat.le_refl _) (Nat.le_refl _) (Nat.le_of_ble_eq_true rfl) ?_
  obtain ⟨r4, σ5, q6, hf⟩ := bnd_some hf
  refine go_Vv (av := [.int r1]) (rest := []) (t_X12_close hs h0 q6) ok_X12_close ml_X12_323 dX12_formula_138 h0 rfl rfl (by decide) (Nat.le_refl _) (Nat.le_refl _) (Nat.le_of_ble_eq_true rfl) ?_
  refine go_aload_n 0 dX12_formula_141 rfl rfl ?_
  refine go_fR fl_X12_39 dX12_formula_142 h0 (by decide) rfl ?_
  refine go_aload_n 0 dX12_formula_145 rfl rfl ?_
  refine go_fI fl_X12_279 dX12_formula_146 h0 (by decide) rfl ?_
  refine go_iload_n 3 dX12_formula_149 rfl rfl ?_
  obtain ⟨g7, hf⟩ := gd_some hf
  obtain ⟨σ8, eσ8, hf⟩ := nmd_some hf
  refine go_wI dX12_formula_150 (hs.1 _ 12 17 h0 rfl) (ib_in g7) ?_
  rw [eσ8]
  refine go_aload_n 0 dX12_formula_151 rfl rfl ?_
  refine go_dup dX12_formula_152 rfl ?_
  refine go_fI fl_X12_279 dX12_formula_153 h0 (by decide) rfl ?_
  refine go_iconst 1 dX12_formula_156 (by decide) ?_
  refine go_iadd dX12_formula_157 ?_
  obtain ⟨σ9, eσ9, hf⟩ := nmd_some hf
  refine go_pI fl_X12_279 ft_12_21 (okv_i _) dX12_formula_158 h0 (by decide) rfl ?_
  rw [eσ9]
  refine go_aload_n 0 dX12_formula_161 rfl rfl ?_
  obtain ⟨r10, σ11, q12, hf⟩ := bnd_some hf
  refine go_Vv (av := []) (rest := []) (t_X12_token hs h0 q12) ok_X12_token ml_X12_258 dX12_formula_162 h0 rfl rfl (by decide) (Nat.le_refl _) (Nat.le_refl _) (Nat.le_of_ble_eq_true rfl) ?_
  refine go_aload_n 0 dX12_formula_165 rfl rfl ?_
  obtain ⟨r13, σ14, q15, hf⟩ := bnd_some hf
  refine go_Vv (av := []) (rest := []) (t_X12_unit hs h0 q15) ok_X12_unit ml_X12_314 dX12_formula_166 h0 rfl rfl (by decide) (Nat.le_refl _) (Nat.le_refl _) (Nat.le_of_ble_eq_true rfl) ?_
  refine go_goto 174 dX12_formula_169 (by decide) ?_
  refine go_msk [true, false, true, false] [some (.ref this), none, some (.int x2), none] rfl ?_
  exact w_X12_formula_174 hs h0 rec50 hrec50 x2 σ14 hf
set_option maxRecDepth 100000 in
set_option maxHeartbeats 4000000 in
theorem w_X12_formula_172 {N : Nat} {Γ : SG} {ρ : Nat → Nat → Nat} (hs : Sh Γ ρ) {this : Nat} {a1 : Int32} (h0 : Γ[this]? = some (0, 12)) {n0 : Nat} {r : Int32} {σr : St} (rec50 : Int32 → St → Option (Int32 × St)) (hrec50 : ∀ (x2 : Int32) (σ : St), rec50 x2 σ = some (r, σr) → Go mX12_formula 4 0 0 n0 (Kv Γ ρ σr) 0 0 50 [some (.ref this), none, some (.int x2), none] [] (hp Γ ρ σ)) (σ : St) (hf : f_X12_formula_172 N ρ this a1 rec50 σ = some (r, σr)) : Go mX12_formula 4 0 0 n0 (Kv Γ ρ σr) 0 0 172 [some (.ref this), none, none, none] [] (hp Γ ρ σ) := by
  unfold f_X12_formula_172 at hf
  refine go_iconst 0 dX12_formula_172 (by decide) ?_
  refine go_istore_n 2 [some (.ref this), none, some (.int 0), none] dX12_formula_173 rfl (by decide) rfl ?_
  exact w_X12_formula_174 hs h0 rec50 hrec50 0 σ hf
set_option maxRecDepth 100000 in
set_option maxHeartbeats 4000000 in
theorem w_X12_formula_114 {N : Nat} {Γ : SG} {ρ : Nat → Nat → Nat} (hs : Sh Γ ρ) {this : Nat} {a1 : Int32} (h0 : Γ[this]? = some (0, 12)) {n0 : Nat} {r : Int32} {σr : St} (rec50 : Int32 → St → Option (Int32 × St)) (hrec50 : ∀ (x2 : Int32) (σ : St), rec50 x2 σ = some (r, σr) → Go mX12_formula 4 0 0 n0 (Kv Γ ρ σr) 0 0 50 [some (.ref this), none, some (.int x2), none] [] (hp Γ ρ σ)) (x2 : Int32) (x3 : Int32) (σ : St) (hf : f_X12_formula_114 N ρ this a1 rec50 x2 x3 σ = some (r, σr)) : Go mX12_formula 4 0 0 n0 (Kv Γ ρ σr) 0 0 114 [some (.ref this), none, some (.int x2), some (.int x3)] [] (hp Γ ρ σ) := by
  unfold f_X12_formula_114 at hf
  refine go_iload_n 3 dX12_formula_114 rfl rfl ?_
  refine go_if_eq 172 dX12_formula_115 (by decide) (fun c16 => ?_) (fun c16 => ?_)
  · replace hf := (if_pos c16).symm.trans hf
    refine go_msk [true, false, false, false] [some (.ref this), none, none, none] rfl ?_
    exact w_X12_formula_172 hs h0 rec50 hrec50 σ hf
  · replace hf := (if_neg c16).symm.trans hf
    refine go_iload_n 3 dX12_formula_118 rfl rfl ?_
    obtain ⟨r17, σ18, q19, hf⟩ := bnd_some hf
    refine go_Si (av := [.int x3]) (rest := []) (t_X12_tight hs  q19) ok_X12_tight ml_X12_282 dX12_formula_119 rfl rfl (by decide) (Nat.le_refl _) (Nat.le_refl _) (Nat.le_of_ble_eq_true rfl) ?_
    refine go_iconst 4 dX12_formula_122 (by decide) ?_
    refine go_icmp_ne 133 dX12_formula_123 (by decide) (fun c20 => ?_) (fun c20 => ?_)
    · replace hf := (if_neg c20).symm.trans hf
      exact w_X12_formula_133 hs h0 rec50 hrec50 x2 x3 σ18 hf
    · replace hf := (if_pos c20).symm.trans hf
      refine go_aload_n 0 dX12_formula_126 rfl rfl ?_
      obtain ⟨r21, σ22, q23, hf⟩ := bnd_some hf
      refine go_Vi (av := []) (rest := []) (t_X12_hasRelation hs h0 q23) ok_X12_hasRelation ml_X12_326 dX12_formula_127 h0 rfl rfl (by decide) (Nat.le_refl _) (Nat.le_refl _) (Nat.le_of_ble_eq_true rfl) ?_
      refine go_if_ne 172 dX12_formula_130 (by decide) (fun c24 => ?_) (fun c24 => ?_)
      · replace hf := (if_neg c24).symm.trans hf
        refine go_msk [true, false, false, false] [some (.ref this), none, none, none] rfl ?_
        exact w_X12_formula_172 hs h0 rec50 hrec50 σ22 hf
      · replace hf := (if_pos c24).symm.trans hf
        exact w_X12_formula_133 hs h0 rec50 hrec50 x2 x3 σ22 hf
set_option maxRecDepth 100000 in
set_option maxHeartbeats 4000000 in
theorem w_X12_formula_208 {N : Nat} {Γ : SG} {ρ : Nat → Nat → Nat} (hs : Sh Γ ρ) {this : Nat} {a1 : Int32} (h0 : Γ[this]? = some (0, 12)) {n0 : Nat} {r : Int32} {σr : St} (σ : St) (hf : f_X12_formula_208 N ρ this a1 σ = some (r, σr)) : Go mX12_formula 4 0 0 n0 (Kv Γ ρ σr) 0 0 208 [none, none, none, none] [] (hp Γ ρ σ) := by
  unfold f_X12_formula_208 at hf
  cases hf
  exact go_vret rfl dX12_formula_208 (Nat.le_refl _) ⟨rfl, rfl⟩
set_option maxRecDepth 100000 in
set_option maxHeartbeats 4000000 in
theorem w_X12_formula_196 {N : Nat} {Γ : SG} {ρ : Nat → Nat → Nat} (hs : Sh Γ ρ) {this : Nat} {a1 : Int32} (h0 : Γ[this]? = some (0, 12)) {n0 : Nat} {r : Int32} {σr : St} (σ : St) (hf : f_X12_formula_196 N ρ this a1 σ = some (r, σr)) : Go mX12_formula 4 0 0 n0 (Kv Γ ρ σr) 0 0 196 [some (.ref this), none, none, none] [] (hp Γ ρ σ) := by
  unfold f_X12_formula_196 at hf
  refine go_aload_n 0 dX12_formula_196 rfl rfl ?_
  refine go_fI fl_X12_206 dX12_formula_197 h0 (by decide) rfl ?_
  refine go_if_ne 208 dX12_formula_200 (by decide) (fun c25 => ?_) (fun c25 => ?_)
  · replace hf := (if_neg c25).symm.trans hf
    refine go_msk [false, false, false, false] [none, none, none, none] rfl ?_
    exact w_X12_formula_208 hs h0 σ hf
  · replace hf := (if_pos c25).symm.trans hf
    refine go_aload_n 0 dX12_formula_203 rfl rfl ?_
    refine go_iconst 0 dX12_formula_204 (by decide) ?_
    obtain ⟨r26, σ27, q28, hf⟩ := bnd_some hf
    refine go_Vv (av := [.int 0]) (rest := []) (t_X12_close hs h0 q28) ok_X12_close ml_X12_323 dX12_formula_205 h0 rfl rfl (by decide) (Nat.le_refl _) (Nat.le_refl _) (Nat.le_of_ble_eq_true rfl) ?_
    refine go_msk [false, false, false, false] [none, none, none, none] rfl ?_
    exact w_X12_formula_208 hs h0 σ27 hf
set_option maxRecDepth 100000 in
set_option maxHeartbeats 4000000 in
theorem w_X12_formula_177 {N : Nat} {Γ : SG} {ρ : Nat → Nat → Nat} (hs : Sh Γ ρ) {this : Nat} {a1 : Int32} (h0 : Γ[this]? = some (0, 12)) {n0 : Nat} {r : Int32} {σr : St} (σ : St) (hf : f_X12_formula_177 N ρ this a1 σ = some (r, σr)) : Go mX12_formula 4 0 0 n0 (Kv Γ ρ σr) 0 0 177 [some (.ref this), none, none, none] [] (hp Γ ρ σ) := by
  unfold f_X12_formula_177 at hf
  refine go_aload_n 0 dX12_formula_177 rfl rfl ?_
  refine go_fI fl_X12_206 dX12_formula_178 h0 (by decide) rfl ?_
  refine go_if_ne 196 dX12_formula_181 (by decide) (fun c29 => ?_) (fun c29 => ?_)
  · replace hf := (if_neg c29).symm.trans hf
    exact w_X12_formula_196 hs h0 σ hf
  · replace hf := (if_pos c29).symm.trans hf
    refine go_aload_n 0 dX12_formula_184 rfl rfl ?_
    obtain ⟨r30, σ31, q32, hf⟩ := bnd_some hf
    refine go_Vi (av := []) (rest := []) (t_X12_hasBracket hs h0 q32) ok_X12_hasBracket ml_X12_320 dX12_formula_185 h0 rfl rfl (by decide) (Nat.le_refl _) (Nat.le_refl _) (Nat.le_of_ble_eq_true rfl) ?_
    refine go_if_eq 196 dX12_formula_188 (by decide) (fun c33 => ?_) (fun c33 => ?_)
    · replace hf := (if_pos c33).symm.trans hf
      exact w_X12_formula_196 hs h0 σ31 hf
    · replace hf := (if_neg c33).symm.trans hf
      refine go_aload_n 0 dX12_formula_191 rfl rfl ?_
      refine go_iconst 2 dX12_formula_192 (by decide) ?_
      obtain ⟨r34, σ35, q36, hf⟩ := bnd_some hf
      refine go_Vv (av := [.int 2]) (rest := []) (t_X12_wrong hs h0 q36) ok_X12_wrong ml_X12_255 dX12_formula_193 h0 rfl rfl (by decide) (Nat.le_refl _) (Nat.le_refl _) (Nat.le_of_ble_eq_true rfl) ?_
      exact w_X12_formula_196 hs h0 σ35 hf
set_option maxRecDepth 100000 in
set_option maxHeartbeats 4000000 in
theorem v_X12_formula_50 {N : Nat} {Γ : SG} {ρ : Nat → Nat → Nat} (hs : Sh Γ ρ) {this : Nat} {a1 : Int32} (h0 : Γ[this]? = some (0, 12)) {n0 : Nat} {r : Int32} {σr : St} (rec50 : Int32 → St → Option (Int32 × St)) (hrec50 : ∀ (x2 : Int32) (σ : St), rec50 x2 σ = some (r, σr) → Go mX12_formula 4 0 0 n0 (Kv Γ ρ σr) 0 0 50 [some (.ref this), none, some (.int x2), none] [] (hp Γ ρ σ)) (x2 : Int32) (σ : St) (hf : b_X12_formula_50 N ρ this a1 rec50 x2 σ = some (r, σr)) : Go mX12_formula 4 0 0 n0 (Kv Γ ρ σr) 0 0 50 [some (.ref this), none, some (.int x2), none] [] (hp Γ ρ σ) := by
  unfold b_X12_formula_50 at hf
  refine go_iload_n 2 dX12_formula_50 rfl rfl ?_
  refine go_if_eq 177 dX12_formula_51 (by decide) (fun c37 => ?_) (fun c37 => ?_)
  · replace hf := (if_pos c37).symm.trans hf
    refine go_msk [true, false, false, false] [some (.ref this), none, none, none] rfl ?_
    exact w_X12_formula_177 hs h0 σ hf
  · replace hf := (if_neg c37).symm.trans hf
    refine go_aload_n 0 dX12_formula_54 rfl rfl ?_
    refine go_fI fl_X12_206 dX12_formula_55 h0 (by decide) rfl ?_
    refine go_if_ne 177 dX12_formula_58 (by decide) (fun c38 => ?_) (fun c38 => ?_)
    · replace hf := (if_neg c38).symm.trans hf
      refine go_msk [true, false, false, false] [some (.ref this), none, none, none] rfl ?_
      exact w_X12_formula_177 hs h0 σ hf
    · replace hf := (if_pos c38).symm.trans hf
      refine go_aload_n 0 dX12_formula_61 rfl rfl ?_
      obtain ⟨r39, σ40, q41, hf⟩ := bnd_some hf
      refine go_Vi (av := []) (rest := []) (t_X12_sign hs h0 q41) ok_X12_sign ml_X12_317 dX12_formula_62 h0 rfl rfl (by decide) (Nat.le_refl _) (Nat.le_refl _) (Nat.le_of_ble_eq_true rfl) ?_
      refine go_istore_n 3 [some (.ref this), none, some (.int x2), some (.int r39)] dX12_formula_65 rfl (by decide) rfl ?_
      refine go_aload_n 0 dX12_formula_66 rfl rfl ?_
      refine go_fI fl_X12_193 dX12_formula_67 h0 (by decide) rfl ?_
      refine go_bipush 41 dX12_formula_70 (by decide) ?_
      refine go_icmp_ne 114 dX12_formula_72 (by decide) (fun c42 => ?_) (fun c42 => ?_)
      · replace hf := (if_neg c42).symm.trans hf
        exact w_X12_formula_114 hs h0 rec50 hrec50 x2 r39 σ40 hf
      · replace hf := (if_pos c42).symm.trans hf
        refine go_aload_n 0 dX12_formula_75 rfl rfl ?_
        obtain ⟨r43, σ44, q45, hf⟩ := bnd_some hf
        refine go_Vi (av := []) (rest := []) (t_X12_hasBracket hs h0 q45) ok_X12_hasBracket ml_X12_320 dX12_formula_76 h0 rfl rfl (by decide) (Nat.le_refl _) (Nat.le_refl _) (Nat.le_of_ble_eq_true rfl) ?_
        refine go_if_eq 114 dX12_formula_79 (by decide) (fun c46 => ?_) (fun c46 => ?_)
        · replace hf := (if_pos c46).symm.trans hf
          exact w_X12_formula_114 hs h0 rec50 hrec50 x2 r39 σ44 hf
        · replace hf := (if_neg c46).symm.trans hf
          refine go_aload_n 0 dX12_formula_82 rfl rfl ?_
          refine go_iconst 0 dX12_formula_83 (by decide) ?_
          obtain ⟨r47, σ48, q49, hf⟩ := bnd_some hf
          refine go_Vv (av := [.int 0]) (rest := []) (t_X12_close hs h0 q49) ok_X12_close ml_X12_323 dX12_formula_84 h0 rfl rfl (by decide) (Nat.le_refl _) (Nat.le_refl _) (Nat.le_of_ble_eq_true rfl) ?_
          refine go_aload_n 0 dX12_formula_87 rfl rfl ?_
          refine go_dup dX12_formula_88 rfl ?_
          refine go_fI fl_X12_279 dX12_formula_89 h0 (by decide) rfl ?_
          refine go_iconst 1 dX12_formula_92 (by decide) ?_
          refine go_isub dX12_formula_93 ?_
          obtain ⟨σ50, eσ50, hf⟩ := nmd_some hf
          refine go_pI fl_X12_279 ft_12_21 (okv_i _) dX12_formula_94 h0 (by decide) rfl ?_
          rw [eσ50]
          refine go_aload_n 0 dX12_formula_97 rfl rfl ?_
          refine go_dup dX12_formula_98 rfl ?_
          refine go_fI fl_X12_289 dX12_formula_99 h0 (by decide) rfl ?_
          refine go_iconst 1 dX12_formula_102 (by decide) ?_
          refine go_isub dX12_formula_103 ?_
          obtain ⟨σ51, eσ51, hf⟩ := nmd_some hf
          refine go_pI fl_X12_289 ft_12_25 (okv_i _) dX12_formula_104 h0 (by decide) rfl ?_
          rw [eσ51]
          refine go_aload_n 0 dX12_formula_107 rfl rfl ?_
          obtain ⟨r52, σ53, q54, hf⟩ := bnd_some hf
          refine go_Vv (av := []) (rest := []) (t_X12_token hs h0 q54) ok_X12_token ml_X12_258 dX12_formula_108 h0 rfl rfl (by decide) (Nat.le_refl _) (Nat.le_refl _) (Nat.le_of_ble_eq_true rfl) ?_
          refine go_goto 174 dX12_formula_111 (by decide) ?_
          refine go_msk [true, false, true, false] [some (.ref this), none, some (.int x2), none] rfl ?_
          exact w_X12_formula_174 hs h0 rec50 hrec50 x2 σ53 hf
theorem w_X12_formula_50 {N : Nat} {Γ : SG} {ρ : Nat → Nat → Nat} (hs : Sh Γ ρ) {this : Nat} {a1 : Int32} (h0 : Γ[this]? = some (0, 12)) {n0 : Nat} {r : Int32} {σr : St} : ∀ (n : Nat) (x2 : Int32) (σ : St), f_X12_formula_50 N ρ this a1 n x2 σ = some (r, σr) → Go mX12_formula 4 0 0 n0 (Kv Γ ρ σr) 0 0 50 [some (.ref this), none, some (.int x2), none] [] (hp Γ ρ σ) := by
  intro n
  induction n with
  | zero => intro x2 σ hf; cases hf
  | succ n ih => intro x2 σ hf; exact v_X12_formula_50 hs h0 _ ih x2 σ hf
set_option maxRecDepth 100000 in
set_option maxHeartbeats 4000000 in
theorem t_X12_formula {N : Nat} {Γ : SG} {ρ : Nat → Nat → Nat} (hs : Sh Γ ρ) {this : Nat} {a1 : Int32} (h0 : Γ[this]? = some (0, 12)) {σ : St} {r : Int32} {σr : St} (hf : f_X12_formula N ρ this a1 σ = some (r, σr)) : Tri mX12_formula 4 0 0 [.ref this, .int a1] (hp Γ ρ σ) (Kv Γ ρ σr) := by
  unfold f_X12_formula at hf
  refine tri_of [some (.ref this), some (.int a1), none, none] (plainFor_of_name rfl) rfl (Nat.le_of_ble_eq_true rfl) ?_
  refine go_aload_n 0 dX12_formula_0 rfl rfl ?_
  obtain ⟨r55, σ56, q57, hf⟩ := bnd_some hf
  refine go_Vv (av := []) (rest := []) (t_X12_token hs h0 q57) ok_X12_token ml_X12_258 dX12_formula_1 h0 rfl rfl (by decide) (Nat.le_refl _) (Nat.le_refl _) (Nat.le_of_ble_eq_true rfl) ?_
  refine go_aload_n 0 dX12_formula_4 rfl rfl ?_
  refine go_iload_n 1 dX12_formula_5 rfl rfl ?_
  obtain ⟨σ58, eσ58, hf⟩ := nmd_some hf
  refine go_pI fl_X12_276 ft_12_20 (okv_i _) dX12_formula_6 h0 (by decide) rfl ?_
  rw [eσ58]
  refine go_aload_n 0 dX12_formula_9 rfl rfl ?_
  refine go_fR fl_X12_45 dX12_formula_10 h0 (by decide) rfl ?_
  refine go_aload_n 0 dX12_formula_13 rfl rfl ?_
  refine go_fI fl_X12_276 dX12_formula_14 h0 (by decide) rfl ?_
  refine go_iconst 1 dX12_formula_17 (by decide) ?_
  obtain ⟨g59, hf⟩ := gd_some hf
  obtain ⟨σ60, eσ60, hf⟩ := nmd_some hf
  refine go_wZ dX12_formula_18 (hs.1 _ 12 19 h0 rfl) (ib_in g59) ?_
  rw [eσ60]
  refine go_aload_n 0 dX12_formula_19 rfl rfl ?_
  refine go_fR fl_X12_27 dX12_formula_20 h0 (by decide) rfl ?_
  refine go_aload_n 0 dX12_formula_23 rfl rfl ?_
  refine go_fI fl_X12_276 dX12_formula_24 h0 (by decide) rfl ?_
  refine go_iconst 0 dX12_formula_27 (by decide) ?_
  obtain ⟨g61, hf⟩ := gd_some hf
  obtain ⟨σ62, eσ62, hf⟩ := nmd_some hf
  refine go_wI dX12_formula_28 (hs.1 _ 12 13 h0 rfl) (ib_in g61) ?_
  rw [eσ62]
  refine go_aload_n 0 dX12_formula_29 rfl rfl ?_
  refine go_iconst 0 dX12_formula_30 (by decide) ?_
  obtain ⟨σ63, eσ63, hf⟩ := nmd_some hf
  refine go_pI fl_X12_279 ft_12_21 (okv_i _) dX12_formula_31 h0 (by decide) rfl ?_
  rw [eσ63]
  refine go_aload_n 0 dX12_formula_34 rfl rfl ?_
  refine go_iconst 0 dX12_formula_35 (by decide) ?_
  obtain ⟨σ64, eσ64, hf⟩ := nmd_some hf
  refine go_pI fl_X12_289 ft_12_25 (okv_i _) dX12_formula_36 h0 (by decide) rfl ?_
  rw [eσ64]
  refine go_aload_n 0 dX12_formula_39 rfl rfl ?_
  refine go_iconst 0 dX12_formula_40 (by decide) ?_
  obtain ⟨σ65, eσ65, hf⟩ := nmd_some hf
  refine go_pI fl_X12_295 ft_12_24 (okv_i _) dX12_formula_41 h0 (by decide) rfl ?_
  rw [eσ65]
  refine go_aload_n 0 dX12_formula_44 rfl rfl ?_
  obtain ⟨r66, σ67, q68, hf⟩ := bnd_some hf
  refine go_Vv (av := []) (rest := []) (t_X12_unit hs h0 q68) ok_X12_unit ml_X12_314 dX12_formula_45 h0 rfl rfl (by decide) (Nat.le_refl _) (Nat.le_refl _) (Nat.le_of_ble_eq_true rfl) ?_
  refine go_iconst 1 dX12_formula_48 (by decide) ?_
  refine go_istore_n 2 [some (.ref this), some (.int a1), some (.int 1), none] dX12_formula_49 rfl (by decide) rfl ?_
  refine go_msk [true, false, true, false] [some (.ref this), none, some (.int 1), none] rfl ?_
  exact w_X12_formula_50 hs h0 N 1 σ67 hf
def f_X12_truth_9 (N : Nat) (ρ : Nat → Nat → Nat) (a1 : Int32) (s0 : Int32) (σ : St) : Option (Int32 × St) :=
  some (s0, σ)
def f_X12_truth (N : Nat) (ρ : Nat → Nat → Nat) (a1 : Int32) (σ : St) : Option (Int32 × St) :=
  if (a1 : Int32) = 0 then
    f_X12_truth_9 N ρ a1 0 σ
  else
    f_X12_truth_9 N ρ a1 1 σ
set_option maxRecDepth 100000 in
set_option maxHeartbeats 4000000 in
theorem w_X12_truth_9 {N : Nat} {Γ : SG} {ρ : Nat → Nat → Nat} (hs : Sh Γ ρ) {a1 : Int32} {n0 : Nat} {r : Int32} {σr : St} (s0 : Int32) (σ : St) (hf : f_X12_truth_9 N ρ a1 s0 σ = some (r, σr)) : Go mX12_truth 0 0 0 n0 (Ki Γ ρ r σr) 0 0 9 [none] [.int s0] (hp Γ ρ σ) := by
  unfold f_X12_truth_9 at hf
  cases hf
  exact go_iret rfl dX12_truth_9 (Nat.le_refl _) ⟨rfl, rfl⟩
set_option maxRecDepth 100000 in
set_option maxHeartbeats 4000000 in
theorem t_X12_truth {N : Nat} {Γ : SG} {ρ : Nat → Nat → Nat} (hs : Sh Γ ρ) {a1 : Int32} {σ : St} {r : Int32} {σr : St} (hf : f_X12_truth N ρ a1 σ = some (r, σr)) : Tri mX12_truth 0 0 0 [.int a1] (hp Γ ρ σ) (Ki Γ ρ r σr) := by
  unfold f_X12_truth at hf
  refine tri_of [some (.int a1)] (plainFor_of_name rfl) rfl (Nat.le_of_ble_eq_true rfl) ?_
  refine go_iload_n 0 dX12_truth_0 rfl rfl ?_
  refine go_if_eq 8 dX12_truth_1 (by decide) (fun c1 => ?_) (fun c1 => ?_)
  · replace hf := (if_pos c1).symm.trans hf
    refine go_iconst 0 dX12_truth_8 (by decide) ?_
    refine go_msk [false] [none] rfl ?_
    exact w_X12_truth_9 hs 0 σ hf
  · replace hf := (if_neg c1).symm.trans hf
    refine go_iconst 1 dX12_truth_4 (by decide) ?_
    refine go_goto 9 dX12_truth_5 (by decide) ?_
    refine go_msk [false] [none] rfl ?_
    exact w_X12_truth_9 hs 1 σ hf
def f_X12_done_155 (N : Nat) (ρ : Nat → Nat → Nat) (a1 : Int32) (a2 : Int32) (a3 : Int32) (s0 : Int32) (σ : St) : Option (Int32 × St) :=
  some (s0, σ)
def f_X12_done_211 (N : Nat) (ρ : Nat → Nat → Nat) (a1 : Int32) (a2 : Int32) (a3 : Int32) (s0 : Int32) (σ : St) : Option (Int32 × St) :=
  bnd (f_X12_truth N ρ s0 σ) fun r1 σ2 =>
  some (r1, σ2)
def f_X12_done_210 (N : Nat) (ρ : Nat → Nat → Nat) (a1 : Int32) (a2 : Int32) (a3 : Int32) (σ : St) : Option (Int32 × St) :=
  f_X12_done_211 N ρ a1 a2 a3 0 σ
def f_X12_done_228 (N : Nat) (ρ : Nat → Nat → Nat) (a1 : Int32) (a2 : Int32) (a3 : Int32) (s0 : Int32) (σ : St) : Option (Int32 × St) :=
  bnd (f_X12_truth N ρ s0 σ) fun r4 σ5 =>
  some (r4, σ5)
def f_X12_done_223 (N : Nat) (ρ : Nat → Nat → Nat) (a1 : Int32) (a2 : Int32) (a3 : Int32) (σ : St) : Option (Int32 × St) :=
  f_X12_done_228 N ρ a1 a2 a3 1 σ
def f_X12_done_215 (N : Nat) (ρ : Nat → Nat → Nat) (a1 : Int32) (a2 : Int32) (a3 : Int32) (σ : St) : Option (Int32 × St) :=
  if (a2 : Int32) = 0 then
    if (a3 : Int32) = 0 then
      f_X12_done_228 N ρ a1 a2 a3 0 σ
    else
      f_X12_done_223 N ρ a1 a2 a3 σ
  else
    f_X12_done_223 N ρ a1 a2 a3 σ
def f_X12_done_143 (N : Nat) (ρ : Nat → Nat → Nat) (a1 : Int32) (a2 : Int32) (a3 : Int32) (s0 : Int32) (σ : St) : Option (Int32 × St) :=
  some (s0, σ)
def f_X12_done_166 (N : Nat) (ρ : Nat → Nat → Nat) (a1 : Int32) (a2 : Int32) (a3 : Int32) (s0 : Int32) (σ : St) : Option (Int32 × St) :=
  bnd (f_X12_truth N ρ s0 σ) fun r9 σ10 =>
  some (r9, σ10)
def f_X12_done_194 (N : Nat) (ρ : Nat → Nat → Nat) (a1 : Int32) (a2 : Int32) (a3 : Int32) (s0 : Int32) (σ : St) : Option (Int32 × St) :=
  bnd (f_X12_truth N ρ s0 σ) fun r12 σ13 =>
  some (r12, σ13)
def f_X12_done_180 (N : Nat) (ρ : Nat → Nat → Nat) (a1 : Int32) (a2 : Int32) (a3 : Int32) (s0 : Int32) (σ : St) : Option (Int32 × St) :=
  bnd (f_X12_truth N ρ s0 σ) fun r15 σ16 =>
  some (r15, σ16)
def f_X12_done (N : Nat) (ρ : Nat → Nat → Nat) (a1 : Int32) (a2 : Int32) (a3 : Int32) (σ : St) : Option (Int32 × St) :=
  if (a1 : Int32) = 37 then
    if (a3 : Int32) = 0 then
      f_X12_done_155 N ρ a1 a2 a3 0 σ
    else
      gd (nz a3) <|
      f_X12_done_155 N ρ a1 a2 a3 (irem a2 a3) σ
  else
  if (a1 : Int32) = 38 then
    if (a2 : Int32) = 0 then
      f_X12_done_210 N ρ a1 a2 a3 σ
    else
      if (a3 : Int32) = 0 then
        f_X12_done_210 N ρ a1 a2 a3 σ
      else
        f_X12_done_211 N ρ a1 a2 a3 1 σ
  else
  if (a1 : Int32) = 39 then
    f_X12_done_215 N ρ a1 a2 a3 σ
  else
  if (a1 : Int32) = 40 then
    f_X12_done_215 N ρ a1 a2 a3 σ
  else
  if (a1 : Int32) = 41 then
    f_X12_done_215 N ρ a1 a2 a3 σ
  else
  if (a1 : Int32) = 42 then
    some (a2 * a3, σ)
  else
  if (a1 : Int32) = 43 then
    some (a2 + a3, σ)
  else
  if (a1 : Int32) = 44 then
    f_X12_done_215 N ρ a1 a2 a3 σ
  else
  if (a1 : Int32) = 45 then
    some (a2 - a3, σ)
  else
  if (a1 : Int32) = 46 then
    f_X12_done_215 N ρ a1 a2 a3 σ
  else
  if (a1 : Int32) = 47 then
    if (a3 : Int32) = 0 then
      f_X12_done_143 N ρ a1 a2 a3 0 σ
    else
      gd (nz a3) <|
      f_X12_done_143 N ρ a1 a2 a3 (a2 / a3) σ
  else
  if (a1 : Int32) = 48 then
    f_X12_done_215 N ρ a1 a2 a3 σ
  else
  if (a1 : Int32) = 49 then
    f_X12_done_215 N ρ a1 a2 a3 σ
  else
  if (a1 : Int32) = 50 then
    f_X12_done_215 N ρ a1 a2 a3 σ
  else
  if (a1 : Int32) = 51 then
    f_X12_done_215 N ρ a1 a2 a3 σ
  else
  if (a1 : Int32) = 52 then
    f_X12_done_215 N ρ a1 a2 a3 σ
  else
  if (a1 : Int32) = 53 then
    f_X12_done_215 N ρ a1 a2 a3 σ
  else
  if (a1 : Int32) = 54 then
    f_X12_done_215 N ρ a1 a2 a3 σ
  else
  if (a1 : Int32) = 55 then
    f_X12_done_215 N ρ a1 a2 a3 σ
  else
  if (a1 : Int32) = 56 then
    f_X12_done_215 N ρ a1 a2 a3 σ
  else
  if (a1 : Int32) = 57 then
    f_X12_done_215 N ρ a1 a2 a3 σ
  else
  if (a1 : Int32) = 58 then
    f_X12_done_215 N ρ a1 a2 a3 σ
  else
  if (a1 : Int32) = 59 then
    f_X12_done_215 N ρ a1 a2 a3 σ
  else
  if (a1 : Int32) = 60 then
    if a3 ≤ (a2 : Int32) then
      f_X12_done_166 N ρ a1 a2 a3 0 σ
    else
      f_X12_done_166 N ρ a1 a2 a3 1 σ
  else
  if (a1 : Int32) = 61 then
    if (a2 : Int32) = a3 then
      f_X12_done_194 N ρ a1 a2 a3 1 σ
    else
      f_X12_done_194 N ρ a1 a2 a3 0 σ
  else
  if (a1 : Int32) = 62 then
    if (a2 : Int32) ≤ a3 then
      f_X12_done_180 N ρ a1 a2 a3 0 σ
    else
      f_X12_done_180 N ρ a1 a2 a3 1 σ
  else
    f_X12_done_215 N ρ a1 a2 a3 σ
set_option maxRecDepth 100000 in
set_option maxHeartbeats 4000000 in
theorem w_X12_done_155 {N : Nat} {Γ : SG} {ρ : Nat → Nat → Nat} (hs : Sh Γ ρ) {a1 : Int32} {a2 : Int32} {a3 : Int32} {n0 : Nat} {r : Int32} {σr : St} (s0 : Int32) (σ : St) (hf : f_X12_done_155 N ρ a1 a2 a3 s0 σ = some (r, σr)) : Go mX12_done 1 0 0 n0 (Ki Γ ρ r σr) 0 0 155 [none, none, none] [.int s0] (hp Γ ρ σ) := by
  unfold f_X12_done_155 at hf
  cases hf
  exact go_iret rfl dX12_done_155 (Nat.le_refl _) ⟨rfl, rfl⟩
set_option maxRecDepth 100000 in
set_option maxHeartbeats 4000000 in
theorem w_X12_done_211 {N : Nat} {Γ : SG} {ρ : Nat → Nat → Nat} (hs : Sh Γ ρ) {a1 : Int32} {a2 : Int32} {a3 : Int32} {n0 : Nat} {r : Int32} {σr : St} (s0 : Int32) (σ : St) (hf : f_X12_done_211 N ρ a1 a2 a3 s0 σ = some (r, σr)) : Go mX12_done 1 0 0 n0 (Ki Γ ρ r σr) 0 0 211 [none, none, none] [.int s0] (hp Γ ρ σ) := by
  unfold f_X12_done_211 at hf
  obtain ⟨r1, σ2, q3, hf⟩ := bnd_some hf
  refine go_Si (av := [.int s0]) (rest := []) (t_X12_truth hs  q3) ok_X12_truth ml_X12_329 dX12_done_211 rfl rfl (by decide) (Nat.le_refl _) (Nat.le_refl _) (Nat.le_of_ble_eq_true rfl) ?_
  cases hf
  exact go_iret rfl dX12_done_214 (Nat.le_refl _) ⟨rfl, rfl⟩
set_option maxRecDepth 100000 in
set_option maxHeartbeats 4000000 in
theorem w_X12_done_210 {N : Nat} {Γ : SG} {ρ : Nat → Nat → Nat} (hs : Sh Γ ρ) {a1 : Int32} {a2 : Int32} {a3 : Int32} {n0 : Nat} {r : Int32} {σr : St} (σ : St) (hf : f_X12_done_210 N ρ a1 a2 a3 σ = some (r, σr)) : Go mX12_done 1 0 0 n0 (Ki Γ ρ r σr) 0 0 210 [none, none, none] [] (hp Γ ρ σ) := by
  unfold f_X12_done_210 at hf
  refine go_iconst 0 dX12_done_210 (by decide) ?_
  exact w_X12_done_211 hs 0 σ hf
set_option maxRecDepth 100000 in
set_option maxHeartbeats 4000000 in
theorem w_X12_done_228 {N : Nat} {Γ : SG} {ρ : Nat → Nat → Nat} (hs : Sh Γ ρ) {a1 : Int32} {a2 : Int32} {a3 : Int32} {n0 : Nat} {r : Int32} {σr : St} (s0 : Int32) (σ : St) (hf : f_X12_done_228 N ρ a1 a2 a3 s0 σ = some (r, σr)) : Go mX12_done 1 0 0 n0 (Ki Γ ρ r σr) 0 0 228 [none, none, none] [.int s0] (hp Γ ρ σ) := by
  unfold f_X12_done_228 at hf
  obtain ⟨r4, σ5, q6, hf⟩ := bnd_some hf
  refine go_Si (av := [.int s0]) (rest := []) (t_X12_truth hs  q6) ok_X12_truth ml_X12_329 dX12_done_228 rfl rfl (by decide) (Nat.le_refl _) (Nat.le_refl _) (Nat.le_of_ble_eq_true rfl) ?_
  cases hf
  exact go_iret rfl dX12_done_231 (Nat.le_refl _) ⟨rfl, rfl⟩
set_option maxRecDepth 100000 in
set_option maxHeartbeats 4000000 in
theorem w_X12_done_223 {N : Nat} {Γ : SG} {ρ : Nat → Nat → Nat} (hs : Sh Γ ρ) {a1 : Int32} {a2 : Int32} {a3 : Int32} {n0 : Nat} {r : Int32} {σr : St} (σ : St) (hf : f_X12_done_223 N ρ a1 a2 a3 σ = some (r, σr)) : Go mX12_done 1 0 0 n0 (Ki Γ ρ r σr) 0 0 223 [none, none, none] [] (hp Γ ρ σ) := by
  unfold f_X12_done_223 at hf
  refine go_iconst 1 dX12_done_223 (by decide) ?_
  refine go_goto 228 dX12_done_224 (by decide) ?_
  exact w_X12_done_228 hs 1 σ hf
set_option maxRecDepth 100000 in
set_option maxHeartbeats 4000000 in
theorem w_X12_done_215 {N : Nat} {Γ : SG} {ρ : Nat → Nat → Nat} (hs : Sh Γ ρ) {a1 : Int32} {a2 : Int32} {a3 : Int32} {n0 : Nat} {r : Int32} {σr : St} (σ : St) (hf : f_X12_done_215 N ρ a1 a2 a3 σ = some (r, σr)) : Go mX12_done 1 0 0 n0 (Ki Γ ρ r σr) 0 0 215 [none, some (.int a2), some (.int a3)] [] (hp Γ ρ σ) := by
  unfold f_X12_done_215 at hf
  refine go_iload_n 1 dX12_done_215 rfl rfl ?_
  refine go_if_ne 223 dX12_done_216 (by decide) (fun c7 => ?_) (fun c7 => ?_)
  · replace hf := (if_neg c7).symm.trans hf
    refine go_msk [false, false, false] [none, none, none] rfl ?_
    exact w_X12_done_223 hs σ hf
  · replace hf := (if_pos c7).symm.trans hf
    refine go_iload_n 2 dX12_done_219 rfl rfl ?_
    refine go_if_eq 227 dX12_done_220 (by decide) (fun c8 => ?_) (fun c8 => ?_)
    · replace hf := (if_pos c8).symm.trans hf
      refine go_iconst 0 dX12_done_227 (by decide) ?_
      refine go_msk [false, false, false] [none, none, none] rfl ?_
      exact w_X12_done_228 hs 0 σ hf
    · replace hf := (if_neg c8).symm.trans hf
      refine go_msk [false, false, false] [none, none, none] rfl ?_
      exact w_X12_done_223 hs σ hf
set_option maxRecDepth 100000 in
set_option maxHeartbeats 4000000 in
theorem w_X12_done_143 {N : Nat} {Γ : SG} {ρ : Nat → Nat → Nat} (hs : Sh Γ ρ) {a1 : Int32} {a2 : Int32} {a3 : Int32} {n0 : Nat} {r : Int32} {σr : St} (s0 : Int32) (σ : St) (hf : f_X12_done_143 N ρ a1 a2 a3 s0 σ = some (r, σr)) : Go mX12_done 1 0 0 n0 (Ki Γ ρ r σr) 0 0 143 [none, none, none] [.int s0] (hp Γ ρ σ) := by
  unfold f_X12_done_143 at hf
  cases hf
  exact go_iret rfl dX12_done_143 (Nat.le_refl _) ⟨rfl, rfl⟩
set_option maxRecDepth 100000 in
set_option maxHeartbeats 4000000 in
theorem w_X12_done_166 {N : Nat} {Γ : SG} {ρ : Nat → Nat → Nat} (hs : Sh Γ ρ) {a1 : Int32} {a2 : Int32} {a3 : Int32} {n0 : Nat} {r : Int32} {σr : St} (s0 : Int32) (σ : St) (hf : f_X12_done_166 N ρ a1 a2 a3 s0 σ = some (r, σr)) : Go mX12_done 1 0 0 n0 (Ki Γ ρ r σr) 0 0 166 [none, none, none] [.int s0] (hp Γ ρ σ) := by
  unfold f_X12_done_166 at hf
  obtain ⟨r9, σ10, q11, hf⟩ := bnd_some hf
  refine go_Si (av := [.int s0]) (rest := []) (t_X12_truth hs  q11) ok_X12_truth ml_X12_329 dX12_done_166 rfl rfl (by decide) (Nat.le_refl _) (Nat.le_refl _) (Nat.le_of_ble_eq_true rfl) ?_
  cases hf
  exact go_iret rfl dX12_done_169 (Nat.le_refl _) ⟨rfl, rfl⟩
set_option maxRecDepth 100000 in
set_option maxHeartbeats 4000000 in
theorem w_X12_done_194 {N : Nat} {Γ : SG} {ρ : Nat → Nat → Nat} (hs : Sh Γ ρ) {a1 : Int32} {a2 : Int32} {a3 : Int32} {n0 : Nat} {r : Int32} {σr : St} (s0 : Int32) (σ : St) (hf : f_X12_done_194 N ρ a1 a2 a3 s0 σ = some (r, σr)) : Go mX12_done 1 0 0 n0 (Ki Γ ρ r σr) 0 0 194 [none, none, none] [.int s0] (hp Γ ρ σ) := by
  unfold f_X12_done_194 at hf
  obtain ⟨r12, σ13, q14, hf⟩ := bnd_some hf
  refine go_Si (av := [.int s0]) (rest := []) (t_X12_truth hs  q14) ok_X12_truth ml_X12_329 dX12_done_194 rfl rfl (by decide) (Nat.le_refl _) (Nat.le_refl _) (Nat.le_of_ble_eq_true rfl) ?_
  cases hf
  exact go_iret rfl dX12_done_197 (Nat.le_refl _) ⟨rfl, rfl⟩
set_option maxRecDepth 100000 in
set_option maxHeartbeats 4000000 in
theorem w_X12_done_180 {N : Nat} {Γ : SG} {ρ : Nat → Nat → Nat} (hs : Sh Γ ρ) {a1 : Int32} {a2 : Int32} {a3 : Int32} {n0 : Nat} {r : Int32} {σr : St} (s0 : Int32) (σ : St) (hf : f_X12_done_180 N ρ a1 a2 a3 s0 σ = some (r, σr)) : Go mX12_done 1 0 0 n0 (Ki Γ ρ r σr) 0 0 180 [none, none, none] [.int s0] (hp Γ ρ σ) := by
  unfold f_X12_done_180 at hf
  obtain ⟨r15, σ16, q17, hf⟩ := bnd_some hf
  refine go_Si (av := [.int s0]) (rest := []) (t_X12_truth hs  q17) ok_X12_truth ml_X12_329 dX12_done_180 rfl rfl (by decide) (Nat.le_refl _) (Nat.le_refl _) (Nat.le_of_ble_eq_true rfl) ?_
  cases hf
  exact go_iret rfl dX12_done_183 (Nat.le_refl _) ⟨rfl, rfl⟩
set_option maxRecDepth 100000 in
set_option maxHeartbeats 4000000 in
theorem t_X12_done {N : Nat} {Γ : SG} {ρ : Nat → Nat → Nat} (hs : Sh Γ ρ) {a1 : Int32} {a2 : Int32} {a3 : Int32} {σ : St} {r : Int32} {σr : St} (hf : f_X12_done N ρ a1 a2 a3 σ = some (r, σr)) : Tri mX12_done 1 0 0 [.int a1, .int a2, .int a3] (hp Γ ρ σ) (Ki Γ ρ r σr) := by
  unfold f_X12_done at hf
  refine tri_of [some (.int a1), some (.int a2), some (.int a3)] (plainFor_of_name rfl) rfl (Nat.le_of_ble_eq_true rfl) ?_
  refine go_iload_n 0 dX12_done_0 rfl rfl ?_
  by_cases c18 : (a1 : Int32) = 37
  · replace hf := (if_pos c18).symm.trans hf
    refine go_tableIn 144 dX12_done_1 (by rw [c18]; decide) (by rw [c18]; decide) (by rw [c18]; rfl) (by decide) ?_
    refine go_iload_n 2 dX12_done_144 rfl rfl ?_
    refine go_if_ne 152 dX12_done_145 (by decide) (fun c19 => ?_) (fun c19 => ?_)
    · replace hf := (if_neg c19).symm.trans hf
      refine go_iload_n 1 dX12_done_152 rfl rfl ?_
      refine go_iload_n 2 dX12_done_153 rfl rfl ?_
      obtain ⟨g20, hf⟩ := gd_some hf
      refine go_irem dX12_done_154 (nz_of g20) ?_
      refine go_msk [false, false, false] [none, none, none] rfl ?_
      exact w_X12_done_155 hs (irem a2 a3) σ hf
    · replace hf := (if_pos c19).symm.trans hf
      refine go_iconst 0 dX12_done_148 (by decide) ?_
      refine go_goto 155 dX12_done_149 (by decide) ?_
      refine go_msk [false, false, false] [none, none, none] rfl ?_
      exact w_X12_done_155 hs 0 σ hf
  replace hf := (if_neg c18).symm.trans hf
  by_cases c21 : (a1 : Int32) = 38
  · replace hf := (if_pos c21).symm.trans hf
    refine go_tableIn 198 dX12_done_1 (by rw [c21]; decide) (by rw [c21]; decide) (by rw [c21]; rfl) (by decide) ?_
    refine go_iload_n 1 dX12_done_198 rfl rfl ?_
    refine go_if_eq 210 dX12_done_199 (by decide) (fun c22 => ?_) (fun c22 => ?_)
    · replace hf := (if_pos c22).symm.trans hf
      refine go_msk [false, false, false] [none, none, none] rfl ?_
      exact w_X12_done_210 hs σ hf
    · replace hf := (if_neg c22).symm.trans hf
      refine go_iload_n 2 dX12_done_202 rfl rfl ?_
      refine go_if_eq 210 dX12_done_203 (by decide) (fun c23 => ?_) (fun c23 => ?_)
      · replace hf := (if_pos c23).symm.trans hf
        refine go_msk [false, false, false] [none, none, none] rfl ?_
        exact w_X12_done_210 hs σ hf
      · replace hf := (if_neg c23).symm.trans hf
        refine go_iconst 1 dX12_done_206 (by decide) ?_
        refine go_goto 211 dX12_done_207 (by decide) ?_
        refine go_msk [false, false, false] [none, none, none] rfl ?_
        exact w_X12_done_211 hs 1 σ hf
  replace hf := (if_neg c21).symm.trans hf
  by_cases c24 : (a1 : Int32) = 39
  · replace hf := (if_pos c24).symm.trans hf
    refine go_tableIn 215 dX12_done_1 (by rw [c24]; decide) (by rw [c24]; decide) (by rw [c24]; rfl) (by decide) ?_
    refine go_msk [false, true, true] [none, some (.int a2), some (.int a3)] rfl ?_
    exact w_X12_done_215 hs σ hf
  replace hf := (if_neg c24).symm.trans hf
  by_cases c25 : (a1 : Int32) = 40
  · replace hf := (if_pos c25).symm.trans hf
    refine go_tableIn 215 dX12_done_1 (by rw [c25]; decide) (by rw [c25]; decide) (by rw [c25]; rfl) (by decide) ?_
    refine go_msk [false, true, true] [none, some (.int a2), some (.int a3)] rfl ?_
    exact w_X12_done_215 hs σ hf
  replace hf := (if_neg c25).symm.trans hf
  by_cases c26 : (a1 : Int32) = 41
  · replace hf := (if_pos c26).symm.trans hf
    refine go_tableIn 215 dX12_done_1 (by rw [c26]; decide) (by rw [c26]; decide) (by rw [c26]; rfl) (by decide) ?_
    refine go_msk [false, true, true] [none, some (.int a2), some (.int a3)] rfl ?_
    exact w_X12_done_215 hs σ hf
  replace hf := (if_neg c26).symm.trans hf
  by_cases c27 : (a1 : Int32) = 42
  · replace hf := (if_pos c27).symm.trans hf
    refine go_tableIn 128 dX12_done_1 (by rw [c27]; decide) (by rw [c27]; decide) (by rw [c27]; rfl) (by decide) ?_
    refine go_iload_n 1 dX12_done_128 rfl rfl ?_
    refine go_iload_n 2 dX12_done_129 rfl rfl ?_
    refine go_imul dX12_done_130 ?_
    cases hf
    exact go_iret rfl dX12_done_131 (Nat.le_refl _) ⟨rfl, rfl⟩
  replace hf := (if_neg c27).symm.trans hf
  by_cases c28 : (a1 : Int32) = 43
  · replace hf := (if_pos c28).symm.trans hf
    refine go_tableIn 120 dX12_done_1 (by rw [c28]; decide) (by rw [c28]; decide) (by rw [c28]; rfl) (by decide) ?_
    refine go_iload_n 1 dX12_done_120 rfl rfl ?_
    refine go_iload_n 2 dX12_done_121 rfl rfl ?_
    refine go_iadd dX12_done_122 ?_
    cases hf
    exact go_iret rfl dX12_done_123 (Nat.le_refl _) ⟨rfl, rfl⟩
  replace hf := (if_neg c28).symm.trans hf
  by_cases c29 : (a1 : Int32) = 44
  · replace hf := (if_pos c29).symm.trans hf
    refine go_tableIn 215 dX12_done_1 (by rw [c29]; decide) (by rw [c29]; decide) (by rw [c29]; rfl) (by decide) ?_
    refine go_msk [false, true, true] [none, some (.int a2), some (.int a3)] rfl ?_
    exact w_X12_done_215 hs σ hf
  replace hf := (if_neg c29).symm.trans hf
  by_cases c30 : (a1 : Int32) = 45
  · replace hf := (if_pos c30).symm.trans hf
    refine go_tableIn 124 dX12_done_1 (by rw [c30]; decide) (by rw [c30]; decide) (by rw [c30]; rfl) (by decide) ?_
    refine go_iload_n 1 dX12_done_124 rfl rfl ?_
    refine go_iload_n 2 dX12_done_125 rfl rfl ?_
    refine go_isub dX12_done_126 ?_
    cases hf
    exact go_iret rfl dX12_done_127 (Nat.le_refl _) ⟨rfl, rfl⟩
  replace hf := (if_neg c30).symm.trans hf
  by_cases c31 : (a1 : Int32) = 46
  · replace hf := (if_pos c31).symm.trans hf
    refine go_tableIn 215 dX12_done_1 (by rw [c31]; decide) (by rw [c31]; decide) (by rw [c31]; rfl) (by decide) ?_
    refine go_msk [false, true, true] [none, some (.int a2), some (.int a3)] rfl ?_
    exact w_X12_done_215 hs σ hf
  replace hf := (if_neg c31).symm.trans hf
  by_cases c32 : (a1 : Int32) = 47
  · replace hf := (if_pos c32).symm.trans hf
    refine go_tableIn 132 dX12_done_1 (by rw [c32]; decide) (by rw [c32]; decide) (by rw [c32]; rfl) (by decide) ?_
    refine go_iload_n 2 dX12_done_132 rfl rfl ?_
    refine go_if_ne 140 dX12_done_133 (by decide) (fun c33 => ?_) (fun c33 => ?_)
    · replace hf := (if_neg c33).symm.trans hf
      refine go_iload_n 1 dX12_done_140 rfl rfl ?_
      refine go_iload_n 2 dX12_done_141 rfl rfl ?_
      obtain ⟨g34, hf⟩ := gd_some hf
      refine go_idiv dX12_done_142 (nz_of g34) ?_
      refine go_msk [false, false, false] [none, none, none] rfl ?_
      exact w_X12_done_143 hs (a2 / a3) σ hf
    · replace hf := (if_pos c33).symm.trans hf
      refine go_iconst 0 dX12_done_136 (by decide) ?_
      refine go_goto 143 dX12_done_137 (by decide) ?_
      refine go_msk [false, false, false] [none, none, none] rfl ?_
      exact w_X12_done_143 hs 0 σ hf
  replace hf := (if_neg c32).symm.trans hf
  by_cases c35 : (a1 : Int32) = 48
  · replace hf := (if_pos c35).symm.trans hf
    refine go_tableIn 215 dX12_done_1 (by rw [c35]; decide) (by rw [c35]; decide) (by rw [c35]; rfl) (by decide) ?_
    refine go_msk [false, true, true] [none, some (.int a2), some (.int a3)] rfl ?_
    exact w_X12_done_215 hs σ hf
  replace hf := (if_neg c35).symm.trans hf
  by_cases c36 : (a1 : Int32) = 49
  · replace hf := (if_pos c36).symm.trans hf
    refine go_tableIn 215 dX12_done_1 (by rw [c36]; decide) (by rw [c36]; decide) (by rw [c36]; rfl) (by decide) ?_
    refine go_msk [false, true, true] [none, some (.int a2), some (.int a3)] rfl ?_
    exact w_X12_done_215 hs σ hf
  replace hf := (if_neg c36).symm.trans hf
  by_cases c37 : (a1 : Int32) = 50
  · replace hf := (if_pos c37).symm.trans hf
    refine go_tableIn 215 dX12_done_1 (by rw [c37]; decide) (by rw [c37]; decide) (by rw [c37]; rfl) (by decide) ?_
    refine go_msk [false, true, true] [none, some (.int a2), some (.int a3)] rfl ?_
    exact w_X12_done_215 hs σ hf
  replace hf := (if_neg c37).symm.trans hf
  by_cases c38 : (a1 : Int32) = 51
  · replace hf := (if_pos c38).symm.trans hf
    refine go_tableIn 215 dX12_done_1 (by rw [c38]; decide) (by rw [c38]; decide) (by rw [c38]; rfl) (by decide) ?_
    refine go_msk [false, true, true] [none, some (.int a2), some (.int a3)] rfl ?_
    exact w_X12_done_215 hs σ hf
  replace hf := (if_neg c38).symm.trans hf
  by_cases c39 : (a1 : Int32) = 52
  · replace hf := (if_pos c39).symm.trans hf
    refine go_tableIn 215 dX12_done_1 (by rw [c39]; decide) (by rw [c39]; decide) (by rw [c39]; rfl) (by decide) ?_
    refine go_msk [false, true, true] [none, some (.int a2), some (.int a3)] rfl ?_
    exact w_X12_done_215 hs σ hf
  replace hf := (if_neg c39).symm.trans hf
  by_cases c40 : (a1 : Int32) = 53
  · replace hf := (if_pos c40).symm.trans hf
    refine go_tableIn 215 dX12_done_1 (by rw [c40]; decide) (by rw [c40]; decide) (by rw [c40]; rfl) (by decide) ?_
    refine go_msk [false, true, true] [none, some (.int a2), some (.int a3)] rfl ?_
    exact w_X12_done_215 hs σ hf
  replace hf := (if_neg c40).symm.trans hf
  by_cases c41 : (a1 : Int32) = 54
  · replace hf := (if_pos c41).symm.trans hf
    refine go_tableIn 215 dX12_done_1 (by rw [c41]; decide) (by rw [c41]; decide) (by rw [c41]; rfl) (by decide) ?_
    refine go_msk [false, true, true] [none, some (.int a2), some (.int a3)] rfl ?_
    exact w_X12_done_215 hs σ hf
  replace hf := (if_neg c41).symm.trans hf
  by_cases c42 : (a1 : Int32) = 55
  · replace hf := (if_pos c42).symm.trans hf
    refine go_tableIn 215 dX12_done_1 (by rw [c42]; decide) (by rw [c42]; decide) (by rw [c42]; rfl) (by decide) ?_
    refine go_msk [false, true, true] [none, some (.int a2), some (.int a3)] rfl ?_
    exact w_X12_done_215 hs σ hf
  replace hf := (if_neg c42).symm.trans hf
  by_cases c43 : (a1 : Int32) = 56
  · replace hf := (if_pos c43).symm.trans hf
    refine go_tableIn 215 dX12_done_1 (by rw [c43]; decide) (by rw [c43]; decide) (by rw [c43]; rfl) (by decide) ?_
    refine go_msk [false, true, true] [none, some (.int a2), some (.int a3)] rfl ?_
    exact w_X12_done_215 hs σ hf
  replace hf := (if_neg c43).symm.trans hf
  by_cases c44 : (a1 : Int32) = 57
  · replace hf := (if_pos c44).symm.trans hf
    refine go_tableIn 215 dX12_done_1 (by rw [c44]; decide) (by rw [c44]; decide) (by rw [c44]; rfl) (by decide) ?_
    refine go_msk [false, true, true] [none, some (.int a2), some (.int a3)] rfl ?_
    exact w_X12_done_215 hs σ hf
  replace hf := (if_neg c44).symm.trans hf
  by_cases c45 : (a1 : Int32) = 58
  · replace hf := (if_pos c45).symm.trans hf
    refine go_tableIn 215 dX12_done_1 (by rw [c45]; decide) (by rw [c45]; decide) (by rw [c45]; rfl) (by decide) ?_
    refine go_msk [false, true, true] [none, some (.int a2), some (.int a3)] rfl ?_
    exact w_X12_done_215 hs σ hf
  replace hf := (if_neg c45).symm.trans hf
  by_cases c46 : (a1 : Int32) = 59
  · replace hf := (if_pos c46).symm.trans hf
    refine go_tableIn 215 dX12_done_1 (by rw [c46]; decide) (by rw [c46]; decide) (by rw [c46]; rfl) (by decide) ?_
    refine go_msk [false, true, true] [none, some (.int a2), some (.int a3)] rfl ?_
    exact w_X12_done_215 hs σ hf
  replace hf := (if_neg c46).symm.trans hf
  by_cases c47 : (a1 : Int32) = 60
  · replace hf := (if_pos c47).symm.trans hf
    refine go_tableIn 156 dX12_done_1 (by rw [c47]; decide) (by rw [c47]; decide) (by rw [c47]; rfl) (by decide) ?_
    refine go_iload_n 1 dX12_done_156 rfl rfl ?_
    refine go_iload_n 2 dX12_done_157 rfl rfl ?_
    refine go_icmp_ge 165 dX12_done_158 (by decide) (fun c48 => ?_) (fun c48 => ?_)
    · replace hf := (if_pos c48).symm.trans hf
      refine go_iconst 0 dX12_done_165 (by decide) ?_
      refine go_msk [false, false, false] [none, none, none] rfl ?_
      exact w_X12_done_166 hs 0 σ hf
    · replace hf := (if_neg c48).symm.trans hf
      refine go_iconst 1 dX12_done_161 (by decide) ?_
      refine go_goto 166 dX12_done_162 (by decide) ?_
      refine go_msk [false, false, false] [none, none, none] rfl ?_
      exact w_X12_done_166 hs 1 σ hf
  replace hf := (if_neg c47).symm.trans hf
  by_cases c49 : (a1 : Int32) = 61
  · replace hf := (if_pos c49).symm.trans hf
    refine go_tableIn 184 dX12_done_1 (by rw [c49]; decide) (by rw [c49]; decide) (by rw [c49]; rfl) (by decide) ?_
    refine go_iload_n 1 dX12_done_184 rfl rfl ?_
    refine go_iload_n 2 dX12_done_185 rfl rfl ?_
    refine go_icmp_ne 193 dX12_done_186 (by decide) (fun c50 => ?_) (fun c50 => ?_)
    · replace hf := (if_neg c50).symm.trans hf
      refine go_iconst 0 dX12_done_193 (by decide) ?_
      refine go_msk [false, false, false] [none, none, none] rfl ?_
      exact w_X12_done_194 hs 0 σ hf
    · replace hf := (if_pos c50).symm.trans hf
      refine go_iconst 1 dX12_done_189 (by decide) ?_
      refine go_goto 194 dX12_done_190 (by decide) ?_
      refine go_msk [false, false, false] [none, none, none] rfl ?_
      exact w_X12_done_194 hs 1 σ hf
  replace hf := (if_neg c49).symm.trans hf
  by_cases c51 : (a1 : Int32) = 62
  · replace hf := (if_pos c51).symm.trans hf
    refine go_tableIn 170 dX12_done_1 (by rw [c51]; decide) (by rw [c51]; decide) (by rw [c51]; rfl) (by decide) ?_
    refine go_iload_n 1 dX12_done_170 rfl rfl ?_
    refine go_iload_n 2 dX12_done_171 rfl rfl ?_
    refine go_icmp_le 179 dX12_done_172 (by decide) (fun c52 => ?_) (fun c52 => ?_)
    · replace hf := (if_pos c52).symm.trans hf
      refine go_iconst 0 dX12_done_179 (by decide) ?_
      refine go_msk [false, false, false] [none, none, none] rfl ?_
      exact w_X12_done_180 hs 0 σ hf
    · replace hf := (if_neg c52).symm.trans hf
      refine go_iconst 1 dX12_done_175 (by decide) ?_
      refine go_goto 180 dX12_done_176 (by decide) ?_
      refine go_msk [false, false, false] [none, none, none] rfl ?_
      exact w_X12_done_180 hs 1 σ hf
  replace hf := (if_neg c51).symm.trans hf
  refine go_tableOut 215 dX12_done_1 (tab_out 37 62 [37, 38, 39, 40, 41, 42, 43, 44, 45, 46, 47, 48, 49, 50, 51, 52, 53, 54, 55, 56, 57, 58, 59, 60, 61, 62] (by decide) (by simp only [List.forall_mem_cons]; exact ⟨c18, c21, c24, c25, c26, c27, c28, c29, c30, c31, c32, c35, c36, c37, c38, c39, c40, c41, c42, c43, c44, c45, c46, c47, c49, c51, by simp⟩)) (by decide) ?_
  refine go_msk [false, true, true] [none, some (.int a2), some (.int a3)] rfl ?_
  exact w_X12_done_215 hs σ hf
def f_X12_within_18 (N : Nat) (ρ : Nat → Nat → Nat) (a1 : Int32) (a2 : Int32) (s0 : Int32) (σ : St) : Option (Int32 × St) :=
  some (s0, σ)
def f_X12_within (N : Nat) (ρ : Nat → Nat → Nat) (a1 : Int32) (a2 : Int32) (σ : St) : Option (Int32 × St) :=
  if 0 ≤ (a1 : Int32) then
    if (a1 : Int32) ≤ a2 then
      f_X12_within_18 N ρ a1 a2 a1 σ
    else
      f_X12_within_18 N ρ a1 a2 a2 σ
  else
    f_X12_within_18 N ρ a1 a2 0 σ
set_option maxRecDepth 100000 in
set_option maxHeartbeats 4000000 in
theorem w_X12_within_18 {N : Nat} {Γ : SG} {ρ : Nat → Nat → Nat} (hs : Sh Γ ρ) {a1 : Int32} {a2 : Int32} {n0 : Nat} {r : Int32} {σr : St} (s0 : Int32) (σ : St) (hf : f_X12_within_18 N ρ a1 a2 s0 σ = some (r, σr)) : Go mX12_within 0 0 0 n0 (Ki Γ ρ r σr) 0 0 18 [none, none] [.int s0] (hp Γ ρ σ) := by
  unfold f_X12_within_18 at hf
  cases hf
  exact go_iret rfl dX12_within_18 (Nat.le_refl _) ⟨rfl, rfl⟩
set_option maxRecDepth 100000 in
set_option maxHeartbeats 4000000 in
theorem t_X12_within {N : Nat} {Γ : SG} {ρ : Nat → Nat → Nat} (hs : Sh Γ ρ) {a1 : Int32} {a2 : Int32} {σ : St} {r : Int32} {σr : St} (hf : f_X12_within N ρ a1 a2 σ = some (r, σr)) : Tri mX12_within 0 0 0 [.int a1, .int a2] (hp Γ ρ σ) (Ki Γ ρ r σr) := by
  unfold f_X12_within at hf
  refine tri_of [some (.int a1), some (.int a2)] (plainFor_of_name rfl) rfl (Nat.le_of_ble_eq_true rfl) ?_
  refine go_iload_n 0 dX12_within_0 rfl rfl ?_
  refine go_if_ge 8 dX12_within_1 (by decide) (fun c1 => ?_) (fun c1 => ?_)
  · replace hf := (if_pos c1).symm.trans hf
    refine go_iload_n 0 dX12_within_8 rfl rfl ?_
    refine go_iload_n 1 dX12_within_9 rfl rfl ?_
    refine go_icmp_le 17 dX12_within_10 (by decide) (fun c2 => ?_) (fun c2 => ?_)
    · replace hf := (if_pos c2).symm.trans hf
      refine go_iload_n 0 dX12_within_17 rfl rfl ?_
      refine go_msk [false, false] [none, none] rfl ?_
      exact w_X12_within_18 hs a1 σ hf
    · replace hf := (if_neg c2).symm.trans hf
      refine go_iload_n 1 dX12_within_13 rfl rfl ?_
      refine go_goto 18 dX12_within_14 (by decide) ?_
      refine go_msk [false, false] [none, none] rfl ?_
      exact w_X12_within_18 hs a2 σ hf
  · replace hf := (if_neg c1).symm.trans hf
    refine go_iconst 0 dX12_within_4 (by decide) ?_
    refine go_goto 18 dX12_within_5 (by decide) ?_
    refine go_msk [false, false] [none, none] rfl ?_
    exact w_X12_within_18 hs 0 σ hf
def f_X12_heavyOf_29 (N : Nat) (ρ : Nat → Nat → Nat) (this : Nat) (a1 : Int32) (s0 : Int32) (σ : St) : Option (Int32 × St) :=
  some (s0, σ)
def f_X12_heavyOf (N : Nat) (ρ : Nat → Nat → Nat) (this : Nat) (a1 : Int32) (σ : St) : Option (Int32 × St) :=
  gd (ib a1 6) <|
  if 0 ≤ ((σ.1 (ρ this 37) a1.toNatClampNeg) + (σ.1 this 27) : Int32) then
    gd (ib a1 6) <|
    f_X12_heavyOf_29 N ρ this a1 ((σ.1 (ρ this 37) a1.toNatClampNeg) + (σ.1 this 27)) σ
  else
    f_X12_heavyOf_29 N ρ this a1 0 σ
set_option maxRecDepth 100000 in
set_option maxHeartbeats 4000000 in
theorem w_X12_heavyOf_29 {N : Nat} {Γ : SG} {ρ : Nat → Nat → Nat} (hs : Sh Γ ρ) {this : Nat} {a1 : Int32} (h0 : Γ[this]? = some (0, 12)) {n0 : Nat} {r : Int32} {σr : St} (s0 : Int32) (σ : St) (hf : f_X12_heavyOf_29 N ρ this a1 s0 σ = some (r, σr)) : Go mX12_heavyOf 0 0 0 n0 (Ki Γ ρ r σr) 0 0 29 [none, none] [.int s0] (hp Γ ρ σ) := by
  unfold f_X12_heavyOf_29 at hf
  cases hf
  exact go_iret rfl dX12_heavyOf_29 (Nat.le_refl _) ⟨rfl, rfl⟩
set_option maxRecDepth 100000 in
set_option maxHeartbeats 4000000 in
theorem t_X12_heavyOf {N : Nat} {Γ : SG} {ρ : Nat → Nat → Nat} (hs : Sh Γ ρ) {this : Nat} {a1 : Int32} (h0 : Γ[this]? = some (0, 12)) {σ : St} {r : Int32} {σr : St} (hf : f_X12_heavyOf N ρ this a1 σ = some (r, σr)) : Tri mX12_heavyOf 0 0 0 [.ref this, .int a1] (hp Γ ρ σ) (Ki Γ ρ r σr) := by
  unfold f_X12_heavyOf at hf
  refine tri_of [some (.ref this), some (.int a1)] (plainFor_of_name rfl) rfl (Nat.le_of_ble_eq_true rfl) ?_
  refine go_aload_n 0 dX12_heavyOf_0 rfl rfl ?_
  refine go_fR fl_X12_79 dX12_heavyOf_1 h0 (by decide) rfl ?_
  refine go_iload_n 1 dX12_heavyOf_4 rfl rfl ?_
  obtain ⟨g1, hf⟩ := gd_some hf
  refine go_rI dX12_heavyOf_5 (hs.1 _ 12 37 h0 rfl) (ib_in g1) ?_
  refine go_aload_n 0 dX12_heavyOf_6 rfl rfl ?_
  refine go_fI fl_X12_333 dX12_heavyOf_7 h0 (by decide) rfl ?_
  refine go_iadd dX12_heavyOf_10 ?_
  refine go_if_ge 18 dX12_heavyOf_11 (by decide) (fun c2 => ?_) (fun c2 => ?_)
  · replace hf := (if_pos c2).symm.trans hf
    refine go_aload_n 0 dX12_heavyOf_18 rfl rfl ?_
    refine go_fR fl_X12_79 dX12_heavyOf_19 h0 (by decide) rfl ?_
    refine go_iload_n 1 dX12_heavyOf_22 rfl rfl ?_
    obtain ⟨g3, hf⟩ := gd_some hf
    refine go_rI dX12_heavyOf_23 (hs.1 _ 12 37 h0 rfl) (ib_in g3) ?_
    refine go_aload_n 0 dX12_heavyOf_24 rfl rfl ?_
    refine go_fI fl_X12_333 dX12_heavyOf_25 h0 (by decide) rfl ?_
    refine go_iadd dX12_heavyOf_28 ?_
    refine go_msk [false, false] [none, none] rfl ?_
    exact w_X12_heavyOf_29 hs h0 ((σ.1 (ρ this 37) a1.toNatClampNeg) + (σ.1 this 27)) σ hf
  · replace hf := (if_neg c2).symm.trans hf
    refine go_iconst 0 dX12_heavyOf_14 (by decide) ?_
    refine go_goto 29 dX12_heavyOf_15 (by decide) ?_
    refine go_msk [false, false] [none, none] rfl ?_
    exact w_X12_heavyOf_29 hs h0 0 σ hf
def f_X12_worked_252 (N : Nat) (ρ : Nat → Nat → Nat) (this : Nat) (a1 : Int32) (a2 : Int32) (a3 : Int32) (a4 : Int32) (a5 : Int32) (a6 : Int32) (rec88 : Int32 → Int32 → St → Option (Int32 × St)) (x7 : Int32) (x8 : Int32) (σ : St) : Option (Int32 × St) :=
  rec88 x7 (x8 + 1) σ
def f_X12_worked_164 (N : Nat) (ρ : Nat → Nat → Nat) (this : Nat) (a1 : Int32) (a2 : Int32) (a3 : Int32) (a4 : Int32) (a5 : Int32) (a6 : Int32) (rec88 : Int32 → Int32 → St → Option (Int32 × St)) (x7 : Int32) (x8 : Int32) (s0 : Int32) (s1 : Int32) (σ : St) : Option (Int32 × St) :=
  gd (ib s1 64) <|
  nmd (sI σ (ρ this 18) s1.toNatClampNeg s0) fun σ2 =>
  f_X12_worked_252 N ρ this a1 a2 a3 a4 a5 a6 rec88 (x7 + 1) x8 σ2
def f_X12_worked_126 (N : Nat) (ρ : Nat → Nat → Nat) (this : Nat) (a1 : Int32) (a2 : Int32) (a3 : Int32) (a4 : Int32) (a5 : Int32) (a6 : Int32) (rec88 : Int32 → Int32 → St → Option (Int32 × St)) (x7 : Int32) (x8 : Int32) (σ : St) : Option (Int32 × St) :=
  gd (ib x8 640) <|
  if (σ.1 (ρ this 14) x8.toNatClampNeg : Int32) = 0 then
    gd (ib x8 640) <|
    f_X12_worked_164 N ρ this a1 a2 a3 a4 a5 a6 rec88 x7 x8 (σ.1 (ρ this 15) x8.toNatClampNeg) x7 σ
  else
    gd (ib x8 640) <|
    gd (ib (σ.1 (ρ this 15) x8.toNatClampNeg) 6) <|
    f_X12_worked_164 N ρ this a1 a2 a3 a4 a5 a6 rec88 x7 x8 (σ.1 (ρ this 26) (σ.1 (ρ this 15) x8.toNatClampNeg).toNatClampNeg) x7 σ
def f_X12_worked_207 (N : Nat) (ρ : Nat → Nat → Nat) (this : Nat) (a1 : Int32) (a2 : Int32) (a3 : Int32) (a4 : Int32) (a5 : Int32) (a6 : Int32) (rec88 : Int32 → Int32 → St → Option (Int32 × St)) (x7 : Int32) (x8 : Int32) (s0 : Int32) (s1 : Int32) (σ : St) : Option (Int32 × St) :=
  bnd (f_X12_truth N ρ s0 σ) fun r8 σ9 =>
  gd (ib s1 64) <|
  nmd (sI σ9 (ρ this 18) s1.toNatClampNeg r8) fun σ12 =>
  f_X12_worked_252 N ρ this a1 a2 a3 a4 a5 a6 rec88 x7 x8 σ12
def b_X12_worked_88 (N : Nat) (ρ : Nat → Nat → Nat) (this : Nat) (a1 : Int32) (a2 : Int32) (a3 : Int32) (a4 : Int32) (a5 : Int32) (a6 : Int32) (rec88 : Int32 → Int32 → St → Option (Int32 × St)) (x7 : Int32) (x8 : Int32) (σ : St) : Option (Int32 × St) :=
  gd (ib a1 2) <|
  if ((320 * a1) + (σ.1 (ρ this 16) a1.toNatClampNeg)) ≤ (x8 : Int32) then
    gd (ib 0 64) <|
    bnd (f_X12_within N ρ (σ.1 (ρ this 18) (0 : Int32).toNatClampNeg) a6 σ) fun r16 σ17 =>
    some (r16, σ17)
  else
    gd (ib x8 640) <|
    if (σ.1 (ρ this 14) x8.toNatClampNeg : Int32) = 0 then
      f_X12_worked_126 N ρ this a1 a2 a3 a4 a5 a6 rec88 x7 x8 σ
    else
      gd (ib x8 640) <|
      if (σ.1 (ρ this 14) x8.toNatClampNeg : Int32) = 1 then
        f_X12_worked_126 N ρ this a1 a2 a3 a4 a5 a6 rec88 x7 x8 σ
      else
        gd (ib x8 640) <|
        if (σ.1 (ρ this 14) x8.toNatClampNeg : Int32) = 2 then
          gd (ib (x7 - 1) 64) <|
          if (σ.1 (ρ this 18) (x7 - 1).toNatClampNeg : Int32) = 0 then
            f_X12_worked_207 N ρ this a1 a2 a3 a4 a5 a6 rec88 x7 x8 1 (x7 - 1) σ
          else
            f_X12_worked_207 N ρ this a1 a2 a3 a4 a5 a6 rec88 x7 x8 0 (x7 - 1) σ
        else
          gd (ib x8 640) <|
          gd (ib ((x7 + (-1)) - 1) 64) <|
          gd (ib (x7 + (-1)) 64) <|
          bnd (f_X12_done N ρ (σ.1 (ρ this 15) x8.toNatClampNeg) (σ.1 (ρ this 18) ((x7 + (-1)) - 1).toNatClampNeg) (σ.1 (ρ this 18) (x7 + (-1)).toNatClampNeg) σ) fun r28 σ29 =>
          gd (ib ((x7 + (-1)) - 1) 64) <|
          nmd (sI σ29 (ρ this 18) ((x7 + (-1)) - 1).toNatClampNeg r28) fun σ32 =>
          f_X12_worked_252 N ρ this a1 a2 a3 a4 a5 a6 rec88 (x7 + (-1)) x8 σ32
def f_X12_worked_88 (N : Nat) (ρ : Nat → Nat → Nat) (this : Nat) (a1 : Int32) (a2 : Int32) (a3 : Int32) (a4 : Int32) (a5 : Int32) (a6 : Int32) : Nat → Int32 → Int32 → St → Option (Int32 × St)
  | 0, _, _, _ => none
  | n + 1, x7, x8, σ => b_X12_worked_88 N ρ this a1 a2 a3 a4 a5 a6 (f_X12_worked_88 N ρ this a1 a2 a3 a4 a5 a6 n) x7 x8 σ
def f_X12_worked (N : Nat) (ρ : Nat → Nat → Nat) (this : Nat) (a1 : Int32) (a2 : Int32) (a3 : Int32) (a4 : Int32) (a5 : Int32) (a6 : Int32) (σ : St) : Option (Int32 × St) :=
  bnd (f_X12_heavyOf N ρ this a3 σ) fun r35 σ36 =>
  gd (ib 0 6) <|
  nmd (sI σ36 (ρ this 26) (0 : Int32).toNatClampNeg r35) fun σ39 =>
  gd (ib 1 6) <|
  nmd (sI σ39 (ρ this 26) (1 : Int32).toNatClampNeg a4) fun σ41 =>
  gd (ib a3 6) <|
  gd (ib 2 6) <|
  nmd (sI σ41 (ρ this 26) (2 : Int32).toNatClampNeg (σ41.1 (ρ this 39) a3.toNatClampNeg)) fun σ44 =>
  gd (ib (5 + a2) 22) <|
  gd (ib 3 6) <|
  nmd (sI σ44 (ρ this 26) (3 : Int32).toNatClampNeg (σ44.1 (ρ this 57) (5 + a2).toNatClampNeg)) fun σ47 =>
  gd (ib a2 22) <|
  gd (ib 4 6) <|
  nmd (sI σ47 (ρ this 26) (4 : Int32).toNatClampNeg (σ47.1 (ρ this 57) a2.toNatClampNeg)) fun σ50 =>
  gd (ib 20 22) <|
  gd (ib 5 6) <|
  nmd (sI σ50 (ρ this 26) (5 : Int32).toNatClampNeg (σ50.1 (ρ this 57) (20 : Int32).toNatClampNeg)) fun σ53 =>
  gd (ib 0 64) <|
  nmd (sI σ53 (ρ this 18) (0 : Int32).toNatClampNeg a5) fun σ55 =>
  nmd (320 * a1) fun y56 =>
  f_X12_worked_88 N ρ this a1 a2 a3 a4 a5 a6 N 0 y56 σ55
set_option maxRecDepth 100000 in
set_option maxHeartbeats 4000000 in
theorem w_X12_worked_252 {N : Nat} {Γ : SG} {ρ : Nat → Nat → Nat} (hs : Sh Γ ρ) {this : Nat} {a1 : Int32} {a2 : Int32} {a3 : Int32} {a4 : Int32} {a5 : Int32} {a6 : Int32} (h0 : Γ[this]? = some (0, 12)) {n0 : Nat} {r : Int32} {σr : St} (rec88 : Int32 → Int32 → St → Option (Int32 × St)) (hrec88 : ∀ (x7 : Int32) (x8 : Int32) (σ : St), rec88 x7 x8 σ = some (r, σr) → Go mX12_worked 2 0 0 n0 (Ki Γ ρ r σr) 0 0 88 [some (.ref this), some (.int a1), none, none, none, none, some (.int a6), some (.int x7), some (.int x8)] [] (hp Γ ρ σ)) (x7 : Int32) (x8 : Int32) (σ : St) (hf : f_X12_worked_252 N ρ this a1 a2 a3 a4 a5 a6 rec88 x7 x8 σ = some (r, σr)) : Go mX12_worked 2 0 0 n0 (Ki Γ ρ r σr) 0 0 252 [some (.ref this), some (.int a1), none, none, none, none, some (.int a6), some (.int x7), some (.int x8)] [] (hp Γ ρ σ) := by
  unfold f_X12_worked_252 at hf
  refine go_iinc (x8 + 1) [some (.ref this), some (.int a1), none, none, none, none, some (.int a6), some (.int x7), some (.int (x8 + 1))] dX12_worked_252 rfl rfl (by decide) rfl ?_
  refine go_goto 88 dX12_worked_255 (by decide) ?_
  exact hrec88 x7 (x8 + 1) σ hf
set_option maxRecDepth 100000 in
set_option maxHeartbeats 4000000 in
theorem w_X12_worked_164 {N : Nat} {Γ : SG} {ρ : Nat → Nat → Nat} (hs : Sh Γ ρ) {this : Nat} {a1 : Int32} {a2 : Int32} {a3 : Int32} {a4 : Int32} {a5 : Int32} {a6 : Int32} (h0 : Γ[this]? = some (0, 12)) {n0 : Nat} {r : Int32} {σr : St} (rec88 : Int32 → Int32 → St → Option (Int32 × St)) (hrec88 : ∀ (x7 : Int32) (x8 : Int32) (σ : St), rec88 x7 x8 σ = some (r, σr) → Go mX12_worked 2 0 0 n0 (Ki Γ ρ r σr) 0 0 88 [some (.ref this), some (.int a1), none, none, none, none, some (.int a6), some (.int x7), some (.int x8)] [] (hp Γ ρ σ)) (x7 : Int32) (x8 : Int32) (s0 : Int32) (s1 : Int32) (σ : St) (hf : f_X12_worked_164 N ρ this a1 a2 a3 a4 a5 a6 rec88 x7 x8 s0 s1 σ = some (r, σr)) : Go mX12_worked 2 0 0 n0 (Ki Γ ρ r σr) 0 0 164 [some (.ref this), some (.int a1), none, none, none, none, some (.int a6), some (.int x7), some (.int x8)] [.int s0, .int s1, .ref (ρ this 18)] (hp Γ ρ σ) := by
  unfold f_X12_worked_164 at hf
  obtain ⟨g1, hf⟩ := gd_some hf
  obtain ⟨σ2, eσ2, hf⟩ := nmd_some hf
  refine go_wI dX12_worked_164 (hs.1 _ 12 18 h0 rfl) (ib_in g1) ?_
  rw [eσ2]
  refine go_iinc (x7 + 1) [some (.ref this), some (.int a1), none, none, none, none, some (.int a6), some (.int (x7 + 1)), some (.int x8)] dX12_worked_165 rfl rfl (by decide) rfl ?_
  refine go_goto 252 dX12_worked_168 (by decide) ?_
  exact w_X12_worked_252 hs h0 rec88 hrec88 (x7 + 1) x8 σ2 hf
set_option maxRecDepth 100000 in
set_option maxHeartbeats 4000000 in
theorem w_X12_worked_126 {N : Nat} {Γ : SG} {ρ : Nat → Nat → Nat} (hs : Sh Γ ρ) {this : Nat} {a1 : Int32} {a2 : Int32} {a3 : Int32} {a4 : Int32} {a5 : Int32} {a6 : Int32} (h0 : Γ[this]? = some (0, 12)) {n0 : Nat} {r : Int32} {σr : St} (rec88 : Int32 → Int32 → St → Option (Int32 × St)) (hrec88 : ∀ (x7 : Int32) (x8 : Int32) (σ : St), rec88 x7 x8 σ = some (r, σr) → Go mX12_worked 2 0 0 n0 (Ki Γ ρ r σr) 0 0 88 [some (.ref this), some (.int a1), none, none, none, none, some (.int a6), some (.int x7), some (.int x8)] [] (hp Γ ρ σ)) (x7 : Int32) (x8 : Int32) (σ : St) (hf : f_X12_worked_126 N ρ this a1 a2 a3 a4 a5 a6 rec88 x7 x8 σ = some (r, σr)) : Go mX12_worked 2 0 0 n0 (Ki Γ ρ r σr) 0 0 126 [some (.ref this), some (.int a1), none, none, none, none, some (.int a6), some (.int x7), some (.int x8)] [] (hp Γ ρ σ) := by
  unfold f_X12_worked_126 at hf
  refine go_aload_n 0 dX12_worked_126 rfl rfl ?_
  refine go_fR fl_X12_42 dX12_worked_127 h0 (by decide) rfl ?_
  refine go_iload dX12_worked_130 rfl ?_
  refine go_aload_n 0 dX12_worked_132 rfl rfl ?_
  refine go_fR fl_X12_30 dX12_worked_133 h0 (by decide) rfl ?_
  refine go_iload dX12_worked_136 rfl ?_
  obtain ⟨g3, hf⟩ := gd_some hf
  refine go_rI dX12_worked_138 (hs.1 _ 12 14 h0 rfl) (ib_in g3) ?_
  refine go_if_ne 152 dX12_worked_139 (by decide) (fun c4 => ?_) (fun c4 => ?_)
  · replace hf := (if_neg c4).symm.trans hf
    refine go_aload_n 0 dX12_worked_152 rfl rfl ?_
    refine go_fR fl_X12_49 dX12_worked_153 h0 (by decide) rfl ?_
    refine go_aload_n 0 dX12_worked_156 rfl rfl ?_
    refine go_fR fl_X12_33 dX12_worked_157 h0 (by decide) rfl ?_
    refine go_iload dX12_worked_160 rfl ?_
    obtain ⟨g5, hf⟩ := gd_some hf
    refine go_rI dX12_worked_162 (hs.1 _ 12 15 h0 rfl) (ib_in g5) ?_
    obtain ⟨g6, hf⟩ := gd_some hf
    refine go_rI dX12_worked_163 (hs.1 _ 12 26 h0 rfl) (ib_in g6) ?_
    exact w_X12_worked_164 hs h0 rec88 hrec88 x7 x8 (σ.1 (ρ this 26) (σ.1 (ρ this 15) x8.toNatClampNeg).toNatClampNeg) x7 σ hf
  · replace hf := (if_pos c4).symm.trans hf
    refine go_aload_n 0 dX12_worked_142 rfl rfl ?_
    refine go_fR fl_X12_33 dX12_worked_143 h0 (by decide) rfl ?_
    refine go_iload dX12_worked_146 rfl ?_
    obtain ⟨g7, hf⟩ := gd_some hf
    refine go_rI dX12_worked_148 (hs.1 _ 12 15 h0 rfl) (ib_in g7) ?_
    refine go_goto 164 dX12_worked_149 (by decide) ?_
    exact w_X12_worked_164 hs h0 rec88 hrec88 x7 x8 (σ.1 (ρ this 15) x8.toNatClampNeg) x7 σ hf
set_option maxRecDepth 100000 in
set_option maxHeartbeats 4000000 in
theorem w_X12_worked_207 {N : Nat} {Γ : SG} {ρ : Nat → Nat → Nat} (hs : Sh Γ ρ) {this : Nat} {a1 : Int32} {a2 : Int32} {a3 : Int32} {a4 : Int32} {a5 : Int32} {a6 : Int32} (h0 : Γ[this]? = some (0, 12)) {n0 : Nat} {r : Int32} {σr : St} (rec88 : Int32 → Int32 → St → Option (Int32 × St)) (hrec88 : ∀ (x7 : Int32) (x8 : Int32) (σ : St), rec88 x7 x8 σ = some (r, σr) → Go mX12_worked 2 0 0 n0 (Ki Γ ρ r σr) 0 0 88 [some (.ref this), some (.int a1), none, none, none, none, some (.int a6), some (.int x7), some (.int x8)] [] (hp Γ ρ σ)) (x7 : Int32) (x8 : Int32) (s0 : Int32) (s1 : Int32) (σ : St) (hf : f_X12_worked_207 N ρ this a1 a2 a3 a4 a5 a6 rec88 x7 x8 s0 s1 σ = some (r, σr)) : Go mX12_worked 2 0 0 n0 (Ki Γ ρ r σr) 0 0 207 [some (.ref this), some (.int a1), none, none, none, none, some (.int a6), some (.int x7), some (.int x8)] [.int s0, .int s1, .ref (ρ this 18)] (hp Γ ρ σ) := by
  unfold f_X12_worked_207 at hf
  obtain ⟨r8, σ9, q10, hf⟩ := bnd_some hf
  refine go_Si (av := [.int s0]) (rest := [.int s1, .ref (ρ this 18)]) (t_X12_truth hs  q10) ok_X12_truth ml_X12_329 dX12_worked_207 rfl rfl (by decide) (Nat.le_refl _) (Nat.le_refl _) (Nat.le_of_ble_eq_true rfl) ?_
  obtain ⟨g11, hf⟩ := gd_some hf
  obtain ⟨σ12, eσ12, hf⟩ := nmd_some hf
  refine go_wI dX12_worked_210 (hs.1 _ 12 18 h0 rfl) (ib_in g11) ?_
  rw [eσ12]
  refine go_goto 252 dX12_worked_211 (by decide) ?_
  exact w_X12_worked_252 hs h0 rec88 hrec88 x7 x8 σ12 hf
set_option maxRecDepth 100000 in
set_option maxHeartbeats 4000000 in
theorem v_X12_worked_88 {N : Nat} {Γ : SG} {ρ : Nat → Nat → Nat} (hs : Sh Γ ρ) {this : Nat} {a1 : Int32} {a2 : Int32} {a3 : Int32} {a4 : Int32} {a5 : Int32} {a6 : Int32} (h0 : Γ[this]? = some (0, 12)) {n0 : Nat} {r : Int32} {σr : St} (rec88 : Int32 → Int32 → St → Option (Int32 × St)) (hrec88 : ∀ (x7 : Int32) (x8 : Int32) (σ : St), rec88 x7 x8 σ = some (r, σr) → Go mX12_worked 2 0 0 n0 (Ki Γ ρ r σr) 0 0 88 [some (.ref this), some (.int a1), none, none, none, none, some (.int a6), some (.int x7), some (.int x8)] [] (hp Γ ρ σ)) (x7 : Int32) (x8 : Int32) (σ : St) (hf : b_X12_worked_88 N ρ this a1 a2 a3 a4 a5 a6 rec88 x7 x8 σ = some (r, σr)) : Go mX12_worked 2 0 0 n0 (Ki Γ ρ r σr) 0 0 88 [some (.ref this), some (.int a1), none, none, none, none, some (.int a6), some (.int x7), some (.int x8)] [] (hp Γ ρ σ) := by
  unfold b_X12_worked_88 at hf
  refine go_iload dX12_worked_88 rfl ?_
  refine go_sipush 320 dX12_worked_90 (by decide) ?_
  refine go_iload_n 1 dX12_worked_93 rfl rfl ?_
  refine go_imul dX12_worked_94 ?_
  refine go_aload_n 0 dX12_worked_95 rfl rfl ?_
  refine go_fR fl_X12_36 dX12_worked_96 h0 (by decide) rfl ?_
  refine go_iload_n 1 dX12_worked_99 rfl rfl ?_
  obtain ⟨g13, hf⟩ := gd_some hf
  refine go_rI dX12_worked_100 (hs.1 _ 12 16 h0 rfl) (ib_in g13) ?_
  refine go_iadd dX12_worked_101 ?_
  refine go_icmp_ge 258 dX12_worked_102 (by decide) (fun c14 => ?_) (fun c14 => ?_)
  · replace hf := (if_pos c14).symm.trans hf
    refine go_aload_n 0 dX12_worked_258 rfl rfl ?_
    refine go_fR fl_X12_42 dX12_worked_259 h0 (by decide) rfl ?_
    refine go_iconst 0 dX12_worked_262 (by decide) ?_
    obtain ⟨g15, hf⟩ := gd_some hf
    refine go_rI dX12_worked_263 (hs.1 _ 12 18 h0 rfl) (ib_in g15) ?_
    refine go_iload dX12_worked_264 rfl ?_
    obtain ⟨r16, σ17, q18, hf⟩ := bnd_some hf
    refine go_Si (av := [.int (σ.1 (ρ this 18) (0 : Int32).toNatClampNeg), .int a6]) (rest := []) (t_X12_within hs  q18) ok_X12_within ml_X12_343 dX12_worked_266 rfl rfl (by decide) (Nat.le_refl _) (Nat.le_refl _) (Nat.le_of_ble_eq_true rfl) ?_
    cases hf
    exact go_iret rfl dX12_worked_269 (Nat.le_refl _) ⟨rfl, rfl⟩
  · replace hf := (if_neg c14).symm.trans hf
    refine go_aload_n 0 dX12_worked_105 rfl rfl ?_
    refine go_fR fl_X12_30 dX12_worked_106 h0 (by decide) rfl ?_
    refine go_iload dX12_worked_109 rfl ?_
    obtain ⟨g19, hf⟩ := gd_some hf
    refine go_rI dX12_worked_111 (hs.1 _ 12 14 h0 rfl) (ib_in g19) ?_
    refine go_if_eq 126 dX12_worked_112 (by decide) (fun c20 => ?_) (fun c20 => ?_)
    · replace hf := (if_pos c20).symm.trans hf
      exact w_X12_worked_126 hs h0 rec88 hrec88 x7 x8 σ hf
    · replace hf := (if_neg c20).symm.trans hf
      refine go_aload_n 0 dX12_worked_115 rfl rfl ?_
      refine go_fR fl_X12_30 dX12_worked_116 h0 (by decide) rfl ?_
      refine go_iload dX12_worked_119 rfl ?_
      obtain ⟨g21, hf⟩ := gd_some hf
      refine go_rI dX12_worked_121 (hs.1 _ 12 14 h0 rfl) (ib_in g21) ?_
      refine go_iconst 1 dX12_worked_122 (by decide) ?_
      refine go_icmp_ne 171 dX12_worked_123 (by decide) (fun c22 => ?_) (fun c22 => ?_)
      · replace hf := (if_neg c22).symm.trans hf
        refine go_aload_n 0 dX12_worked_171 rfl rfl ?_
        refine go_fR fl_X12_30 dX12_worked_172 h0 (by decide) rfl ?_
        refine go_iload dX12_worked_175 rfl ?_
        obtain ⟨g23, hf⟩ := gd_some hf
        refine go_rI dX12_worked_177 (hs.1 _ 12 14 h0 rfl) (ib_in g23) ?_
        refine go_iconst 2 dX12_worked_178 (by decide) ?_
        refine go_icmp_ne 214 dX12_worked_179 (by decide) (fun c24 => ?_) (fun c24 => ?_)
        · replace hf := (if_neg c24).symm.trans hf
          refine go_iinc (x7 + (-1)) [some (.ref this), some (.int a1), none, none, none, none, some (.int a6), some (.int (x7 + (-1))), some (.int x8)] dX12_worked_214 rfl rfl (by decide) rfl ?_
          refine go_aload_n 0 dX12_worked_217 rfl rfl ?_
          refine go_fR fl_X12_42 dX12_worked_218 h0 (by decide) rfl ?_
          refine go_iload dX12_worked_221 rfl ?_
          refine go_iconst 1 dX12_worked_223 (by decide) ?_
          refine go_isub dX12_worked_224 ?_
          refine go_aload_n 0 dX12_worked_225 rfl rfl ?_
          refine go_fR fl_X12_33 dX12_worked_226 h0 (by decide) rfl ?_
          refine go_iload dX12_worked_229 rfl ?_
          obtain ⟨g25, hf⟩ := gd_some hf
          refine go_rI dX12_worked_231 (hs.1 _ 12 15 h0 rfl) (ib_in g25) ?_
          refine go_aload_n 0 dX12_worked_232 rfl rfl ?_
          refine go_fR fl_X12_42 dX12_worked_233 h0 (by decide) rfl ?_
          refine go_iload dX12_worked_236 rfl ?_
          refine go_iconst 1 dX12_worked_238 (by decide) ?_
          refine go_isub dX12_worked_239 ?_
          obtain ⟨g26, hf⟩ := gd_some hf
          refine go_rI dX12_worked_240 (hs.1 _ 12 18 h0 rfl) (ib_in g26) ?_
          refine go_aload_n 0 dX12_worked_241 rfl rfl ?_
          refine go_fR fl_X12_42 dX12_worked_242 h0 (by decide) rfl ?_
          refine go_iload dX12_worked_245 rfl ?_
          obtain ⟨g27, hf⟩ := gd_some hf
          refine go_rI dX12_worked_247 (hs.1 _ 12 18 h0 rfl) (ib_in g27) ?_
          obtain ⟨r28, σ29, q30, hf⟩ := bnd_some hf
          refine go_Si (av := [.int (σ.1 (ρ this 15) x8.toNatClampNeg), .int (σ.1 (ρ this 18) ((x7 + (-1)) - 1).toNatClampNeg), .int (σ.1 (ρ this 18) (x7 + (-1)).toNatClampNeg)]) (rest := [.int ((x7 + (-1)) - 1), .ref (ρ this 18)]) (t_X12_done hs  q30) ok_X12_done ml_X12_339 dX12_worked_248 rfl rfl (by decide) (Nat.le_refl _) (Nat.le_refl _) (Nat.le_of_ble_eq_true rfl) ?_
          obtain ⟨g31, hf⟩ := gd_some hf
          obtain ⟨σ32, eσ32, hf⟩ := nmd_some hf
          refine go_wI dX12_worked_251 (hs.1 _ 12 18 h0 rfl) (ib_in g31) ?_
          rw [eσ32]
          exact w_X12_worked_252 hs h0 rec88 hrec88 (x7 + (-1)) x8 σ32 hf
        · replace hf := (if_pos c24).symm.trans hf
          refine go_aload_n 0 dX12_worked_182 rfl rfl ?_
          refine go_fR fl_X12_42 dX12_worked_183 h0 (by decide) rfl ?_
          refine go_iload dX12_worked_186 rfl ?_
          refine go_iconst 1 dX12_worked_188 (by decide) ?_
          refine go_isub dX12_worked_189 ?_
          refine go_aload_n 0 dX12_worked_190 rfl rfl ?_
          refine go_fR fl_X12_42 dX12_worked_191 h0 (by decide) rfl ?_
          refine go_iload dX12_worked_194 rfl ?_
          refine go_iconst 1 dX12_worked_196 (by decide) ?_
          refine go_isub dX12_worked_197 ?_
          obtain ⟨g33, hf⟩ := gd_some hf
          refine go_rI dX12_worked_198 (hs.1 _ 12 18 h0 rfl) (ib_in g33) ?_
          refine go_if_ne 206 dX12_worked_199 (by decide) (fun c34 => ?_) (fun c34 => ?_)
          · replace hf := (if_neg c34).symm.trans hf
            refine go_iconst 0 dX12_worked_206 (by decide) ?_
            exact w_X12_worked_207 hs h0 rec88 hrec88 x7 x8 0 (x7 - 1) σ hf
          · replace hf := (if_pos c34).symm.trans hf
            refine go_iconst 1 dX12_worked_202 (by decide) ?_
            refine go_goto 207 dX12_worked_203 (by decide) ?_
            exact w_X12_worked_207 hs h0 rec88 hrec88 x7 x8 1 (x7 - 1) σ hf
      · replace hf := (if_pos c22).symm.trans hf
        exact w_X12_worked_126 hs h0 rec88 hrec88 x7 x8 σ hf
theorem w_X12_worked_88 {N : Nat} {Γ : SG} {ρ : Nat → Nat → Nat} (hs : Sh Γ ρ) {this : Nat} {a1 : Int32} {a2 : Int32} {a3 : Int32} {a4 : Int32} {a5 : Int32} {a6 : Int32} (h0 : Γ[this]? = some (0, 12)) {n0 : Nat} {r : Int32} {σr : St} : ∀ (n : Nat) (x7 : Int32) (x8 : Int32) (σ : St), f_X12_worked_88 N ρ this a1 a2 a3 a4 a5 a6 n x7 x8 σ = some (r, σr) → Go mX12_worked 2 0 0 n0 (Ki Γ ρ r σr) 0 0 88 [some (.ref this), some (.int a1), none, none, none, none, some (.int a6), some (.int x7), some (.int x8)] [] (hp Γ ρ σ) := by
  intro n
  induction n with
  | zero => intro x7 x8 σ hf; cases hf
  | succ n ih => intro x7 x8 σ hf; exact v_X12_worked_88 hs h0 _ ih x7 x8 σ hf
set_option maxRecDepth 100000 in
set_option maxHeartbeats 4000000 in
theorem t_X12_worked {N : Nat} {Γ : SG} {ρ : Nat → Nat → Nat} (hs : Sh Γ ρ) {this : Nat} {a1 : Int32} {a2 : Int32} {a3 : Int32} {a4 : Int32} {a5 : Int32} {a6 : Int32} (h0 : Γ[this]? = some (0, 12)) {σ : St} {r : Int32} {σr : St} (hf : f_X12_worked N ρ this a1 a2 a3 a4 a5 a6 σ = some (r, σr)) : Tri mX12_worked 2 0 0 [.ref this, .int a1, .int a2, .int a3, .int a4, .int a5, .int a6] (hp Γ ρ σ) (Ki Γ ρ r σr) := by
  unfold f_X12_worked at hf
  refine tri_of [some (.ref this), some (.int a1), some (.int a2), some (.int a3), some (.int a4), some (.int a5), some (.int a6), none, none] (plainFor_of_name rfl) rfl (Nat.le_of_ble_eq_true rfl) ?_
  refine go_aload_n 0 dX12_worked_0 rfl rfl ?_
  refine go_fR fl_X12_49 dX12_worked_1 h0 (by decide) rfl ?_
  refine go_iconst 0 dX12_worked_4 (by decide) ?_
  refine go_aload_n 0 dX12_worked_5 rfl rfl ?_
  refine go_iload_n 3 dX12_worked_6 rfl rfl ?_
  obtain ⟨r35, σ36, q37, hf⟩ := bnd_some hf
  refine go_Vi (av := [.int a3]) (rest := [.int 0, .ref (ρ this 26)]) (t_X12_heavyOf hs h0 q37) ok_X12_heavyOf ml_X12_336 dX12_worked_7 h0 rfl rfl (by decide) (Nat.le_refl _) (Nat.le_refl _) (Nat.le_of_ble_eq_true rfl) ?_
  obtain ⟨g38, hf⟩ := gd_some hf
  obtain ⟨σ39, eσ39, hf⟩ := nmd_some hf
  refine go_wI dX12_worked_10 (hs.1 _ 12 26 h0 rfl) (ib_in g38) ?_
  rw [eσ39]
  refine go_aload_n 0 dX12_worked_11 rfl rfl ?_
  refine go_fR fl_X12_49 dX12_worked_12 h0 (by decide) rfl ?_
  refine go_iconst 1 dX12_worked_15 (by decide) ?_
  refine go_iload dX12_worked_16 rfl ?_
  obtain ⟨g40, hf⟩ := gd_some hf
  obtain ⟨σ41, eσ41, hf⟩ := nmd_some hf
  refine go_wI dX12_worked_18 (hs.1 _ 12 26 h0 rfl) (ib_in g40) ?_
  rw [eσ41]
  refine go_aload_n 0 dX12_worked_19 rfl rfl ?_
  refine go_fR fl_X12_49 dX12_worked_20 h0 (by decide) rfl ?_
  refine go_iconst 2 dX12_worked_23 (by decide) ?_
  refine go_aload_n 0 dX12_worked_24 rfl rfl ?_
  refine go_fR fl_X12_85 dX12_worked_25 h0 (by decide) rfl ?_
  refine go_iload_n 3 dX12_worked_28 rfl rfl ?_
  obtain ⟨g42, hf⟩ := gd_some hf
  refine go_rI dX12_worked_29 (hs.1 _ 12 39 h0 rfl) (ib_in g42) ?_
  obtain ⟨g43, hf⟩ := gd_some hf
  obtain ⟨σ44, eσ44, hf⟩ := nmd_some hf
  refine go_wI dX12_worked_30 (hs.1 _ 12 26 h0 rfl) (ib_in g43) ?_
  rw [eσ44]
  refine go_aload_n 0 dX12_worked_31 rfl rfl ?_
  refine go_fR fl_X12_49 dX12_worked_32 h0 (by decide) rfl ?_
  refine go_iconst 3 dX12_worked_35 (by decide) ?_
  refine go_aload_n 0 dX12_worked_36 rfl rfl ?_
  refine go_fR fl_X12_106 dX12_worked_37 h0 (by decide) rfl ?_
  refine go_iconst 5 dX12_worked_40 (by decide) ?_
  refine go_iload_n 2 dX12_worked_41 rfl rfl ?_
  refine go_iadd dX12_worked_42 ?_
  obtain ⟨g45, hf⟩ := gd_some hf
  refine go_rI dX12_worked_43 (hs.1 _ 12 57 h0 rfl) (ib_in g45) ?_
  obtain ⟨g46, hf⟩ := gd_some hf
  obtain ⟨σ47, eσ47, hf⟩ := nmd_some hf
  refine go_wI dX12_worked_44 (hs.1 _ 12 26 h0 rfl) (ib_in g46) ?_
  rw [eσ47]
  refine go_aload_n 0 dX12_worked_45 rfl rfl ?_
  refine go_fR fl_X12_49 dX12_worked_46 h0 (by decide) rfl ?_
  refine go_iconst 4 dX12_worked_49 (by decide) ?_
  refine go_aload_n 0 dX12_worked_50 rfl rfl ?_
  refine go_fR fl_X12_106 dX12_worked_51 h0 (by decide) rfl ?_
  refine go_iload_n 2 dX12_worked_54 rfl rfl ?_
  obtain ⟨g48, hf⟩ := gd_some hf
  refine go_rI dX12_worked_55 (hs.1 _ 12 57 h0 rfl) (ib_in g48) ?_
  obtain ⟨g49, hf⟩ := gd_some hf
  obtain ⟨σ50, eσ50, hf⟩ := nmd_some hf
  refine go_wI dX12_worked_56 (hs.1 _ 12 26 h0 rfl) (ib_in g49) ?_
  rw [eσ50]
  refine go_aload_n 0 dX12_worked_57 rfl rfl ?_
  refine go_fR fl_X12_49 dX12_worked_58 h0 (by decide) rfl ?_
  refine go_iconst 5 dX12_worked_61 (by decide) ?_
  refine go_aload_n 0 dX12_worked_62 rfl rfl ?_
  refine go_fR fl_X12_106 dX12_worked_63 h0 (by decide) rfl ?_
  refine go_bipush 20 dX12_worked_66 (by decide) ?_
  obtain ⟨g51, hf⟩ := gd_some hf
  refine go_rI dX12_worked_68 (hs.1 _ 12 57 h0 rfl) (ib_in g51) ?_
  obtain ⟨g52, hf⟩ := gd_some hf
  obtain ⟨σ53, eσ53, hf⟩ := nmd_some hf
  refine go_wI dX12_worked_69 (hs.1 _ 12 26 h0 rfl) (ib_in g52) ?_
  rw [eσ53]
  refine go_iconst 0 dX12_worked_70 (by decide) ?_
  refine go_istore [some (.ref this), some (.int a1), some (.int a2), some (.int a3), some (.int a4), some (.int a5), some (.int a6), some (.int 0), none] dX12_worked_71 (by decide) rfl ?_
  refine go_aload_n 0 dX12_worked_73 rfl rfl ?_
  refine go_fR fl_X12_42 dX12_worked_74 h0 (by decide) rfl ?_
  refine go_iconst 0 dX12_worked_77 (by decide) ?_
  refine go_iload dX12_worked_78 rfl ?_
  obtain ⟨g54, hf⟩ := gd_some hf
  obtain ⟨σ55, eσ55, hf⟩ := nmd_some hf
  refine go_wI dX12_worked_80 (hs.1 _ 12 18 h0 rfl) (ib_in g54) ?_
  rw [eσ55]
  refine go_sipush 320 dX12_worked_81 (by decide) ?_
  refine go_iload_n 1 dX12_worked_84 rfl rfl ?_
  refine go_imul dX12_worked_85 ?_
  obtain ⟨y56, ey56, hf⟩ := nmd_some hf
  refine go_nm ey56 ?_
  refine go_istore [some (.ref this), some (.int a1), some (.int a2), some (.int a3), some (.int a4), some (.int a5), some (.int a6), some (.int 0), some (.int y56)] dX12_worked_86 (by decide) rfl ?_
  refine go_msk [true, true, false, false, false, false, true, true, true] [some (.ref this), some (.int a1), none, none, none, none, some (.int a6), some (.int 0), some (.int y56)] rfl ?_
  exact w_X12_worked_88 hs h0 N 0 y56 σ55 hf
def f_X12_readHearth_94 (N : Nat) (ρ : Nat → Nat → Nat) (this : Nat) (σ : St) : Option (Int32 × St) :=
  some (0, σ)
def f_X12_readHearth (N : Nat) (ρ : Nat → Nat → Nat) (this : Nat) (σ : St) : Option (Int32 × St) :=
  bnd (f_X12_newName N ρ this 0 (σ.1 this 44) σ) fun _ σ2 =>
  nmd (σ2.1 this 44) fun y4 =>
  bnd (f_X12_told N ρ this (24948) 0 99 σ2) fun r5 σ6 =>
  gd (ib y4 6) <|
  nmd (sI σ6 (ρ this 28) y4.toNatClampNeg r5) fun σ9 =>
  bnd (f_X12_told N ρ this (448377484921) 0 99 σ9) fun r10 σ11 =>
  gd (ib y4 6) <|
  nmd (sI σ11 (ρ this 29) y4.toNatClampNeg r10) fun σ14 =>
  bnd (f_X12_option N ρ this (1919905645) 1 5 σ14) fun r15 σ16 =>
  gd (ib y4 6) <|
  nmd (sI σ16 (ρ this 30) y4.toNatClampNeg r15) fun σ19 =>
  bnd (f_X12_option N ρ this (2002874989) 0 9 σ19) fun r20 σ21 =>
  gd (ib y4 6) <|
  nmd (sI σ21 (ρ this 31) y4.toNatClampNeg r20) fun σ24 =>
  if (σ24.1 this 2 : Int32) = 0 then
    nmd (sI σ24 this 44 ((σ24.1 this 44) + 1)) fun σ26 =>
    f_X12_readHearth_94 N ρ this σ26
  else
    f_X12_readHearth_94 N ρ this σ24
set_option maxRecDepth 100000 in
set_option maxHeartbeats 4000000 in
theorem w_X12_readHearth_94 {N : Nat} {Γ : SG} {ρ : Nat → Nat → Nat} (hs : Sh Γ ρ) {this : Nat} (h0 : Γ[this]? = some (0, 12)) {n0 : Nat} {r : Int32} {σr : St} (σ : St) (hf : f_X12_readHearth_94 N ρ this σ = some (r, σr)) : Go mX12_readHearth 5 0 0 n0 (Kv Γ ρ σr) 0 0 94 [none, none] [] (hp Γ ρ σ) := by
  unfold f_X12_readHearth_94 at hf
  cases hf
  exact go_vret rfl dX12_readHearth_94 (Nat.le_refl _) ⟨rfl, rfl⟩
set_option maxRecDepth 100000 in
set_option maxHeartbeats 4000000 in
theorem t_X12_readHearth {N : Nat} {Γ : SG} {ρ : Nat → Nat → Nat} (hs : Sh Γ ρ) {this : Nat} (h0 : Γ[this]? = some (0, 12)) {σ : St} {r : Int32} {σr : St} (hf : f_X12_readHearth N ρ this σ = some (r, σr)) : Tri mX12_readHearth 5 0 0 [.ref this] (hp Γ ρ σ) (Kv Γ ρ σr) := by
  unfold f_X12_readHearth at hf
  refine tri_of [some (.ref this), none] (plainFor_of_name rfl) rfl (Nat.le_of_ble_eq_true rfl) ?_
  refine go_aload_n 0 dX12_readHearth_0 rfl rfl ?_
  refine go_iconst 0 dX12_readHearth_1 (by decide) ?_
  refine go_aload_n 0 dX12_readHearth_2 rfl rfl ?_
  refine go_fI fl_X12_346 dX12_readHearth_3 h0 (by decide) rfl ?_
  obtain ⟨r1, σ2, q3, hf⟩ := bnd_some hf
  refine go_Vv (av := [.int 0, .int (σ.1 this 44)]) (rest := []) (t_X12_newName hs h0 q3) ok_X12_newName ml_X12_349 dX12_readHearth_6 h0 rfl rfl (by decide) (Nat.le_refl _) (Nat.le_refl _) (Nat.le_of_ble_eq_true rfl) ?_
  refine go_aload_n 0 dX12_readHearth_9 rfl rfl ?_
  refine go_fI fl_X12_346 dX12_readHearth_10 h0 (by decide) rfl ?_
  obtain ⟨y4, ey4, hf⟩ := nmd_some hf
  refine go_nm ey4 ?_
  refine go_istore_n 1 [some (.ref this), some (.int y4)] dX12_readHearth_13 rfl (by decide) rfl ?_
  refine go_aload_n 0 dX12_readHearth_14 rfl rfl ?_
  refine go_fR fl_X12_52 dX12_readHearth_15 h0 (by decide) rfl ?_
  refine go_iload_n 1 dX12_readHearth_18 rfl rfl ?_
  refine go_aload_n 0 dX12_readHearth_19 rfl rfl ?_
  refine go_ldc2 (24948) dX12_readHearth_20 cn_X12_211 ?_
  refine go_iconst 0 dX12_readHearth_23 (by decide) ?_
  refine go_bipush 99 dX12_readHearth_24 (by decide) ?_
  obtain ⟨r5, σ6, q7, hf⟩ := bnd_some hf
  refine go_Vi (av := [.long (24948), .int 0, .int 99]) (rest := [.int y4, .ref (ρ this 28)]) (t_X12_told hs h0 q7) ok_X12_told ml_X12_269 dX12_readHearth_26 h0 rfl rfl (by decide) (Nat.le_refl _) (Nat.le_refl _) (Nat.le_of_ble_eq_true rfl) ?_
  obtain ⟨g8, hf⟩ := gd_some hf
  obtain ⟨σ9, eσ9, hf⟩ := nmd_some hf
  refine go_wI dX12_readHearth_29 (hs.1 _ 12 28 h0 rfl) (ib_in g8) ?_
  rw [eσ9]
  refine go_aload_n 0 dX12_readHearth_30 rfl rfl ?_
  refine go_fR fl_X12_55 dX12_readHearth_31 h0 (by decide) rfl ?_
  refine go_iload_n 1 dX12_readHearth_34 rfl rfl ?_
  refine go_aload_n 0 dX12_readHearth_35 rfl rfl ?_
  refine go_ldc2 (448377484921) dX12_readHearth_36 cn_X12_213 ?_
  refine go_iconst 0 dX12_readHearth_39 (by decide) ?_
  refine go_bipush 99 dX12_readHearth_40 (by decide) ?_
  obtain ⟨r10, σ11, q12, hf⟩ := bnd_some hf
  refine go_Vi (av := [.long (448377484921), .int 0, .int 99]) (rest := [.int y4, .ref (ρ this 29)]) (t_X12_told hs h0 q12) ok_X12_told ml_X12_269 dX12_readHearth_42 h0 rfl rfl (by decide) (Nat.le_refl _) (Nat.le_refl _) (Nat.le_of_ble_eq_true rfl) ?_
  obtain ⟨g13, hf⟩ := gd_some hf
  obtain ⟨σ14, eσ14, hf⟩ := nmd_some hf
  refine go_wI dX12_readHearth_45 (hs.1 _ 12 29 h0 rfl) (ib_in g13) ?_
  rw [eσ14]
  refine go_aload_n 0 dX12_readHearth_46 rfl rfl ?_
  refine go_fR fl_X12_58 dX12_readHearth_47 h0 (by decide) rfl ?_
  refine go_iload_n 1 dX12_readHearth_50 rfl rfl ?_
  refine go_aload_n 0 dX12_readHearth_51 rfl rfl ?_
  refine go_ldc2 (1919905645) dX12_readHearth_52 cn_X12_215 ?_
  refine go_iconst 1 dX12_readHearth_55 (by decide) ?_
  refine go_iconst 5 dX12_readHearth_56 (by decide) ?_
  obtain ⟨r15, σ16, q17, hf⟩ := bnd_some hf
  refine go_Vi (av := [.long (1919905645), .int 1, .int 5]) (rest := [.int y4, .ref (ρ this 30)]) (t_X12_option hs h0 q17) ok_X12_option ml_X12_352 dX12_readHearth_57 h0 rfl rfl (by decide) (Nat.le_refl _) (Nat.le_refl _) (Nat.le_of_ble_eq_true rfl) ?_
  obtain ⟨g18, hf⟩ := gd_some hf
  obtain ⟨σ19, eσ19, hf⟩ := nmd_some hf
  refine go_wI dX12_readHearth_60 (hs.1 _ 12 30 h0 rfl) (ib_in g18) ?_
  rw [eσ19]
  refine go_aload_n 0 dX12_readHearth_61 rfl rfl ?_
  refine go_fR fl_X12_61 dX12_readHearth_62 h0 (by decide) rfl ?_
  refine go_iload_n 1 dX12_readHearth_65 rfl rfl ?_
  refine go_aload_n 0 dX12_readHearth_66 rfl rfl ?_
  refine go_ldc2 (2002874989) dX12_readHearth_67 cn_X12_217 ?_
  refine go_iconst 0 dX12_readHearth_70 (by decide) ?_
  refine go_bipush 9 dX12_readHearth_71 (by decide) ?_
  obtain ⟨r20, σ21, q22, hf⟩ := bnd_some hf
  refine go_Vi (av := [.long (2002874989), .int 0, .int 9]) (rest := [.int y4, .ref (ρ this 31)]) (t_X12_option hs h0 q22) ok_X12_option ml_X12_352 dX12_readHearth_73 h0 rfl rfl (by decide) (Nat.le_refl _) (Nat.le_refl _) (Nat.le_of_ble_eq_true rfl) ?_
  obtain ⟨g23, hf⟩ := gd_some hf
  obtain ⟨σ24, eσ24, hf⟩ := nmd_some hf
  refine go_wI dX12_readHearth_76 (hs.1 _ 12 31 h0 rfl) (ib_in g23) ?_
  rw [eσ24]
  refine go_aload_n 0 dX12_readHearth_77 rfl rfl ?_
  refine go_fI fl_X12_206 dX12_readHearth_78 h0 (by decide) rfl ?_
  refine go_if_ne 94 dX12_readHearth_81 (by decide) (fun c25 => ?_) (fun c25 => ?_)
  · replace hf := (if_neg c25).symm.trans hf
    refine go_msk [false, false] [none, none] rfl ?_
    exact w_X12_readHearth_94 hs h0 σ24 hf
  · replace hf := (if_pos c25).symm.trans hf
    refine go_aload_n 0 dX12_readHearth_84 rfl rfl ?_
    refine go_dup dX12_readHearth_85 rfl ?_
    refine go_fI fl_X12_346 dX12_readHearth_86 h0 (by decide) rfl ?_
    refine go_iconst 1 dX12_readHearth_89 (by decide) ?_
    refine go_iadd dX12_readHearth_90 ?_
    obtain ⟨σ26, eσ26, hf⟩ := nmd_some hf
    refine go_pI fl_X12_346 ft_12_44 (okv_i _) dX12_readHearth_91 h0 (by decide) rfl ?_
    rw [eσ26]
    refine go_msk [false, false] [none, none] rfl ?_
    exact w_X12_readHearth_94 hs h0 σ26 hf
def f_X12_readStool_95 (N : Nat) (ρ : Nat → Nat → Nat) (this : Nat) (σ : St) : Option (Int32 × St) :=
  some (0, σ)
def f_X12_readStool (N : Nat) (ρ : Nat → Nat → Nat) (this : Nat) (σ : St) : Option (Int32 × St) :=
  bnd (f_X12_newName N ρ this 6 (σ.1 this 45) σ) fun _ σ2 =>
  nmd (σ2.1 this 45) fun y4 =>
  bnd (f_X12_told N ρ this (24948) 0 99 σ2) fun r5 σ6 =>
  gd (ib y4 5) <|
  nmd (sI σ6 (ρ this 32) y4.toNatClampNeg r5) fun σ9 =>
  bnd (f_X12_told N ρ this (126943973305959) 0 99 σ9) fun r10 σ11 =>
  gd (ib y4 5) <|
  nmd (sI σ11 (ρ this 33) y4.toNatClampNeg r10) fun σ14 =>
  bnd (f_X12_option N ρ this (427121010020) 0 3 σ14) fun r15 σ16 =>
  gd (ib y4 5) <|
  nmd (sI σ16 (ρ this 34) y4.toNatClampNeg r15) fun σ19 =>
  bnd (f_X12_option N ρ this (1684369012) 0 99 σ19) fun r20 σ21 =>
  gd (ib y4 5) <|
  nmd (sI σ21 (ρ this 35) y4.toNatClampNeg r20) fun σ24 =>
  if (σ24.1 this 2 : Int32) = 0 then
    nmd (sI σ24 this 45 ((σ24.1 this 45) + 1)) fun σ26 =>
    f_X12_readStool_95 N ρ this σ26
  else
    f_X12_readStool_95 N ρ this σ24
set_option maxRecDepth 100000 in
set_option maxHeartbeats 4000000 in
theorem w_X12_readStool_95 {N : Nat} {Γ : SG} {ρ : Nat → Nat → Nat} (hs : Sh Γ ρ) {this : Nat} (h0 : Γ[this]? = some (0, 12)) {n0 : Nat} {r : Int32} {σr : St} (σ : St) (hf : f_X12_readStool_95 N ρ this σ = some (r, σr)) : Go mX12_readStool 5 0 0 n0 (Kv Γ ρ σr) 0 0 95 [none, none] [] (hp Γ ρ σ) := by
  unfold f_X12_readStool_95 at hf
  cases hf
  exact go_vret rfl dX12_readStool_95 (Nat.le_refl _) ⟨rfl, rfl⟩
set_option maxRecDepth 100000 in
set_option maxHeartbeats 4000000 in
theorem t_X12_readStool {N : Nat} {Γ : SG} {ρ : Nat → Nat → Nat} (hs : Sh Γ ρ) {this : Nat} (h0 : Γ[this]? = some (0, 12)) {σ : St} {r : Int32} {σr : St} (hf : f_X12_readStool N ρ this σ = some (r, σr)) : Tri mX12_readStool 5 0 0 [.ref this] (hp Γ ρ σ) (Kv Γ ρ σr) := by
  unfold f_X12_readStool at hf
  refine tri_of [some (.ref this), none] (plainFor_of_name rfl) rfl (Nat.le_of_ble_eq_true rfl) ?_
  refine go_aload_n 0 dX12_readStool_0 rfl rfl ?_
  refine go_bipush 6 dX12_readStool_1 (by decide) ?_
  refine go_aload_n 0 dX12_readStool_3 rfl rfl ?_
  refine go_fI fl_X12_355 dX12_readStool_4 h0 (by decide) rfl ?_
  obtain ⟨r1, σ2, q3, hf⟩ := bnd_some hf
  refine go_Vv (av := [.int 6, .int (σ.1 this 45)]) (rest := []) (t_X12_newName hs h0 q3) ok_X12_newName ml_X12_349 dX12_readStool_7 h0 rfl rfl (by decide) (Nat.le_refl _) (Nat.le_refl _) (Nat.le_of_ble_eq_true rfl) ?_
  refine go_aload_n 0 dX12_readStool_10 rfl rfl ?_
  refine go_fI fl_X12_355 dX12_readStool_11 h0 (by decide) rfl ?_
  obtain ⟨y4, ey4, hf⟩ := nmd_some hf
  refine go_nm ey4 ?_
  refine go_istore_n 1 [some (.ref this), some (.int y4)] dX12_readStool_14 rfl (by decide) rfl ?_
  refine go_aload_n 0 dX12_readStool_15 rfl rfl ?_
  refine go_fR fl_X12_64 dX12_readStool_16 h0 (by decide) rfl ?_
  refine go_iload_n 1 dX12_readStool_19 rfl rfl ?_
  refine go_aload_n 0 dX12_readStool_20 rfl rfl ?_
  refine go_ldc2 (24948) dX12_readStool_21 cn_X12_211 ?_
  refine go_iconst 0 dX12_readStool_24 (by decide) ?_
  refine go_bipush 99 dX12_readStool_25 (by decide) ?_
  obtain ⟨r5, σ6, q7, hf⟩ := bnd_some hf
  refine go_Vi (av := [.long (24948), .int 0, .int 99]) (rest := [.int y4, .ref (ρ this 32)]) (t_X12_told hs h0 q7) ok_X12_told ml_X12_269 dX12_readStool_27 h0 rfl rfl (by decide) (Nat.le_refl _) (Nat.le_refl _) (Nat.le_of_ble_eq_true rfl) ?_
  obtain ⟨g8, hf⟩ := gd_some hf
  obtain ⟨σ9, eσ9, hf⟩ := nmd_some hf
  refine go_wI dX12_readStool_30 (hs.1 _ 12 32 h0 rfl) (ib_in g8) ?_
  rw [eσ9]
  refine go_aload_n 0 dX12_readStool_31 rfl rfl ?_
  refine go_fR fl_X12_67 dX12_readStool_32 h0 (by decide) rfl ?_
  refine go_iload_n 1 dX12_readStool_35 rfl rfl ?_
  refine go_aload_n 0 dX12_readStool_36 rfl rfl ?_
  refine go_ldc2 (126943973305959) dX12_readStool_37 cn_X12_221 ?_
  refine go_iconst 0 dX12_readStool_40 (by decide) ?_
  refine go_bipush 99 dX12_readStool_41 (by decide) ?_
  obtain ⟨r10, σ11, q12, hf⟩ := bnd_some hf
  refine go_Vi (av := [.long (126943973305959), .int 0, .int 99]) (rest := [.int y4, .ref (ρ this 33)]) (t_X12_told hs h0 q12) ok_X12_told ml_X12_269 dX12_readStool_43 h0 rfl rfl (by decide) (Nat.le_refl _) (Nat.le_refl _) (Nat.le_of_ble_eq_true rfl) ?_
  obtain ⟨g13, hf⟩ := gd_some hf
  obtain ⟨σ14, eσ14, hf⟩ := nmd_some hf
  refine go_wI dX12_readStool_46 (hs.1 _ 12 33 h0 rfl) (ib_in g13) ?_
  rw [eσ14]
  refine go_aload_n 0 dX12_readStool_47 rfl rfl ?_
  refine go_fR fl_X12_70 dX12_readStool_48 h0 (by decide) rfl ?_
  refine go_iload_n 1 dX12_readStool_51 rfl rfl ?_
  refine go_aload_n 0 dX12_readStool_52 rfl rfl ?_
  refine go_ldc2 (427121010020) dX12_readStool_53 cn_X12_223 ?_
  refine go_iconst 0 dX12_readStool_56 (by decide) ?_
  refine go_iconst 3 dX12_readStool_57 (by decide) ?_
  obtain ⟨r15, σ16, q17, hf⟩ := bnd_some hf
  refine go_Vi (av := [.long (427121010020), .int 0, .int 3]) (rest := [.int y4, .ref (ρ this 34)]) (t_X12_option hs h0 q17) ok_X12_option ml_X12_352 dX12_readStool_58 h0 rfl rfl (by decide) (Nat.le_refl _) (Nat.le_refl _) (Nat.le_of_ble_eq_true rfl) ?_
  obtain ⟨g18, hf⟩ := gd_some hf
  obtain ⟨σ19, eσ19, hf⟩ := nmd_some hf
  refine go_wI dX12_readStool_61 (hs.1 _ 12 34 h0 rfl) (ib_in g18) ?_
  rw [eσ19]
  refine go_aload_n 0 dX12_readStool_62 rfl rfl ?_
  refine go_fR fl_X12_73 dX12_readStool_63 h0 (by decide) rfl ?_
  refine go_iload_n 1 dX12_readStool_66 rfl rfl ?_
  refine go_aload_n 0 dX12_readStool_67 rfl rfl ?_
  refine go_ldc2 (1684369012) dX12_readStool_68 cn_X12_225 ?_
  refine go_iconst 0 dX12_readStool_71 (by decide) ?_
  refine go_bipush 99 dX12_readStool_72 (by decide) ?_
  obtain ⟨r20, σ21, q22, hf⟩ := bnd_some hf
  refine go_Vi (av := [.long (1684369012), .int 0, .int 99]) (rest := [.int y4, .ref (ρ this 35)]) (t_X12_option hs h0 q22) ok_X12_option ml_X12_352 dX12_readStool_74 h0 rfl rfl (by decide) (Nat.le_refl _) (Nat.le_refl _) (Nat.le_of_ble_eq_true rfl) ?_
  obtain ⟨g23, hf⟩ := gd_some hf
  obtain ⟨σ24, eσ24, hf⟩ := nmd_some hf
  refine go_wI dX12_readStool_77 (hs.1 _ 12 35 h0 rfl) (ib_in g23) ?_
  rw [eσ24]
  refine go_aload_n 0 dX12_readStool_78 rfl rfl ?_
  refine go_fI fl_X12_206 dX12_readStool_79 h0 (by decide) rfl ?_
  refine go_if_ne 95 dX12_readStool_82 (by decide) (fun c25 => ?_) (fun c25 => ?_)
  · replace hf := (if_neg c25).symm.trans hf
    refine go_msk [false, false] [none, none] rfl ?_
    exact w_X12_readStool_95 hs h0 σ24 hf
  · replace hf := (if_pos c25).symm.trans hf
    refine go_aload_n 0 dX12_readStool_85 rfl rfl ?_
    refine go_dup dX12_readStool_86 rfl ?_
    refine go_fI fl_X12_355 dX12_readStool_87 h0 (by decide) rfl ?_
    refine go_iconst 1 dX12_readStool_90 (by decide) ?_
    refine go_iadd dX12_readStool_91 ?_
    obtain ⟨σ26, eσ26, hf⟩ := nmd_some hf
    refine go_pI fl_X12_355 ft_12_45 (okv_i _) dX12_readStool_92 h0 (by decide) rfl ?_
    rw [eσ26]
    refine go_msk [false, false] [none, none] rfl ?_
    exact w_X12_readStool_95 hs h0 σ26 hf
def f_X12_readLine_260 (N : Nat) (ρ : Nat → Nat → Nat) (this : Nat) (σ : St) : Option (Int32 × St) :=
  some (0, σ)
def f_X12_readLine_249 (N : Nat) (ρ : Nat → Nat → Nat) (this : Nat) (σ : St) : Option (Int32 × St) :=
  if (σ.1 this 2 : Int32) = 0 then
    bnd (f_X12_token N ρ this σ) fun _ σ3 =>
    f_X12_readLine_260 N ρ this σ3
  else
    f_X12_readLine_260 N ρ this σ
def f_X12_readLine_228 (N : Nat) (ρ : Nat → Nat → Nat) (this : Nat) (σ : St) : Option (Int32 × St) :=
  if (σ.1 this 2 : Int32) = 0 then
    if (σ.1 this 6 : Int32) = 59 then
      f_X12_readLine_249 N ρ this σ
    else
      bnd (f_X12_wrong N ρ this 2 σ) fun _ σ8 =>
      f_X12_readLine_249 N ρ this σ8
  else
    f_X12_readLine_249 N ρ this σ
def f_X12_readLine_223 (N : Nat) (ρ : Nat → Nat → Nat) (this : Nat) (σ : St) : Option (Int32 × St) :=
  bnd (f_X12_wrong N ρ this 2 σ) fun _ σ11 =>
  f_X12_readLine_228 N ρ this σ11
def f_X12_readLine_183 (N : Nat) (ρ : Nat → Nat → Nat) (this : Nat) (σ : St) : Option (Int32 × St) :=
  bnd (f_X12_isWord N ρ this (1685217655) σ) fun r13 σ14 =>
  if (r13 : Int32) = 0 then
    f_X12_readLine_223 N ρ this σ14
  else
    if (σ14.1 this 55 : Int32) = 0 then
      nmd (sI σ14 this 55 1) fun σ18 =>
      bnd (f_X12_told N ρ this (1685217655) 0 999 σ18) fun r19 σ20 =>
      nmd (sI σ20 this 48 r19) fun σ22 =>
      f_X12_readLine_228 N ρ this σ22
    else
      f_X12_readLine_223 N ρ this σ14
def f_X12_readLine_144 (N : Nat) (ρ : Nat → Nat → Nat) (this : Nat) (σ : St) : Option (Int32 × St) :=
  bnd (f_X12_isWord N ρ this (1668246628) σ) fun r23 σ24 =>
  if (r23 : Int32) = 0 then
    f_X12_readLine_183 N ρ this σ24
  else
    if (σ24.1 this 54 : Int32) = 0 then
      nmd (sI σ24 this 54 1) fun σ28 =>
      bnd (f_X12_told N ρ this (1668246628) 0 100 σ28) fun r29 σ30 =>
      nmd (sI σ30 this 47 r29) fun σ32 =>
      f_X12_readLine_228 N ρ this σ32
    else
      f_X12_readLine_183 N ρ this σ24
def f_X12_readLine_105 (N : Nat) (ρ : Nat → Nat → Nat) (this : Nat) (σ : St) : Option (Int32 × St) :=
  bnd (f_X12_isWord N ρ this (495556388211) σ) fun r33 σ34 =>
  if (r33 : Int32) = 0 then
    f_X12_readLine_144 N ρ this σ34
  else
    if (σ34.1 this 53 : Int32) = 0 then
      nmd (sI σ34 this 53 1) fun σ38 =>
      bnd (f_X12_told N ρ this (495556388211) 1 99 σ38) fun r39 σ40 =>
      nmd (sI σ40 this 46 r39) fun σ42 =>
      f_X12_readLine_228 N ρ this σ42
    else
      f_X12_readLine_144 N ρ this σ34
def f_X12_readLine_78 (N : Nat) (ρ : Nat → Nat → Nat) (this : Nat) (σ : St) : Option (Int32 × St) :=
  bnd (f_X12_isWord N ρ this (512801993331) σ) fun r43 σ44 =>
  if (r43 : Int32) = 0 then
    f_X12_readLine_105 N ρ this σ44
  else
    gd (ib 1 2) <|
    if (σ44.1 (ρ this 19) (1 : Int32).toNatClampNeg : Int32) = 0 then
      bnd (f_X12_formula N ρ this 1 σ44) fun _ σ50 =>
      f_X12_readLine_228 N ρ this σ50
    else
      f_X12_readLine_105 N ρ this σ44
def f_X12_readLine_51 (N : Nat) (ρ : Nat → Nat → Nat) (this : Nat) (σ : St) : Option (Int32 × St) :=
  bnd (f_X12_isWord N ρ this (422607680115) σ) fun r52 σ53 =>
  if (r52 : Int32) = 0 then
    f_X12_readLine_78 N ρ this σ53
  else
    gd (ib 0 2) <|
    if (σ53.1 (ρ this 19) (0 : Int32).toNatClampNeg : Int32) = 0 then
      bnd (f_X12_formula N ρ this 0 σ53) fun _ σ59 =>
      f_X12_readLine_228 N ρ this σ59
    else
      f_X12_readLine_78 N ρ this σ53
def f_X12_readLine_26 (N : Nat) (ρ : Nat → Nat → Nat) (this : Nat) (σ : St) : Option (Int32 × St) :=
  bnd (f_X12_isWord N ρ this (495874699116) σ) fun r61 σ62 =>
  if (r61 : Int32) = 0 then
    f_X12_readLine_51 N ρ this σ62
  else
    if 5 ≤ (σ62.1 this 45 : Int32) then
      f_X12_readLine_51 N ρ this σ62
    else
      bnd (f_X12_readStool N ρ this σ62) fun _ σ67 =>
      f_X12_readLine_228 N ρ this σ67
def f_X12_readLine (N : Nat) (ρ : Nat → Nat → Nat) (this : Nat) (σ : St) : Option (Int32 × St) :=
  bnd (f_X12_isWord N ρ this (114784635876456) σ) fun r69 σ70 =>
  if (r69 : Int32) = 0 then
    f_X12_readLine_26 N ρ this σ70
  else
    if 6 ≤ (σ70.1 this 44 : Int32) then
      f_X12_readLine_26 N ρ this σ70
    else
      bnd (f_X12_readHearth N ρ this σ70) fun _ σ75 =>
      f_X12_readLine_228 N ρ this σ75
set_option maxRecDepth 100000 in
set_option maxHeartbeats 4000000 in
theorem w_X12_readLine_260 {N : Nat} {Γ : SG} {ρ : Nat → Nat → Nat} (hs : Sh Γ ρ) {this : Nat} (h0 : Γ[this]? = some (0, 12)) {n0 : Nat} {r : Int32} {σr : St} (σ : St) (hf : f_X12_readLine_260 N ρ this σ = some (r, σr)) : Go mX12_readLine 6 0 0 n0 (Kv Γ ρ σr) 0 0 260 [none] [] (hp Γ ρ σ) := by
  unfold f_X12_readLine_260 at hf
  cases hf
  exact go_vret rfl dX12_readLine_260 (Nat.le_refl _) ⟨rfl, rfl⟩
set_option maxRecDepth 100000 in
set_option maxHeartbeats 4000000 in
theorem w_X12_readLine_249 {N : Nat} {Γ : SG} {ρ : Nat → Nat → Nat} (hs : Sh Γ ρ) {this : Nat} (h0 : Γ[this]? = some (0, 12)) {n0 : Nat} {r : Int32} {σr : St} (σ : St) (hf : f_X12_readLine_249 N ρ this σ = some (r, σr)) : Go mX12_readLine 6 0 0 n0 (Kv Γ ρ σr) 0 0 249 [some (.ref this)] [] (hp Γ ρ σ) := by
  unfold f_X12_readLine_249 at hf
  refine go_aload_n 0 dX12_readLine_249 rfl rfl ?_
  refine go_fI fl_X12_206 dX12_readLine_250 h0 (by decide) rfl ?_
  refine go_if_ne 260 dX12_readLine_253 (by decide) (fun c1 => ?_) (fun c1 => ?_)
  · replace hf := (if_neg c1).symm.trans hf
    refine go_msk [false] [none] rfl ?_
    exact w_X12_readLine_260 hs h0 σ hf
  · replace hf := (if_pos c1).symm.trans hf
    refine go_aload_n 0 dX12_readLine_256 rfl rfl ?_
    obtain ⟨r2, σ3, q4, hf⟩ := bnd_some hf
    refine go_Vv (av := []) (rest := []) (t_X12_token hs h0 q4) ok_X12_token ml_X12_258 dX12_readLine_257 h0 rfl rfl (by decide) (Nat.le_refl _) (Nat.le_refl _) (Nat.le_of_ble_eq_true rfl) ?_
    refine go_msk [false] [none] rfl ?_
    exact w_X12_readLine_260 hs h0 σ3 hf
set_option maxRecDepth 100000 in
set_option maxHeartbeats 4000000 in
theorem w_X12_readLine_228 {N : Nat} {Γ : SG} {ρ : Nat → Nat → Nat} (hs : Sh Γ ρ) {this : Nat} (h0 : Γ[this]? = some (0, 12)) {n0 : Nat} {r : Int32} {σr : St} (σ : St) (hf : f_X12_readLine_228 N ρ this σ = some (r, σr)) : Go mX12_readLine 6 0 0 n0 (Kv Γ ρ σr) 0 0 228 [some (.ref this)] [] (hp Γ ρ σ) := by
  unfold f_X12_readLine_228 at hf
  refine go_aload_n 0 dX12_readLine_228 rfl rfl ?_
  refine go_fI fl_X12_206 dX12_readLine_229 h0 (by decide) rfl ?_
  refine go_if_ne 249 dX12_readLine_232 (by decide) (fun c5 => ?_) (fun c5 => ?_)
  · replace hf := (if_neg c5).symm.trans hf
    exact w_X12_readLine_249 hs h0 σ hf
  · replace hf := (if_pos c5).symm.trans hf
    refine go_aload_n 0 dX12_readLine_235 rfl rfl ?_
    refine go_fI fl_X12_193 dX12_readLine_236 h0 (by decide) rfl ?_
    refine go_bipush 59 dX12_readLine_239 (by decide) ?_
    refine go_icmp_eq 249 dX12_readLine_241 (by decide) (fun c6 => ?_) (fun c6 => ?_)
    · replace hf := (if_pos c6).symm.trans hf
      exact w_X12_readLine_249 hs h0 σ hf
    · replace hf := (if_neg c6).symm.trans hf
      refine go_aload_n 0 dX12_readLine_244 rfl rfl ?_
      refine go_iconst 2 dX12_readLine_245 (by decide) ?_
      obtain ⟨r7, σ8, q9, hf⟩ := bnd_some hf
      refine go_Vv (av := [.int 2]) (rest := []) (t_X12_wrong hs h0 q9) ok_X12_wrong ml_X12_255 dX12_readLine_246 h0 rfl rfl (by decide) (Nat.le_refl _) (Nat.le_refl _) (Nat.le_of_ble_eq_true rfl) ?_
      exact w_X12_readLine_249 hs h0 σ8 hf
set_option maxRecDepth 100000 in
set_option maxHeartbeats 4000000 in
theorem w_X12_readLine_223 {N : Nat} {Γ : SG} {ρ : Nat → Nat → Nat} (hs : Sh Γ ρ) {this : Nat} (h0 : Γ[this]? = some (0, 12)) {n0 : Nat} {r : Int32} {σr : St} (σ : St) (hf : f_X12_readLine_223 N ρ this σ = some (r, σr)) : Go mX12_readLine 6 0 0 n0 (Kv Γ ρ σr) 0 0 223 [some (.ref this)] [] (hp Γ ρ σ) := by
  unfold f_X12_readLine_223 at hf
  refine go_aload_n 0 dX12_readLine_223 rfl rfl ?_
  refine go_iconst 2 dX12_readLine_224 (by decide) ?_
  obtain ⟨r10, σ11, q12, hf⟩ := bnd_some hf
  refine go_Vv (av := [.int 2]) (rest := []) (t_X12_wrong hs h0 q12) ok_X12_wrong ml_X12_255 dX12_readLine_225 h0 rfl rfl (by decide) (Nat.le_refl _) (Nat.le_refl _) (Nat.le_of_ble_eq_true rfl) ?_
  exact w_X12_readLine_228 hs h0 σ11 hf
set_option maxRecDepth 100000 in
set_option maxHeartbeats 4000000 in
theorem w_X12_readLine_183 {N : Nat} {Γ : SG} {ρ : Nat → Nat → Nat} (hs : Sh Γ ρ) {this : Nat} (h0 : Γ[this]? = some (0, 12)) {n0 : Nat} {r : Int32} {σr : St} (σ : St) (hf : f_X12_readLine_183 N ρ this σ = some (r, σr)) : Go mX12_readLine 6 0 0 n0 (Kv Γ ρ σr) 0 0 183 [some (.ref this)] [] (hp Γ ρ σ) := by
  unfold f_X12_readLine_183 at hf
  refine go_aload_n 0 dX12_readLine_183 rfl rfl ?_
  refine go_ldc2 (1685217655) dX12_readLine_184 cn_X12_235 ?_
  obtain ⟨r13, σ14, q15, hf⟩ := bnd_some hf
  refine go_Vi (av := [.long (1685217655)]) (rest := []) (t_X12_isWord hs h0 q15) ok_X12_isWord ml_X12_251 dX12_readLine_187 h0 rfl rfl (by decide) (Nat.le_refl _) (Nat.le_refl _) (Nat.le_of_ble_eq_true rfl) ?_
  refine go_if_eq 223 dX12_readLine_190 (by decide) (fun c16 => ?_) (fun c16 => ?_)
  · replace hf := (if_pos c16).symm.trans hf
    exact w_X12_readLine_223 hs h0 σ14 hf
  · replace hf := (if_neg c16).symm.trans hf
    refine go_aload_n 0 dX12_readLine_193 rfl rfl ?_
    refine go_fI fl_X12_380 dX12_readLine_194 h0 (by decide) rfl ?_
    refine go_if_ne 223 dX12_readLine_197 (by decide) (fun c17 => ?_) (fun c17 => ?_)
    · replace hf := (if_neg c17).symm.trans hf
      exact w_X12_readLine_223 hs h0 σ14 hf
    · replace hf := (if_pos c17).symm.trans hf
      refine go_aload_n 0 dX12_readLine_200 rfl rfl ?_
      refine go_iconst 1 dX12_readLine_201 (by decide) ?_
      obtain ⟨σ18, eσ18, hf⟩ := nmd_some hf
      refine go_pI fl_X12_380 ft_12_55 (okv_z (by decide)) dX12_readLine_202 h0 (by decide) rfl ?_
      rw [eσ18]
      refine go_aload_n 0 dX12_readLine_205 rfl rfl ?_
      refine go_aload_n 0 dX12_readLine_206 rfl rfl ?_
      refine go_ldc2 (1685217655) dX12_readLine_207 cn_X12_235 ?_
      refine go_iconst 0 dX12_readLine_210 (by decide) ?_
      refine go_sipush 999 dX12_readLine_211 (by decide) ?_
      obtain ⟨r19, σ20, q21, hf⟩ := bnd_some hf
      refine go_Vi (av := [.long (1685217655), .int 0, .int 999]) (rest := [.ref this]) (t_X12_told hs h0 q21) ok_X12_told ml_X12_269 dX12_readLine_214 h0 rfl rfl (by decide) (Nat.le_refl _) (Nat.le_refl _) (Nat.le_of_ble_eq_true rfl) ?_
      obtain ⟨σ22, eσ22, hf⟩ := nmd_some hf
      refine go_pI fl_X12_383 ft_12_48 (okv_i _) dX12_readLine_217 h0 (by decide) rfl ?_
      rw [eσ22]
      refine go_goto 228 dX12_readLine_220 (by decide) ?_
      exact w_X12_readLine_228 hs h0 σ22 hf
set_option maxRecDepth 100000 in
set_option maxHeartbeats 4000000 in
theorem w_X12_readLine_144 {N : Nat} {Γ : SG} {ρ : Nat → Nat → Nat} (hs : Sh Γ ρ) {this : Nat} (h0 : Γ[this]? = some (0, 12)) {n0 : Nat} {r : Int32} {σr : St} (σ : St) (hf : f_X12_readLine_144 N ρ this σ = some (r, σr)) : Go mX12_readLine 6 0 0 n0 (Kv Γ ρ σr) 0 0 144 [some (.ref this)] [] (hp Γ ρ σ) := by
  unfold f_X12_readLine_144 at hf
  refine go_aload_n 0 dX12_readLine_144 rfl rfl ?_
  refine go_ldc2 (1668246628) dX12_readLine_145 cn_X12_233 ?_
  obtain ⟨r23, σ24, q25, hf⟩ := bnd_some hf
  refine go_Vi (av := [.long (1668246628)]) (rest := []) (t_X12_isWord hs h0 q25) ok_X12_isWord ml_X12_251 dX12_readLine_148 h0 rfl rfl (by decide) (Nat.le_refl _) (Nat.le_refl _) (Nat.le_of_ble_eq_true rfl) ?_
  refine go_if_eq 183 dX12_readLine_151 (by decide) (fun c26 => ?_) (fun c26 => ?_)
  · replace hf := (if_pos c26).symm.trans hf
    exact w_X12_readLine_183 hs h0 σ24 hf
  · replace hf := (if_neg c26).symm.trans hf
    refine go_aload_n 0 dX12_readLine_154 rfl rfl ?_
    refine go_fI fl_X12_374 dX12_readLine_155 h0 (by decide) rfl ?_
    refine go_if_ne 183 dX12_readLine_158 (by decide) (fun c27 => ?_) (fun c27 => ?_)
    · replace hf := (if_neg c27).symm.trans hf
      exact w_X12_readLine_183 hs h0 σ24 hf
    · replace hf := (if_pos c27).symm.trans hf
      refine go_aload_n 0 dX12_readLine_161 rfl rfl ?_
      refine go_iconst 1 dX12_readLine_162 (by decide) ?_
      obtain ⟨σ28, eσ28, hf⟩ := nmd_some hf
      refine go_pI fl_X12_374 ft_12_54 (okv_z (by decide)) dX12_readLine_163 h0 (by decide) rfl ?_
      rw [eσ28]
      refine go_aload_n 0 dX12_readLine_166 rfl rfl ?_
      refine go_aload_n 0 dX12_readLine_167 rfl rfl ?_
      refine go_ldc2 (1668246628) dX12_readLine_168 cn_X12_233 ?_
      refine go_iconst 0 dX12_readLine_171 (by decide) ?_
      refine go_bipush 100 dX12_readLine_172 (by decide) ?_
      obtain ⟨r29, σ30, q31, hf⟩ := bnd_some hf
      refine go_Vi (av := [.long (1668246628), .int 0, .int 100]) (rest := [.ref this]) (t_X12_told hs h0 q31) ok_X12_told ml_X12_269 dX12_readLine_174 h0 rfl rfl (by decide) (Nat.le_refl _) (Nat.le_refl _) (Nat.le_of_ble_eq_true rfl) ?_
      obtain ⟨σ32, eσ32, hf⟩ := nmd_some hf
      refine go_pI fl_X12_377 ft_12_47 (okv_i _) dX12_readLine_177 h0 (by decide) rfl ?_
      rw [eσ32]
      refine go_goto 228 dX12_readLine_180 (by decide) ?_
      exact w_X12_readLine_228 hs h0 σ32 hf
set_option maxRecDepth 100000 in
set_option maxHeartbeats 4000000 in
theorem w_X12_readLine_105 {N : Nat} {Γ : SG} {ρ : Nat → Nat → Nat} (hs : Sh Γ ρ) {this : Nat} (h0 : Γ[this]? = some (0, 12)) {n0 : Nat} {r : Int32} {σr : St} (σ : St) (hf : f_X12_readLine_105 N ρ this σ = some (r, σr)) : Go mX12_readLine 6 0 0 n0 (Kv Γ ρ σr) 0 0 105 [some (.ref this)] [] (hp Γ ρ σ) := by
  unfold f_X12_readLine_105 at hf
  refine go_aload_n 0 dX12_readLine_105 rfl rfl ?_
  refine go_ldc2 (495556388211) dX12_readLine_106 cn_X12_231 ?_
  obtain ⟨r33, σ34, q35, hf⟩ := bnd_some hf
  refine go_Vi (av := [.long (495556388211)]) (rest := []) (t_X12_isWord hs h0 q35) ok_X12_isWord ml_X12_251 dX12_readLine_109 h0 rfl rfl (by decide) (Nat.le_refl _) (Nat.le_refl _) (Nat.le_of_ble_eq_true rfl) ?_
  refine go_if_eq 144 dX12_readLine_112 (by decide) (fun c36 => ?_) (fun c36 => ?_)
  · replace hf := (if_pos c36).symm.trans hf
    exact w_X12_readLine_144 hs h0 σ34 hf
  · replace hf := (if_neg c36).symm.trans hf
    refine go_aload_n 0 dX12_readLine_115 rfl rfl ?_
    refine go_fI fl_X12_367 dX12_readLine_116 h0 (by decide) rfl ?_
    refine go_if_ne 144 dX12_readLine_119 (by decide) (fun c37 => ?_) (fun c37 => ?_)
    · replace hf := (if_neg c37).symm.trans hf
      exact w_X12_readLine_144 hs h0 σ34 hf
    · replace hf := (if_pos c37).symm.trans hf
      refine go_aload_n 0 dX12_readLine_122 rfl rfl ?_
      refine go_iconst 1 dX12_readLine_123 (by decide) ?_
      obtain ⟨σ38, eσ38, hf⟩ := nmd_some hf
      refine go_pI fl_X12_367 ft_12_53 (okv_z (by decide)) dX12_readLine_124 h0 (by decide) rfl ?_
      rw [eσ38]
      refine go_aload_n 0 dX12_readLine_127 rfl rfl ?_
      refine go_aload_n 0 dX12_readLine_128 rfl rfl ?_
      refine go_ldc2 (495556388211) dX12_readLine_129 cn_X12_231 ?_
      refine go_iconst 1 dX12_readLine_132 (by decide) ?_
      refine go_bipush 99 dX12_readLine_133 (by decide) ?_
      obtain ⟨r39, σ40, q41, hf⟩ := bnd_some hf
      refine go_Vi (av := [.long (495556388211), .int 1, .int 99]) (rest := [.ref this]) (t_X12_told hs h0 q41) ok_X12_told ml_X12_269 dX12_readLine_135 h0 rfl rfl (by decide) (Nat.le_refl _) (Nat.le_refl _) (Nat.le_of_ble_eq_true rfl) ?_
      obtain ⟨σ42, eσ42, hf⟩ := nmd_some hf
      refine go_pI fl_X12_371 ft_12_46 (okv_i _) dX12_readLine_138 h0 (by decide) rfl ?_
      rw [eσ42]
      refine go_goto 228 dX12_readLine_141 (by decide) ?_
      exact w_X12_readLine_228 hs h0 σ42 hf
set_option maxRecDepth 100000 in
set_option maxHeartbeats 4000000 in
theorem w_X12_readLine_78 {N : Nat} {Γ : SG} {ρ : Nat → Nat → Nat} (hs : Sh Γ ρ) {this : Nat} (h0 : Γ[this]? = some (0, 12)) {n0 : Nat} {r : Int32} {σr : St} (σ : St) (hf : f_X12_readLine_78 N ρ this σ = some (r, σr)) : Go mX12_readLine 6 0 0 n0 (Kv Γ ρ σr) 0 0 78 [some (.ref this)] [] (hp Γ ρ σ) := by
  unfold f_X12_readLine_78 at hf
  refine go_aload_n 0 dX12_readLine_78 rfl rfl ?_
  refine go_ldc2 (512801993331) dX12_readLine_79 cn_X12_229 ?_
  obtain ⟨r43, σ44, q45, hf⟩ := bnd_some hf
  refine go_Vi (av := [.long (512801993331)]) (rest := []) (t_X12_isWord hs h0 q45) ok_X12_isWord ml_X12_251 dX12_readLine_82 h0 rfl rfl (by decide) (Nat.le_refl _) (Nat.le_refl _) (Nat.le_of_ble_eq_true rfl) ?_
  refine go_if_eq 105 dX12_readLine_85 (by decide) (fun c46 => ?_) (fun c46 => ?_)
  · replace hf := (if_pos c46).symm.trans hf
    exact w_X12_readLine_105 hs h0 σ44 hf
  · replace hf := (if_neg c46).symm.trans hf
    refine go_aload_n 0 dX12_readLine_88 rfl rfl ?_
    refine go_fR fl_X12_45 dX12_readLine_89 h0 (by decide) rfl ?_
    refine go_iconst 1 dX12_readLine_92 (by decide) ?_
    obtain ⟨g47, hf⟩ := gd_some hf
    refine go_rZ dX12_readLine_93 (hs.1 _ 12 19 h0 rfl) (ib_in g47) ?_
    refine go_if_ne 105 dX12_readLine_94 (by decide) (fun c48 => ?_) (fun c48 => ?_)
    · replace hf := (if_neg c48).symm.trans hf
      exact w_X12_readLine_105 hs h0 σ44 hf
    · replace hf := (if_pos c48).symm.trans hf
      refine go_aload_n 0 dX12_readLine_97 rfl rfl ?_
      refine go_iconst 1 dX12_readLine_98 (by decide) ?_
      obtain ⟨r49, σ50, q51, hf⟩ := bnd_some hf
      refine go_Vv (av := [.int 1]) (rest := []) (t_X12_formula hs h0 q51) ok_X12_formula ml_X12_364 dX12_readLine_99 h0 rfl rfl (by decide) (Nat.le_refl _) (Nat.le_refl _) (Nat.le_of_ble_eq_true rfl) ?_
      refine go_goto 228 dX12_readLine_102 (by decide) ?_
      exact w_X12_readLine_228 hs h0 σ50 hf
set_option maxRecDepth 100000 in
set_option maxHeartbeats 4000000 in
theorem w_X12_readLine_51 {N : Nat} {Γ : SG} {ρ : Nat → Nat → Nat} (hs : Sh Γ ρ) {this : Nat} (h0 : Γ[this]? = some (0, 12)) {n0 : Nat} {r : Int32} {σr : St} (σ : St) (hf : f_X12_readLine_51 N ρ this σ = some (r, σr)) : Go mX12_readLine 6 0 0 n0 (Kv Γ ρ σr) 0 0 51 [some (.ref this)] [] (hp Γ ρ σ) := by
  unfold f_X12_readLine_51 at hf
  refine go_aload_n 0 dX12_readLine_51 rfl rfl ?_
  refine go_ldc2 (422607680115) dX12_readLine_52 cn_X12_227 ?_
  obtain ⟨r52, σ53, q54, hf⟩ := bnd_some hf
  refine go_Vi (av := [.long (422607680115)]) (rest := []) (t_X12_isWord hs h0 q54) ok_X12_isWord ml_X12_251 dX12_readLine_55 h0 rfl rfl (by decide) (Nat.le_refl _) (Nat.le_refl _) (Nat.le_of_ble_eq_true rfl) ?_
  refine go_if_eq 78 dX12_readLine_58 (by decide) (fun c55 => ?_) (fun c55 => ?_)
  · replace hf := (if_pos c55).symm.trans hf
    exact w_X12_readLine_78 hs h0 σ53 hf
  · replace hf := (if_neg c55).symm.trans hf
    refine go_aload_n 0 dX12_readLine_61 rfl rfl ?_
    refine go_fR fl_X12_45 dX12_readLine_62 h0 (by decide) rfl ?_
    refine go_iconst 0 dX12_readLine_65 (by decide) ?_
    obtain ⟨g56, hf⟩ := gd_some hf
    refine go_rZ dX12_readLine_66 (hs.1 _ 12 19 h0 rfl) (ib_in g56) ?_
    refine go_if_ne 78 dX12_readLine_67 (by decide) (fun c57 => ?_) (fun c57 => ?_)
    · replace hf := (if_neg c57).symm.trans hf
      exact w_X12_readLine_78 hs h0 σ53 hf
    · replace hf := (if_pos c57).symm.trans hf
      refine go_aload_n 0 dX12_readLine_70 rfl rfl ?_
      refine go_iconst 0 dX12_readLine_71 (by decide) ?_
      obtain ⟨r58, σ59, q60, hf⟩ := bnd_some hf
      refine go_Vv (av := [.int 0]) (rest := []) (t_X12_formula hs h0 q60) ok_X12_formula ml_X12_364 dX12_readLine_72 h0 rfl rfl (by decide) (Nat.le_refl _) (Nat.le_refl _) (Nat.le_of_ble_eq_true rfl) ?_
      refine go_goto 228 dX12_readLine_75 (by decide) ?_
      exact w_X12_readLine_228 hs h0 σ59 hf
set_option maxRecDepth 100000 in
set_option maxHeartbeats 4000000 in
theorem w_X12_readLine_26 {N : Nat} {Γ : SG} {ρ : Nat → Nat → Nat} (hs : Sh Γ ρ) {this : Nat} (h0 : Γ[this]? = some (0, 12)) {n0 : Nat} {r : Int32} {σr : St} (σ : St) (hf : f_X12_readLine_26 N ρ this σ = some (r, σr)) : Go mX12_readLine 6 0 0 n0 (Kv Γ ρ σr) 0 0 26 [some (.ref this)] [] (hp Γ ρ σ) := by
  unfold f_X12_readLine_26 at hf
  refine go_aload_n 0 dX12_readLine_26 rfl rfl ?_
  refine go_ldc2 (495874699116) dX12_readLine_27 cn_X12_219 ?_
  obtain ⟨r61, σ62, q63, hf⟩ := bnd_some hf
  refine go_Vi (av := [.long (495874699116)]) (rest := []) (t_X12_isWord hs h0 q63) ok_X12_isWord ml_X12_251 dX12_readLine_30 h0 rfl rfl (by decide) (Nat.le_refl _) (Nat.le_refl _) (Nat.le_of_ble_eq_true rfl) ?_
  refine go_if_eq 51 dX12_readLine_33 (by decide) (fun c64 => ?_) (fun c64 => ?_)
  · replace hf := (if_pos c64).symm.trans hf
    exact w_X12_readLine_51 hs h0 σ62 hf
  · replace hf := (if_neg c64).symm.trans hf
    refine go_aload_n 0 dX12_readLine_36 rfl rfl ?_
    refine go_fI fl_X12_355 dX12_readLine_37 h0 (by decide) rfl ?_
    refine go_iconst 5 dX12_readLine_40 (by decide) ?_
    refine go_icmp_ge 51 dX12_readLine_41 (by decide) (fun c65 => ?_) (fun c65 => ?_)
    · replace hf := (if_pos c65).symm.trans hf
      exact w_X12_readLine_51 hs h0 σ62 hf
    · replace hf := (if_neg c65).symm.trans hf
      refine go_aload_n 0 dX12_readLine_44 rfl rfl ?_
      obtain ⟨r66, σ67, q68, hf⟩ := bnd_some hf
      refine go_Vv (av := []) (rest := []) (t_X12_readStool hs h0 q68) ok_X12_readStool ml_X12_361 dX12_readLine_45 h0 rfl rfl (by decide) (Nat.le_refl _) (Nat.le_refl _) (Nat.le_of_ble_eq_true rfl) ?_
      refine go_goto 228 dX12_readLine_48 (by decide) ?_
      exact w_X12_readLine_228 hs h0 σ67 hf
set_option maxRecDepth 100000 in
set_option maxHeartbeats 4000000 in
theorem t_X12_readLine {N : Nat} {Γ : SG} {ρ : Nat → Nat → Nat} (hs : Sh Γ ρ) {this : Nat} (h0 : Γ[this]? = some (0, 12)) {σ : St} {r : Int32} {σr : St} (hf : f_X12_readLine N ρ this σ = some (r, σr)) : Tri mX12_readLine 6 0 0 [.ref this] (hp Γ ρ σ) (Kv Γ ρ σr) := by
  unfold f_X12_readLine at hf
  refine tri_of [some (.ref this)] (plainFor_of_name rfl) rfl (Nat.le_of_ble_eq_true rfl) ?_
  refine go_aload_n 0 dX12_readLine_0 rfl rfl ?_
  refine go_ldc2 (114784635876456) dX12_readLine_1 cn_X12_209 ?_
  obtain ⟨r69, σ70, q71, hf⟩ := bnd_some hf
  refine go_Vi (av := [.long (114784635876456)]) (rest := []) (t_X12_isWord hs h0 q71) ok_X12_isWord ml_X12_251 dX12_readLine_4 h0 rfl rfl (by decide) (Nat.le_refl _) (Nat.le_refl _) (Nat.le_of_ble_eq_true rfl) ?_
  refine go_if_eq 26 dX12_readLine_7 (by decide) (fun c72 => ?_) (fun c72 => ?_)
  · replace hf := (if_pos c72).symm.trans hf
    exact w_X12_readLine_26 hs h0 σ70 hf
  · replace hf := (if_neg c72).symm.trans hf
    refine go_aload_n 0 dX12_readLine_10 rfl rfl ?_
    refine go_fI fl_X12_346 dX12_readLine_11 h0 (by decide) rfl ?_
    refine go_bipush 6 dX12_readLine_14 (by decide) ?_
    refine go_icmp_ge 26 dX12_readLine_16 (by decide) (fun c73 => ?_) (fun c73 => ?_)
    · replace hf := (if_pos c73).symm.trans hf
      exact w_X12_readLine_26 hs h0 σ70 hf
    · replace hf := (if_neg c73).symm.trans hf
      refine go_aload_n 0 dX12_readLine_19 rfl rfl ?_
      obtain ⟨r74, σ75, q76, hf⟩ := bnd_some hf
      refine go_Vv (av := []) (rest := []) (t_X12_readHearth hs h0 q76) ok_X12_readHearth ml_X12_358 dX12_readLine_20 h0 rfl rfl (by decide) (Nat.le_refl _) (Nat.le_refl _) (Nat.le_of_ble_eq_true rfl) ?_
      refine go_goto 228 dX12_readLine_23 (by decide) ?_
      exact w_X12_readLine_228 hs h0 σ75 hf
def f_X12_readAll_113 (N : Nat) (ρ : Nat → Nat → Nat) (this : Nat) (σ : St) : Option (Int32 × St) :=
  some (0, σ)
def b_X12_readAll_92 (N : Nat) (ρ : Nat → Nat → Nat) (this : Nat) (rec92 : St → Option (Int32 × St)) (σ : St) : Option (Int32 × St) :=
  if (σ.1 this 2 : Int32) = 0 then
    if (σ.1 this 6 : Int32) = 0 then
      f_X12_readAll_113 N ρ this σ
    else
      bnd (f_X12_readLine N ρ this σ) fun _ σ4 =>
      rec92 σ4
  else
    f_X12_readAll_113 N ρ this σ
def f_X12_readAll_92 (N : Nat) (ρ : Nat → Nat → Nat) (this : Nat) : Nat → St → Option (Int32 × St)
  | 0, _ => none
  | n + 1, σ => b_X12_readAll_92 N ρ this (f_X12_readAll_92 N ρ this n) σ
def f_X12_readAll (N : Nat) (ρ : Nat → Nat → Nat) (this : Nat) (σ : St) : Option (Int32 × St) :=
  nmd (sI σ this 5 (σ.1 this 1)) fun σ6 =>
  nmd (sI σ6 this 1 0) fun σ7 =>
  nmd (sI σ7 this 4 0) fun σ8 =>
  nmd (sI σ8 this 2 0) fun σ9 =>
  nmd (sI σ9 this 3 (-1)) fun σ10 =>
  nmd (sI σ10 this 44 0) fun σ11 =>
  nmd (sI σ11 this 45 0) fun σ12 =>
  nmd (sI σ12 this 46 7) fun σ13 =>
  nmd (sI σ13 this 47 0) fun σ14 =>
  nmd (sI σ14 this 48 0) fun σ15 =>
  nmd (sI σ15 this 53 0) fun σ16 =>
  nmd (sI σ16 this 54 0) fun σ17 =>
  nmd (sI σ17 this 55 0) fun σ18 =>
  gd (ib 0 2) <|
  nmd (sI σ18 (ρ this 19) (0 : Int32).toNatClampNeg (vp_nar .boolean 0)) fun σ20 =>
  gd (ib 1 2) <|
  nmd (sI σ20 (ρ this 19) (1 : Int32).toNatClampNeg (vp_nar .boolean 0)) fun σ22 =>
  nmd (sI σ22 this 22 0) fun σ23 =>
  bnd (f_X12_token N ρ this σ23) fun _ σ25 =>
  f_X12_readAll_92 N ρ this N σ25
set_option maxRecDepth 100000 in
set_option maxHeartbeats 4000000 in
theorem w_X12_readAll_113 {N : Nat} {Γ : SG} {ρ : Nat → Nat → Nat} (hs : Sh Γ ρ) {this : Nat} (h0 : Γ[this]? = some (0, 12)) {n0 : Nat} {r : Int32} {σr : St} (σ : St) (hf : f_X12_readAll_113 N ρ this σ = some (r, σr)) : Go mX12_readAll 7 0 0 n0 (Kv Γ ρ σr) 0 0 113 [none] [] (hp Γ ρ σ) := by
  unfold f_X12_readAll_113 at hf
  cases hf
  exact go_vret rfl dX12_readAll_113 (Nat.le_refl _) ⟨rfl, rfl⟩
set_option maxRecDepth 100000 in
set_option maxHeartbeats 4000000 in
theorem v_X12_readAll_92 {N : Nat} {Γ : SG} {ρ : Nat → Nat → Nat} (hs : Sh Γ ρ) {this : Nat} (h0 : Γ[this]? = some (0, 12)) {n0 : Nat} {r : Int32} {σr : St} (rec92 : St → Option (Int32 × St)) (hrec92 : ∀ (σ : St), rec92 σ = some (r, σr) → Go mX12_readAll 7 0 0 n0 (Kv Γ ρ σr) 0 0 92 [some (.ref this)] [] (hp Γ ρ σ)) (σ : St) (hf : b_X12_readAll_92 N ρ this rec92 σ = some (r, σr)) : Go mX12_readAll 7 0 0 n0 (Kv Γ ρ σr) 0 0 92 [some (.ref this)] [] (hp Γ ρ σ) := by
  unfold b_X12_readAll_92 at hf
  refine go_aload_n 0 dX12_readAll_92 rfl rfl ?_
  refine go_fI fl_X12_206 dX12_readAll_93 h0 (by decide) rfl ?_
  refine go_if_ne 113 dX12_readAll_96 (by decide) (fun c1 => ?_) (fun c1 => ?_)
  · replace hf := (if_neg c1).symm.trans hf
    refine go_msk [false] [none] rfl ?_
    exact w_X12_readAll_113 hs h0 σ hf
  · replace hf := (if_pos c1).symm.trans hf
    refine go_aload_n 0 dX12_readAll_99 rfl rfl ?_
    refine go_fI fl_X12_193 dX12_readAll_100 h0 (by decide) rfl ?_
    refine go_if_eq 113 dX12_readAll_103 (by decide) (fun c2 => ?_) (fun c2 => ?_)
    · replace hf := (if_pos c2).symm.trans hf
      refine go_msk [false] [none] rfl ?_
      exact w_X12_readAll_113 hs h0 σ hf
    · replace hf := (if_neg c2).symm.trans hf
      refine go_aload_n 0 dX12_readAll_106 rfl rfl ?_
      obtain ⟨r3, σ4, q5, hf⟩ := bnd_some hf
      refine go_Vv (av := []) (rest := []) (t_X12_readLine hs h0 q5) ok_X12_readLine ml_X12_386 dX12_readAll_107 h0 rfl rfl (by decide) (Nat.le_refl _) (Nat.le_refl _) (Nat.le_of_ble_eq_true rfl) ?_
      refine go_goto 92 dX12_readAll_110 (by decide) ?_
      exact hrec92 σ4 hf
theorem w_X12_readAll_92 {N : Nat} {Γ : SG} {ρ : Nat → Nat → Nat} (hs : Sh Γ ρ) {this : Nat} (h0 : Γ[this]? = some (0, 12)) {n0 : Nat} {r : Int32} {σr : St} : ∀ (n : Nat) (σ : St), f_X12_readAll_92 N ρ this n σ = some (r, σr) → Go mX12_readAll 7 0 0 n0 (Kv Γ ρ σr) 0 0 92 [some (.ref this)] [] (hp Γ ρ σ) := by
  intro n
  induction n with
  | zero => intro σ hf; cases hf
  | succ n ih => intro σ hf; exact v_X12_readAll_92 hs h0 _ ih σ hf
set_option maxRecDepth 100000 in
set_option maxHeartbeats 4000000 in
theorem t_X12_readAll {N : Nat} {Γ : SG} {ρ : Nat → Nat → Nat} (hs : Sh Γ ρ) {this : Nat} (h0 : Γ[this]? = some (0, 12)) {σ : St} {r : Int32} {σr : St} (hf : f_X12_readAll N ρ this σ = some (r, σr)) : Tri mX12_readAll 7 0 0 [.ref this] (hp Γ ρ σ) (Kv Γ ρ σr) := by
  unfold f_X12_readAll at hf
  refine tri_of [some (.ref this)] (plainFor_of_name rfl) rfl (Nat.le_of_ble_eq_true rfl) ?_
  refine go_aload_n 0 dX12_readAll_0 rfl rfl ?_
  refine go_aload_n 0 dX12_readAll_1 rfl rfl ?_
  refine go_fI fl_X12_166 dX12_readAll_2 h0 (by decide) rfl ?_
  obtain ⟨σ6, eσ6, hf⟩ := nmd_some hf
  refine go_pI fl_X12_176 ft_12_5 (okv_i _) dX12_readAll_5 h0 (by decide) rfl ?_
  rw [eσ6]
  refine go_aload_n 0 dX12_readAll_8 rfl rfl ?_
  refine go_iconst 0 dX12_readAll_9 (by decide) ?_
  obtain ⟨σ7, eσ7, hf⟩ := nmd_some hf
  refine go_pI fl_X12_166 ft_12_1 (okv_i _) dX12_readAll_10 h0 (by decide) rfl ?_
  rw [eσ7]
  refine go_aload_n 0 dX12_readAll_13 rfl rfl ?_
  refine go_iconst 0 dX12_readAll_14 (by decide) ?_
  obtain ⟨σ8, eσ8, hf⟩ := nmd_some hf
  refine go_pI fl_X12_173 ft_12_4 (okv_i _) dX12_readAll_15 h0 (by decide) rfl ?_
  rw [eσ8]
  refine go_aload_n 0 dX12_readAll_18 rfl rfl ?_
  refine go_iconst 0 dX12_readAll_19 (by decide) ?_
  obtain ⟨σ9, eσ9, hf⟩ := nmd_some hf
  refine go_pI fl_X12_206 ft_12_2 (okv_i _) dX12_readAll_20 h0 (by decide) rfl ?_
  rw [eσ9]
  refine go_aload_n 0 dX12_readAll_23 rfl rfl ?_
  refine go_iconst (-1) dX12_readAll_24 (by decide) ?_
  obtain ⟨σ10, eσ10, hf⟩ := nmd_some hf
  refine go_pI fl_X12_13 ft_12_3 (okv_i _) dX12_readAll_25 h0 (by decide) rfl ?_
  rw [eσ10]
  refine go_aload_n 0 dX12_readAll_28 rfl rfl ?_
  refine go_iconst 0 dX12_readAll_29 (by decide) ?_
  obtain ⟨σ11, eσ11, hf⟩ := nmd_some hf
  refine go_pI fl_X12_346 ft_12_44 (okv_i _) dX12_readAll_30 h0 (by decide) rfl ?_
  rw [eσ11]
  refine go_aload_n 0 dX12_readAll_33 rfl rfl ?_
  refine go_iconst 0 dX12_readAll_34 (by decide) ?_
  obtain ⟨σ12, eσ12, hf⟩ := nmd_some hf
  refine go_pI fl_X12_355 ft_12_45 (okv_i _) dX12_readAll_35 h0 (by decide) rfl ?_
  rw [eσ12]
  refine go_aload_n 0 dX12_readAll_38 rfl rfl ?_
  refine go_bipush 7 dX12_readAll_39 (by decide) ?_
  obtain ⟨σ13, eσ13, hf⟩ := nmd_some hf
  refine go_pI fl_X12_371 ft_12_46 (okv_i _) dX12_readAll_41 h0 (by decide) rfl ?_
  rw [eσ13]
  refine go_aload_n 0 dX12_readAll_44 rfl rfl ?_
  refine go_iconst 0 dX12_readAll_45 (by decide) ?_
  obtain ⟨σ14, eσ14, hf⟩ := nmd_some hf
  refine go_pI fl_X12_377 ft_12_47 (okv_i _) dX12_readAll_46 h0 (by decide) rfl ?_
  rw [eσ14]
  refine go_aload_n 0 dX12_readAll_49 rfl rfl ?_
  refine go_iconst 0 dX12_readAll_50 (by decide) ?_
  obtain ⟨σ15, eσ15, hf⟩ := nmd_some hf
  refine go_pI fl_X12_383 ft_12_48 (okv_i _) dX12_readAll_51 h0 (by decide) rfl ?_
  rw [eσ15]
  refine go_aload_n 0 dX12_readAll_54 rfl rfl ?_
  refine go_iconst 0 dX12_readAll_55 (by decide) ?_
  obtain ⟨σ16, eσ16, hf⟩ := nmd_some hf
  refine go_pI fl_X12_367 ft_12_53 (okv_z (by decide)) dX12_readAll_56 h0 (by decide) rfl ?_
  rw [eσ16]
  refine go_aload_n 0 dX12_readAll_59 rfl rfl ?_
  refine go_iconst 0 dX12_readAll_60 (by decide) ?_
  obtain ⟨σ17, eσ17, hf⟩ := nmd_some hf
  refine go_pI fl_X12_374 ft_12_54 (okv_z (by decide)) dX12_readAll_61 h0 (by decide) rfl ?_
  rw [eσ17]
  refine go_aload_n 0 dX12_readAll_64 rfl rfl ?_
  refine go_iconst 0 dX12_readAll_65 (by decide) ?_
  obtain ⟨σ18, eσ18, hf⟩ := nmd_some hf
  refine go_pI fl_X12_380 ft_12_55 (okv_z (by decide)) dX12_readAll_66 h0 (by decide) rfl ?_
  rw [eσ18]
  refine go_aload_n 0 dX12_readAll_69 rfl rfl ?_
  refine go_fR fl_X12_45 dX12_readAll_70 h0 (by decide) rfl ?_
  refine go_iconst 0 dX12_readAll_73 (by decide) ?_
  refine go_iconst 0 dX12_readAll_74 (by decide) ?_
  obtain ⟨g19, hf⟩ := gd_some hf
  obtain ⟨σ20, eσ20, hf⟩ := nmd_some hf
  refine go_wZ dX12_readAll_75 (hs.1 _ 12 19 h0 rfl) (ib_in g19) ?_
  rw [eσ20]
  refine go_aload_n 0 dX12_readAll_76 rfl rfl ?_
  refine go_fR fl_X12_45 dX12_readAll_77 h0 (by decide) rfl ?_
  refine go_iconst 1 dX12_readAll_80 (by decide) ?_
  refine go_iconst 0 dX12_readAll_81 (by decide) ?_
  obtain ⟨g21, hf⟩ := gd_some hf
  obtain ⟨σ22, eσ22, hf⟩ := nmd_some hf
  refine go_wZ dX12_readAll_82 (hs.1 _ 12 19 h0 rfl) (ib_in g21) ?_
  rw [eσ22]
  refine go_aload_n 0 dX12_readAll_83 rfl rfl ?_
  refine go_iconst 0 dX12_readAll_84 (by decide) ?_
  obtain ⟨σ23, eσ23, hf⟩ := nmd_some hf
  refine go_pI fl_X12_292 ft_12_22 (okv_i _) dX12_readAll_85 h0 (by decide) rfl ?_
  rw [eσ23]
  refine go_aload_n 0 dX12_readAll_88 rfl rfl ?_
  obtain ⟨r24, σ25, q26, hf⟩ := bnd_some hf
  refine go_Vv (av := []) (rest := []) (t_X12_token hs h0 q26) ok_X12_token ml_X12_258 dX12_readAll_89 h0 rfl rfl (by decide) (Nat.le_refl _) (Nat.le_refl _) (Nat.le_of_ble_eq_true rfl) ?_
  exact w_X12_readAll_92 hs h0 N σ25 hf
def b_X12_begin_23 (N : Nat) (ρ : Nat → Nat → Nat) (this : Nat) (rec23 : Int32 → St → Option (Int32 × St)) (x1 : Int32) (σ : St) : Option (Int32 × St) :=
  if (σ.1 this 50) ≤ (x1 : Int32) then
    some (0, σ)
  else
    gd (ib x1 5) <|
    gd (ib x1 22) <|
    nmd (sI σ (ρ this 57) x1.toNatClampNeg (σ.1 (ρ this 41) x1.toNatClampNeg)) fun σ4 =>
    gd (ib x1 5) <|
    gd (ib (5 + x1) 22) <|
    nmd (sI σ4 (ρ this 57) (5 + x1).toNatClampNeg (σ4.1 (ρ this 43) x1.toNatClampNeg)) fun σ7 =>
    gd (ib (15 + x1) 22) <|
    nmd (sI σ7 (ρ this 57) (15 + x1).toNatClampNeg (-1)) fun σ9 =>
    rec23 (x1 + 1) σ9
def f_X12_begin_23 (N : Nat) (ρ : Nat → Nat → Nat) (this : Nat) : Nat → Int32 → St → Option (Int32 × St)
  | 0, _, _ => none
  | n + 1, x1, σ => b_X12_begin_23 N ρ this (f_X12_begin_23 N ρ this n) x1 σ
def b_X12_begin_2 (N : Nat) (ρ : Nat → Nat → Nat) (this : Nat) (rec2 : Int32 → St → Option (Int32 × St)) (x1 : Int32) (σ : St) : Option (Int32 × St) :=
  if 22 ≤ (x1 : Int32) then
    f_X12_begin_23 N ρ this N 0 σ
  else
    gd (ib x1 22) <|
    nmd (sI σ (ρ this 57) x1.toNatClampNeg 0) fun σ12 =>
    rec2 (x1 + 1) σ12
def f_X12_begin_2 (N : Nat) (ρ : Nat → Nat → Nat) (this : Nat) : Nat → Int32 → St → Option (Int32 × St)
  | 0, _, _ => none
  | n + 1, x1, σ => b_X12_begin_2 N ρ this (f_X12_begin_2 N ρ this n) x1 σ
def f_X12_begin (N : Nat) (ρ : Nat → Nat → Nat) (this : Nat) (σ : St) : Option (Int32 × St) :=
  f_X12_begin_2 N ρ this N 0 σ
set_option maxRecDepth 100000 in
set_option maxHeartbeats 4000000 in
theorem v_X12_begin_23 {N : Nat} {Γ : SG} {ρ : Nat → Nat → Nat} (hs : Sh Γ ρ) {this : Nat} (h0 : Γ[this]? = some (0, 12)) {n0 : Nat} {r : Int32} {σr : St} (rec23 : Int32 → St → Option (Int32 × St)) (hrec23 : ∀ (x1 : Int32) (σ : St), rec23 x1 σ = some (r, σr) → Go mX12_begin 0 0 0 n0 (Kv Γ ρ σr) 0 0 23 [some (.ref this), some (.int x1)] [] (hp Γ ρ σ)) (x1 : Int32) (σ : St) (hf : b_X12_begin_23 N ρ this rec23 x1 σ = some (r, σr)) : Go mX12_begin 0 0 0 n0 (Kv Γ ρ σr) 0 0 23 [some (.ref this), some (.int x1)] [] (hp Γ ρ σ) := by
  unfold b_X12_begin_23 at hf
  refine go_iload_n 1 dX12_begin_23 rfl rfl ?_
  refine go_aload_n 0 dX12_begin_24 rfl rfl ?_
  refine go_fI fl_X12_395 dX12_begin_25 h0 (by decide) rfl ?_
  refine go_icmp_ge 73 dX12_begin_28 (by decide) (fun c1 => ?_) (fun c1 => ?_)
  · replace hf := (if_pos c1).symm.trans hf
    cases hf
    exact go_vret rfl dX12_begin_73 (Nat.le_refl _) ⟨rfl, rfl⟩
  · replace hf := (if_neg c1).symm.trans hf
    refine go_aload_n 0 dX12_begin_31 rfl rfl ?_
    refine go_fR fl_X12_106 dX12_begin_32 h0 (by decide) rfl ?_
    refine go_iload_n 1 dX12_begin_35 rfl rfl ?_
    refine go_aload_n 0 dX12_begin_36 rfl rfl ?_
    refine go_fR fl_X12_91 dX12_begin_37 h0 (by decide) rfl ?_
    refine go_iload_n 1 dX12_begin_40 rfl rfl ?_
    obtain ⟨g2, hf⟩ := gd_some hf
    refine go_rI dX12_begin_41 (hs.1 _ 12 41 h0 rfl) (ib_in g2) ?_
    obtain ⟨g3, hf⟩ := gd_some hf
    obtain ⟨σ4, eσ4, hf⟩ := nmd_some hf
    refine go_wI dX12_begin_42 (hs.1 _ 12 57 h0 rfl) (ib_in g3) ?_
    rw [eσ4]
    refine go_aload_n 0 dX12_begin_43 rfl rfl ?_
    refine go_fR fl_X12_106 dX12_begin_44 h0 (by decide) rfl ?_
    refine go_iconst 5 dX12_begin_47 (by decide) ?_
    refine go_iload_n 1 dX12_begin_48 rfl rfl ?_
    refine go_iadd dX12_begin_49 ?_
    refine go_aload_n 0 dX12_begin_50 rfl rfl ?_
    refine go_fR fl_X12_97 dX12_begin_51 h0 (by decide) rfl ?_
    refine go_iload_n 1 dX12_begin_54 rfl rfl ?_
    obtain ⟨g5, hf⟩ := gd_some hf
    refine go_rI dX12_begin_55 (hs.1 _ 12 43 h0 rfl) (ib_in g5) ?_
    obtain ⟨g6, hf⟩ := gd_some hf
    obtain ⟨σ7, eσ7, hf⟩ := nmd_some hf
    refine go_wI dX12_begin_56 (hs.1 _ 12 57 h0 rfl) (ib_in g6) ?_
    rw [eσ7]
    refine go_aload_n 0 dX12_begin_57 rfl rfl ?_
    refine go_fR fl_X12_106 dX12_begin_58 h0 (by decide) rfl ?_
    refine go_bipush 15 dX12_begin_61 (by decide) ?_
    refine go_iload_n 1 dX12_begin_63 rfl rfl ?_
    refine go_iadd dX12_begin_64 ?_
    refine go_iconst (-1) dX12_begin_65 (by decide) ?_
    obtain ⟨g8, hf⟩ := gd_some hf
    obtain ⟨σ9, eσ9, hf⟩ := nmd_some hf
    refine go_wI dX12_begin_66 (hs.1 _ 12 57 h0 rfl) (ib_in g8) ?_
    rw [eσ9]
    refine go_iinc (x1 + 1) [some (.ref this), some (.int (x1 + 1))] dX12_begin_67 rfl rfl (by decide) rfl ?_
    refine go_goto 23 dX12_begin_70 (by decide) ?_
    exact hrec23 (x1 + 1) σ9 hf
theorem w_X12_begin_23 {N : Nat} {Γ : SG} {ρ : Nat → Nat → Nat} (hs : Sh Γ ρ) {this : Nat} (h0 : Γ[this]? = some (0, 12)) {n0 : Nat} {r : Int32} {σr : St} : ∀ (n : Nat) (x1 : Int32) (σ : St), f_X12_begin_23 N ρ this n x1 σ = some (r, σr) → Go mX12_begin 0 0 0 n0 (Kv Γ ρ σr) 0 0 23 [some (.ref this), some (.int x1)] [] (hp Γ ρ σ) := by
  intro n
  induction n with
  | zero => intro x1 σ hf; cases hf
  | succ n ih => intro x1 σ hf; exact v_X12_begin_23 hs h0 _ ih x1 σ hf
set_option maxRecDepth 100000 in
set_option maxHeartbeats 4000000 in
theorem v_X12_begin_2 {N : Nat} {Γ : SG} {ρ : Nat → Nat → Nat} (hs : Sh Γ ρ) {this : Nat} (h0 : Γ[this]? = some (0, 12)) {n0 : Nat} {r : Int32} {σr : St} (rec2 : Int32 → St → Option (Int32 × St)) (hrec2 : ∀ (x1 : Int32) (σ : St), rec2 x1 σ = some (r, σr) → Go mX12_begin 0 0 0 n0 (Kv Γ ρ σr) 0 0 2 [some (.ref this), some (.int x1)] [] (hp Γ ρ σ)) (x1 : Int32) (σ : St) (hf : b_X12_begin_2 N ρ this rec2 x1 σ = some (r, σr)) : Go mX12_begin 0 0 0 n0 (Kv Γ ρ σr) 0 0 2 [some (.ref this), some (.int x1)] [] (hp Γ ρ σ) := by
  unfold b_X12_begin_2 at hf
  refine go_iload_n 1 dX12_begin_2 rfl rfl ?_
  refine go_bipush 22 dX12_begin_3 (by decide) ?_
  refine go_icmp_ge 21 dX12_begin_5 (by decide) (fun c10 => ?_) (fun c10 => ?_)
  · replace hf := (if_pos c10).symm.trans hf
    refine go_iconst 0 dX12_begin_21 (by decide) ?_
    refine go_istore_n 1 [some (.ref this), some (.int 0)] dX12_begin_22 rfl (by decide) rfl ?_
    exact w_X12_begin_23 hs h0 N 0 σ hf
  · replace hf := (if_neg c10).symm.trans hf
    refine go_aload_n 0 dX12_begin_8 rfl rfl ?_
    refine go_fR fl_X12_106 dX12_begin_9 h0 (by decide) rfl ?_
    refine go_iload_n 1 dX12_begin_12 rfl rfl ?_
    refine go_iconst 0 dX12_begin_13 (by decide) ?_
    obtain ⟨g11, hf⟩ := gd_some hf
    obtain ⟨σ12, eσ12, hf⟩ := nmd_some hf
    refine go_wI dX12_begin_14 (hs.1 _ 12 57 h0 rfl) (ib_in g11) ?_
    rw [eσ12]
    refine go_iinc (x1 + 1) [some (.ref this), some (.int (x1 + 1))] dX12_begin_15 rfl rfl (by decide) rfl ?_
    refine go_goto 2 dX12_begin_18 (by decide) ?_
    exact hrec2 (x1 + 1) σ12 hf
theorem w_X12_begin_2 {N : Nat} {Γ : SG} {ρ : Nat → Nat → Nat} (hs : Sh Γ ρ) {this : Nat} (h0 : Γ[this]? = some (0, 12)) {n0 : Nat} {r : Int32} {σr : St} : ∀ (n : Nat) (x1 : Int32) (σ : St), f_X12_begin_2 N ρ this n x1 σ = some (r, σr) → Go mX12_begin 0 0 0 n0 (Kv Γ ρ σr) 0 0 2 [some (.ref this), some (.int x1)] [] (hp Γ ρ σ) := by
  intro n
  induction n with
  | zero => intro x1 σ hf; cases hf
  | succ n ih => intro x1 σ hf; exact v_X12_begin_2 hs h0 _ ih x1 σ hf
set_option maxRecDepth 100000 in
set_option maxHeartbeats 4000000 in
theorem t_X12_begin {N : Nat} {Γ : SG} {ρ : Nat → Nat → Nat} (hs : Sh Γ ρ) {this : Nat} (h0 : Γ[this]? = some (0, 12)) {σ : St} {r : Int32} {σr : St} (hf : f_X12_begin N ρ this σ = some (r, σr)) : Tri mX12_begin 0 0 0 [.ref this] (hp Γ ρ σ) (Kv Γ ρ σr) := by
  unfold f_X12_begin at hf
  refine tri_of [some (.ref this), none] (plainFor_of_name rfl) rfl (Nat.le_of_ble_eq_true rfl) ?_
  refine go_iconst 0 dX12_begin_0 (by decide) ?_
  refine go_istore_n 1 [some (.ref this), some (.int 0)] dX12_begin_1 rfl (by decide) rfl ?_
  exact w_X12_begin_2 hs h0 N 0 σ hf
def b_X12_keepAir_2 (N : Nat) (ρ : Nat → Nat → Nat) (this : Nat) (rec2 : Int32 → St → Option (Int32 × St)) (x1 : Int32) (σ : St) : Option (Int32 × St) :=
  if 22 ≤ (x1 : Int32) then
    some (0, σ)
  else
    gd (ib x1 22) <|
    gd (ib x1 22) <|
    nmd (sI σ (ρ this 56) x1.toNatClampNeg (σ.1 (ρ this 57) x1.toNatClampNeg)) fun σ4 =>
    rec2 (x1 + 1) σ4
def f_X12_keepAir_2 (N : Nat) (ρ : Nat → Nat → Nat) (this : Nat) : Nat → Int32 → St → Option (Int32 × St)
  | 0, _, _ => none
  | n + 1, x1, σ => b_X12_keepAir_2 N ρ this (f_X12_keepAir_2 N ρ this n) x1 σ
def f_X12_keepAir (N : Nat) (ρ : Nat → Nat → Nat) (this : Nat) (σ : St) : Option (Int32 × St) :=
  f_X12_keepAir_2 N ρ this N 0 σ
set_option maxRecDepth 100000 in
set_option maxHeartbeats 4000000 in
theorem v_X12_keepAir_2 {N : Nat} {Γ : SG} {ρ : Nat → Nat → Nat} (hs : Sh Γ ρ) {this : Nat} (h0 : Γ[this]? = some (0, 12)) {n0 : Nat} {r : Int32} {σr : St} (rec2 : Int32 → St → Option (Int32 × St)) (hrec2 : ∀ (x1 : Int32) (σ : St), rec2 x1 σ = some (r, σr) → Go mX12_keepAir 0 0 0 n0 (Kv Γ ρ σr) 0 0 2 [some (.ref this), some (.int x1)] [] (hp Γ ρ σ)) (x1 : Int32) (σ : St) (hf : b_X12_keepAir_2 N ρ this rec2 x1 σ = some (r, σr)) : Go mX12_keepAir 0 0 0 n0 (Kv Γ ρ σr) 0 0 2 [some (.ref this), some (.int x1)] [] (hp Γ ρ σ) := by
  unfold b_X12_keepAir_2 at hf
  refine go_iload_n 1 dX12_keepAir_2 rfl rfl ?_
  refine go_bipush 22 dX12_keepAir_3 (by decide) ?_
  refine go_icmp_ge 26 dX12_keepAir_5 (by decide) (fun c1 => ?_) (fun c1 => ?_)
  · replace hf := (if_pos c1).symm.trans hf
    cases hf
    exact go_vret rfl dX12_keepAir_26 (Nat.le_refl _) ⟨rfl, rfl⟩
  · replace hf := (if_neg c1).symm.trans hf
    refine go_aload_n 0 dX12_keepAir_8 rfl rfl ?_
    refine go_fR fl_X12_103 dX12_keepAir_9 h0 (by decide) rfl ?_
    refine go_iload_n 1 dX12_keepAir_12 rfl rfl ?_
    refine go_aload_n 0 dX12_keepAir_13 rfl rfl ?_
    refine go_fR fl_X12_106 dX12_keepAir_14 h0 (by decide) rfl ?_
    refine go_iload_n 1 dX12_keepAir_17 rfl rfl ?_
    obtain ⟨g2, hf⟩ := gd_some hf
    refine go_rI dX12_keepAir_18 (hs.1 _ 12 57 h0 rfl) (ib_in g2) ?_
    obtain ⟨g3, hf⟩ := gd_some hf
    obtain ⟨σ4, eσ4, hf⟩ := nmd_some hf
    refine go_wI dX12_keepAir_19 (hs.1 _ 12 56 h0 rfl) (ib_in g3) ?_
    rw [eσ4]
    refine go_iinc (x1 + 1) [some (.ref this), some (.int (x1 + 1))] dX12_keepAir_20 rfl rfl (by decide) rfl ?_
    refine go_goto 2 dX12_keepAir_23 (by decide) ?_
    exact hrec2 (x1 + 1) σ4 hf
theorem w_X12_keepAir_2 {N : Nat} {Γ : SG} {ρ : Nat → Nat → Nat} (hs : Sh Γ ρ) {this : Nat} (h0 : Γ[this]? = some (0, 12)) {n0 : Nat} {r : Int32} {σr : St} : ∀ (n : Nat) (x1 : Int32) (σ : St), f_X12_keepAir_2 N ρ this n x1 σ = some (r, σr) → Go mX12_keepAir 0 0 0 n0 (Kv Γ ρ σr) 0 0 2 [some (.ref this), some (.int x1)] [] (hp Γ ρ σ) := by
  intro n
  induction n with
  | zero => intro x1 σ hf; cases hf
  | succ n ih => intro x1 σ hf; exact v_X12_keepAir_2 hs h0 _ ih x1 σ hf
set_option maxRecDepth 100000 in
set_option maxHeartbeats 4000000 in
theorem t_X12_keepAir {N : Nat} {Γ : SG} {ρ : Nat → Nat → Nat} (hs : Sh Γ ρ) {this : Nat} (h0 : Γ[this]? = some (0, 12)) {σ : St} {r : Int32} {σr : St} (hf : f_X12_keepAir N ρ this σ = some (r, σr)) : Tri mX12_keepAir 0 0 0 [.ref this] (hp Γ ρ σ) (Kv Γ ρ σr) := by
  unfold f_X12_keepAir at hf
  refine tri_of [some (.ref this), none] (plainFor_of_name rfl) rfl (Nat.le_of_ble_eq_true rfl) ?_
  refine go_iconst 0 dX12_keepAir_0 (by decide) ?_
  refine go_istore_n 1 [some (.ref this), some (.int 0)] dX12_keepAir_1 rfl (by decide) rfl ?_
  exact w_X12_keepAir_2 hs h0 N 0 σ hf
def b_X12_chapel_91 (N : Nat) (ρ : Nat → Nat → Nat) (this : Nat) (rec55 : Int32 → St → Option (Int32 × St)) (rec91 : Int32 → Int32 → St → Option (Int32 × St)) (x1 : Int32) (x2 : Int32) (σ : St) : Option (Int32 × St) :=
  gd (ib x1 2) <|
  if ((320 * x1) + (σ.1 (ρ this 16) x1.toNatClampNeg)) ≤ (x2 : Int32) then
    rec55 (x1 + 1) σ
  else
    gd (ib x2 640) <|
    gd (ib x2 640) <|
    nmd (sI σ (ρ this 14) x2.toNatClampNeg (σ.1 (ρ this 11) x2.toNatClampNeg)) fun σ5 =>
    gd (ib x2 640) <|
    gd (ib x2 640) <|
    nmd (sI σ5 (ρ this 15) x2.toNatClampNeg (σ5.1 (ρ this 12) x2.toNatClampNeg)) fun σ8 =>
    rec91 x1 (x2 + 1) σ8
def f_X12_chapel_91 (N : Nat) (ρ : Nat → Nat → Nat) (this : Nat) (rec55 : Int32 → St → Option (Int32 × St)) : Nat → Int32 → Int32 → St → Option (Int32 × St)
  | 0, _, _, _ => none
  | n + 1, x1, x2, σ => b_X12_chapel_91 N ρ this rec55 (f_X12_chapel_91 N ρ this rec55 n) x1 x2 σ
def f_X12_chapel_84 (N : Nat) (ρ : Nat → Nat → Nat) (this : Nat) (rec55 : Int32 → St → Option (Int32 × St)) (x1 : Int32) (s0 : Int32) (s1 : Int32) (σ : St) : Option (Int32 × St) :=
  gd (ib s1 2) <|
  nmd (sI σ (ρ this 16) s1.toNatClampNeg s0) fun σ10 =>
  nmd (320 * x1) fun y11 =>
  f_X12_chapel_91 N ρ this rec55 N x1 y11 σ10
def b_X12_chapel_312 (N : Nat) (ρ : Nat → Nat → Nat) (this : Nat) (rec312 : Int32 → St → Option (Int32 × St)) (x1 : Int32) (σ : St) : Option (Int32 × St) :=
  if 3 ≤ (x1 : Int32) then
    some (σ.1 this 50, σ)
  else
    gd (ib x1 3) <|
    nmd (sI σ (ρ this 80) x1.toNatClampNeg (vp_nar .boolean 0)) fun σ14 =>
    rec312 (x1 + 1) σ14
def f_X12_chapel_312 (N : Nat) (ρ : Nat → Nat → Nat) (this : Nat) : Nat → Int32 → St → Option (Int32 × St)
  | 0, _, _ => none
  | n + 1, x1, σ => b_X12_chapel_312 N ρ this (f_X12_chapel_312 N ρ this n) x1 σ
def b_X12_chapel_209 (N : Nat) (ρ : Nat → Nat → Nat) (this : Nat) (rec209 : Int32 → St → Option (Int32 × St)) (x1 : Int32) (σ : St) : Option (Int32 × St) :=
  if (σ.1 this 50) ≤ (x1 : Int32) then
    bnd (f_X12_begin N ρ this σ) fun _ σ17 =>
    gd (ib 21 22) <|
    nmd (sI σ17 (ρ this 57) (21 : Int32).toNatClampNeg (σ17.1 this 48)) fun σ20 =>
    bnd (f_X12_keepAir N ρ this σ20) fun _ σ22 =>
    nmd (sI σ22 this 62 0) fun σ24 =>
    nmd (sI σ24 this 63 0) fun σ25 =>
    nmd (sI σ25 this 74 0) fun σ26 =>
    nmd (sI σ26 this 65 0) fun σ27 =>
    f_X12_chapel_312 N ρ this N 0 σ27
  else
    gd (ib x1 5) <|
    gd (ib x1 5) <|
    nmd (sI σ (ρ this 40) x1.toNatClampNeg (σ.1 (ρ this 32) x1.toNatClampNeg)) fun σ30 =>
    gd (ib x1 5) <|
    gd (ib x1 5) <|
    nmd (sI σ30 (ρ this 41) x1.toNatClampNeg (σ30.1 (ρ this 33) x1.toNatClampNeg)) fun σ33 =>
    gd (ib x1 5) <|
    gd (ib x1 5) <|
    nmd (sI σ33 (ρ this 42) x1.toNatClampNeg (σ33.1 (ρ this 34) x1.toNatClampNeg)) fun σ36 =>
    gd (ib x1 5) <|
    gd (ib x1 5) <|
    nmd (sI σ36 (ρ this 43) x1.toNatClampNeg (σ36.1 (ρ this 35) x1.toNatClampNeg)) fun σ39 =>
    rec209 (x1 + 1) σ39
def f_X12_chapel_209 (N : Nat) (ρ : Nat → Nat → Nat) (this : Nat) : Nat → Int32 → St → Option (Int32 × St)
  | 0, _, _ => none
  | n + 1, x1, σ => b_X12_chapel_209 N ρ this (f_X12_chapel_209 N ρ this n) x1 σ
def b_X12_chapel_145 (N : Nat) (ρ : Nat → Nat → Nat) (this : Nat) (rec145 : Int32 → St → Option (Int32 × St)) (x1 : Int32) (σ : St) : Option (Int32 × St) :=
  if (σ.1 this 49) ≤ (x1 : Int32) then
    f_X12_chapel_209 N ρ this N 0 σ
  else
    gd (ib x1 6) <|
    gd (ib x1 6) <|
    nmd (sI σ (ρ this 36) x1.toNatClampNeg (σ.1 (ρ this 28) x1.toNatClampNeg)) fun σ43 =>
    gd (ib x1 6) <|
    gd (ib x1 6) <|
    nmd (sI σ43 (ρ this 37) x1.toNatClampNeg (σ43.1 (ρ this 29) x1.toNatClampNeg)) fun σ46 =>
    gd (ib x1 6) <|
    gd (ib x1 6) <|
    nmd (sI σ46 (ρ this 38) x1.toNatClampNeg (σ46.1 (ρ this 30) x1.toNatClampNeg)) fun σ49 =>
    gd (ib x1 6) <|
    gd (ib x1 6) <|
    nmd (sI σ49 (ρ this 39) x1.toNatClampNeg (σ49.1 (ρ this 31) x1.toNatClampNeg)) fun σ52 =>
    rec145 (x1 + 1) σ52
def f_X12_chapel_145 (N : Nat) (ρ : Nat → Nat → Nat) (this : Nat) : Nat → Int32 → St → Option (Int32 × St)
  | 0, _, _ => none
  | n + 1, x1, σ => b_X12_chapel_145 N ρ this (f_X12_chapel_145 N ρ this n) x1 σ
def b_X12_chapel_55 (N : Nat) (ρ : Nat → Nat → Nat) (this : Nat) (rec55 : Int32 → St → Option (Int32 × St)) (x1 : Int32) (σ : St) : Option (Int32 × St) :=
  if 2 ≤ (x1 : Int32) then
    f_X12_chapel_145 N ρ this N 0 σ
  else
    gd (ib x1 2) <|
    if (σ.1 (ρ this 19) x1.toNatClampNeg : Int32) = 0 then
      f_X12_chapel_84 N ρ this rec55 x1 0 x1 σ
    else
      gd (ib x1 2) <|
      f_X12_chapel_84 N ρ this rec55 x1 (σ.1 (ρ this 13) x1.toNatClampNeg) x1 σ
def f_X12_chapel_55 (N : Nat) (ρ : Nat → Nat → Nat) (this : Nat) : Nat → Int32 → St → Option (Int32 × St)
  | 0, _, _ => none
  | n + 1, x1, σ => b_X12_chapel_55 N ρ this (f_X12_chapel_55 N ρ this n) x1 σ
def f_X12_chapel (N : Nat) (ρ : Nat → Nat → Nat) (this : Nat) (σ : St) : Option (Int32 × St) :=
  bnd (f_X12_readAll N ρ this σ) fun _ σ58 =>
  if (σ58.1 this 2 : Int32) ≤ 0 then
    nmd (sI σ58 this 49 (σ58.1 this 44)) fun σ61 =>
    nmd (sI σ61 this 50 (σ61.1 this 45)) fun σ62 =>
    nmd (sI σ62 this 51 (σ62.1 this 46)) fun σ63 =>
    nmd (sI σ63 this 52 (σ63.1 this 47)) fun σ64 =>
    nmd (sI σ64 this 23 (σ64.1 this 22)) fun σ65 =>
    f_X12_chapel_55 N ρ this N 0 σ65
  else
    some ((-1), σ58)
set_option maxRecDepth 100000 in
set_option maxHeartbeats 4000000 in
theorem v_X12_chapel_91 {N : Nat} {Γ : SG} {ρ : Nat → Nat → Nat} (hs : Sh Γ ρ) {this : Nat} (h0 : Γ[this]? = some (0, 12)) {n0 : Nat} {r : Int32} {σr : St} (rec55 : Int32 → St → Option (Int32 × St)) (hrec55 : ∀ (x1 : Int32) (σ : St), rec55 x1 σ = some (r, σr) → Go mX12_chapel 8 0 0 n0 (Ki Γ ρ r σr) 0 0 55 [some (.ref this), some (.int x1), none] [] (hp Γ ρ σ)) (rec91 : Int32 → Int32 → St → Option (Int32 × St)) (hrec91 : ∀ (x1 : Int32) (x2 : Int32) (σ : St), rec91 x1 x2 σ = some (r, σr) → Go mX12_chapel 8 0 0 n0 (Ki Γ ρ r σr) 0 0 91 [some (.ref this), some (.int x1), some (.int x2)] [] (hp Γ ρ σ)) (x1 : Int32) (x2 : Int32) (σ : St) (hf : b_X12_chapel_91 N ρ this rec55 rec91 x1 x2 σ = some (r, σr)) : Go mX12_chapel 8 0 0 n0 (Ki Γ ρ r σr) 0 0 91 [some (.ref this), some (.int x1), some (.int x2)] [] (hp Γ ρ σ) := by
  unfold b_X12_chapel_91 at hf
  refine go_iload_n 2 dX12_chapel_91 rfl rfl ?_
  refine go_sipush 320 dX12_chapel_92 (by decide) ?_
  refine go_iload_n 1 dX12_chapel_95 rfl rfl ?_
  refine go_imul dX12_chapel_96 ?_
  refine go_aload_n 0 dX12_chapel_97 rfl rfl ?_
  refine go_fR fl_X12_36 dX12_chapel_98 h0 (by decide) rfl ?_
  refine go_iload_n 1 dX12_chapel_101 rfl rfl ?_
  obtain ⟨g1, hf⟩ := gd_some hf
  refine go_rI dX12_chapel_102 (hs.1 _ 12 16 h0 rfl) (ib_in g1) ?_
  refine go_iadd dX12_chapel_103 ?_
  refine go_icmp_ge 137 dX12_chapel_104 (by decide) (fun c2 => ?_) (fun c2 => ?_)
  · replace hf := (if_pos c2).symm.trans hf
    refine go_iinc (x1 + 1) [some (.ref this), some (.int (x1 + 1)), some (.int x2)] dX12_chapel_137 rfl rfl (by decide) rfl ?_
    refine go_goto 55 dX12_chapel_140 (by decide) ?_
    refine go_msk [true, true, false] [some (.ref this), some (.int (x1 + 1)), none] rfl ?_
    exact hrec55 (x1 + 1) σ hf
  · replace hf := (if_neg c2).symm.trans hf
    refine go_aload_n 0 dX12_chapel_107 rfl rfl ?_
    refine go_fR fl_X12_30 dX12_chapel_108 h0 (by decide) rfl ?_
    refine go_iload_n 2 dX12_chapel_111 rfl rfl ?_
    refine go_aload_n 0 dX12_chapel_112 rfl rfl ?_
    refine go_fR fl_X12_21 dX12_chapel_113 h0 (by decide) rfl ?_
    refine go_iload_n 2 dX12_chapel_116 rfl rfl ?_
    obtain ⟨g3, hf⟩ := gd_some hf
    refine go_rI dX12_chapel_117 (hs.1 _ 12 11 h0 rfl) (ib_in g3) ?_
    obtain ⟨g4, hf⟩ := gd_some hf
    obtain ⟨σ5, eσ5, hf⟩ := nmd_some hf
    refine go_wI dX12_chapel_118 (hs.1 _ 12 14 h0 rfl) (ib_in g4) ?_
    rw [eσ5]
    refine go_aload_n 0 dX12_chapel_119 rfl rfl ?_
    refine go_fR fl_X12_33 dX12_chapel_120 h0 (by decide) rfl ?_
    refine go_iload_n 2 dX12_chapel_123 rfl rfl ?_
    refine go_aload_n 0 dX12_chapel_124 rfl rfl ?_
    refine go_fR fl_X12_24 dX12_chapel_125 h0 (by decide) rfl ?_
    refine go_iload_n 2 dX12_chapel_128 rfl rfl ?_
    obtain ⟨g6, hf⟩ := gd_some hf
    refine go_rI dX12_chapel_129 (hs.1 _ 12 12 h0 rfl) (ib_in g6) ?_
    obtain ⟨g7, hf⟩ := gd_some hf
    obtain ⟨σ8, eσ8, hf⟩ := nmd_some hf
    refine go_wI dX12_chapel_130 (hs.1 _ 12 15 h0 rfl) (ib_in g7) ?_
    rw [eσ8]
    refine go_iinc (x2 + 1) [some (.ref this), some (.int x1), some (.int (x2 + 1))] dX12_chapel_131 rfl rfl (by decide) rfl ?_
    refine go_goto 91 dX12_chapel_134 (by decide) ?_
    exact hrec91 x1 (x2 + 1) σ8 hf
theorem w_X12_chapel_91 {N : Nat} {Γ : SG} {ρ : Nat → Nat → Nat} (hs : Sh Γ ρ) {this : Nat} (h0 : Γ[this]? = some (0, 12)) {n0 : Nat} {r : Int32} {σr : St} (rec55 : Int32 → St → Option (Int32 × St)) (hrec55 : ∀ (x1 : Int32) (σ : St), rec55 x1 σ = some (r, σr) → Go mX12_chapel 8 0 0 n0 (Ki Γ ρ r σr) 0 0 55 [some (.ref this), some (.int x1), none] [] (hp Γ ρ σ)) : ∀ (n : Nat) (x1 : Int32) (x2 : Int32) (σ : St), f_X12_chapel_91 N ρ this rec55 n x1 x2 σ = some (r, σr) → Go mX12_chapel 8 0 0 n0 (Ki Γ ρ r σr) 0 0 91 [some (.ref this), some (.int x1), some (.int x2)] [] (hp Γ ρ σ) := by
  intro n
  induction n with
  | zero => intro x1 x2 σ hf; cases hf
  | succ n ih => intro x1 x2 σ hf; exact v_X12_chapel_91 hs h0 rec55 hrec55 _ ih x1 x2 σ hf
set_option maxRecDepth 100000 in
set_option maxHeartbeats 4000000 in
theorem w_X12_chapel_84 {N : Nat} {Γ : SG} {ρ : Nat → Nat → Nat} (hs : Sh Γ ρ) {this : Nat} (h0 : Γ[this]? = some (0, 12)) {n0 : Nat} {r : Int32} {σr : St} (rec55 : Int32 → St → Option (Int32 × St)) (hrec55 : ∀ (x1 : Int32) (σ : St), rec55 x1 σ = some (r, σr) → Go mX12_chapel 8 0 0 n0 (Ki Γ ρ r σr) 0 0 55 [some (.ref this), some (.int x1), none] [] (hp Γ ρ σ)) (x1 : Int32) (s0 : Int32) (s1 : Int32) (σ : St) (hf : f_X12_chapel_84 N ρ this rec55 x1 s0 s1 σ = some (r, σr)) : Go mX12_chapel 8 0 0 n0 (Ki Γ ρ r σr) 0 0 84 [some (.ref this), some (.int x1), none] [.int s0, .int s1, .ref (ρ this 16)] (hp Γ ρ σ) := by
  unfold f_X12_chapel_84 at hf
  obtain ⟨g9, hf⟩ := gd_some hf
  obtain ⟨σ10, eσ10, hf⟩ := nmd_some hf
  refine go_wI dX12_chapel_84 (hs.1 _ 12 16 h0 rfl) (ib_in g9) ?_
  rw [eσ10]
  refine go_sipush 320 dX12_chapel_85 (by decide) ?_
  refine go_iload_n 1 dX12_chapel_88 rfl rfl ?_
  refine go_imul dX12_chapel_89 ?_
  obtain ⟨y11, ey11, hf⟩ := nmd_some hf
  refine go_nm ey11 ?_
  refine go_istore_n 2 [some (.ref this), some (.int x1), some (.int y11)] dX12_chapel_90 rfl (by decide) rfl ?_
  exact w_X12_chapel_91 hs h0 rec55 hrec55 N x1 y11 σ10 hf
set_option maxRecDepth 100000 in
set_option maxHeartbeats 4000000 in
theorem v_X12_chapel_312 {N : Nat} {Γ : SG} {ρ : Nat → Nat → Nat} (hs : Sh Γ ρ) {this : Nat} (h0 : Γ[this]? = some (0, 12)) {n0 : Nat} {r : Int32} {σr : St} (rec312 : Int32 → St → Option (Int32 × St)) (hrec312 : ∀ (x1 : Int32) (σ : St), rec312 x1 σ = some (r, σr) → Go mX12_chapel 8 0 0 n0 (Ki Γ ρ r σr) 0 0 312 [some (.ref this), some (.int x1), none] [] (hp Γ ρ σ)) (x1 : Int32) (σ : St) (hf : b_X12_chapel_312 N ρ this rec312 x1 σ = some (r, σr)) : Go mX12_chapel 8 0 0 n0 (Ki Γ ρ r σr) 0 0 312 [some (.ref this), some (.int x1), none] [] (hp Γ ρ σ) := by
  unfold b_X12_chapel_312 at hf
  refine go_iload_n 1 dX12_chapel_312 rfl rfl ?_
  refine go_iconst 3 dX12_chapel_313 (by decide) ?_
  refine go_icmp_ge 330 dX12_chapel_314 (by decide) (fun c12 => ?_) (fun c12 => ?_)
  · replace hf := (if_pos c12).symm.trans hf
    refine go_aload_n 0 dX12_chapel_330 rfl rfl ?_
    refine go_fI fl_X12_395 dX12_chapel_331 h0 (by decide) rfl ?_
    cases hf
    exact go_iret rfl dX12_chapel_334 (Nat.le_refl _) ⟨rfl, rfl⟩
  · replace hf := (if_neg c12).symm.trans hf
    refine go_aload_n 0 dX12_chapel_317 rfl rfl ?_
    refine go_fR fl_X12_160 dX12_chapel_318 h0 (by decide) rfl ?_
    refine go_iload_n 1 dX12_chapel_321 rfl rfl ?_
    refine go_iconst 0 dX12_chapel_322 (by decide) ?_
    obtain ⟨g13, hf⟩ := gd_some hf
    obtain ⟨σ14, eσ14, hf⟩ := nmd_some hf
    refine go_wZ dX12_chapel_323 (hs.1 _ 12 80 h0 rfl) (ib_in g13) ?_
    rw [eσ14]
    refine go_iinc (x1 + 1) [some (.ref this), some (.int (x1 + 1)), none] dX12_chapel_324 rfl rfl (by decide) rfl ?_
    refine go_goto 312 dX12_chapel_327 (by decide) ?_
    exact hrec312 (x1 + 1) σ14 hf
theorem w_X12_chapel_312 {N : Nat} {Γ : SG} {ρ : Nat → Nat → Nat} (hs : Sh Γ ρ) {this : Nat} (h0 : Γ[this]? = some (0, 12)) {n0 : Nat} {r : Int32} {σr : St} : ∀ (n : Nat) (x1 : Int32) (σ : St), f_X12_chapel_312 N ρ this n x1 σ = some (r, σr) → Go mX12_chapel 8 0 0 n0 (Ki Γ ρ r σr) 0 0 312 [some (.ref this), some (.int x1), none] [] (hp Γ ρ σ) := by
  intro n
  induction n with
  | zero => intro x1 σ hf; cases hf
  | succ n ih => intro x1 σ hf; exact v_X12_chapel_312 hs h0 _ ih x1 σ hf
set_option maxRecDepth 100000 in
set_option maxHeartbeats 4000000 in
theorem v_X12_chapel_209 {N : Nat} {Γ : SG} {ρ : Nat → Nat → Nat} (hs : Sh Γ ρ) {this : Nat} (h0 : Γ[this]? = some (0, 12)) {n0 : Nat} {r : Int32} {σr : St} (rec209 : Int32 → St → Option (Int32 × St)) (hrec209 : ∀ (x1 : Int32) (σ : St), rec209 x1 σ = some (r, σr) → Go mX12_chapel 8 0 0 n0 (Ki Γ ρ r σr) 0 0 209 [some (.ref this), some (.int x1), none] [] (hp Γ ρ σ)) (x1 : Int32) (σ : St) (hf : b_X12_chapel_209 N ρ this rec209 x1 σ = some (r, σr)) : Go mX12_chapel 8 0 0 n0 (Ki Γ ρ r σr) 0 0 209 [some (.ref this), some (.int x1), none] [] (hp Γ ρ σ) := by
  unfold b_X12_chapel_209 at hf
  refine go_iload_n 1 dX12_chapel_209 rfl rfl ?_
  refine go_aload_n 0 dX12_chapel_210 rfl rfl ?_
  refine go_fI fl_X12_395 dX12_chapel_211 h0 (by decide) rfl ?_
  refine go_icmp_ge 271 dX12_chapel_214 (by decide) (fun c15 => ?_) (fun c15 => ?_)
  · replace hf := (if_pos c15).symm.trans hf
    refine go_aload_n 0 dX12_chapel_271 rfl rfl ?_
    obtain ⟨r16, σ17, q18, hf⟩ := bnd_some hf
    refine go_Vv (av := []) (rest := []) (t_X12_begin hs h0 q18) ok_X12_begin ml_X12_404 dX12_chapel_272 h0 rfl rfl (by decide) (Nat.le_refl _) (Nat.le_refl _) (Nat.le_of_ble_eq_true rfl) ?_
    refine go_aload_n 0 dX12_chapel_275 rfl rfl ?_
    refine go_fR fl_X12_106 dX12_chapel_276 h0 (by decide) rfl ?_
    refine go_bipush 21 dX12_chapel_279 (by decide) ?_
    refine go_aload_n 0 dX12_chapel_281 rfl rfl ?_
    refine go_fI fl_X12_383 dX12_chapel_282 h0 (by decide) rfl ?_
    obtain ⟨g19, hf⟩ := gd_some hf
    obtain ⟨σ20, eσ20, hf⟩ := nmd_some hf
    refine go_wI dX12_chapel_285 (hs.1 _ 12 57 h0 rfl) (ib_in g19) ?_
    rw [eσ20]
    refine go_aload_n 0 dX12_chapel_286 rfl rfl ?_
    obtain ⟨r21, σ22, q23, hf⟩ := bnd_some hf
    refine go_Vv (av := []) (rest := []) (t_X12_keepAir hs h0 q23) ok_X12_keepAir ml_X12_407 dX12_chapel_287 h0 rfl rfl (by decide) (Nat.le_refl _) (Nat.le_refl _) (Nat.le_of_ble_eq_true rfl) ?_
    refine go_aload_n 0 dX12_chapel_290 rfl rfl ?_
    refine go_iconst 0 dX12_chapel_291 (by decide) ?_
    obtain ⟨σ24, eσ24, hf⟩ := nmd_some hf
    refine go_pI fl_X12_410 ft_12_62 (okv_i _) dX12_chapel_292 h0 (by decide) rfl ?_
    rw [eσ24]
    refine go_aload_n 0 dX12_chapel_295 rfl rfl ?_
    refine go_iconst 0 dX12_chapel_296 (by decide) ?_
    obtain ⟨σ25, eσ25, hf⟩ := nmd_some hf
    refine go_pI fl_X12_413 ft_12_63 (okv_i _) dX12_chapel_297 h0 (by decide) rfl ?_
    rw [eσ25]
    refine go_aload_n 0 dX12_chapel_300 rfl rfl ?_
    refine go_iconst 0 dX12_chapel_301 (by decide) ?_
    obtain ⟨σ26, eσ26, hf⟩ := nmd_some hf
    refine go_pI fl_X12_416 ft_12_74 (okv_i _) dX12_chapel_302 h0 (by decide) rfl ?_
    rw [eσ26]
    refine go_aload_n 0 dX12_chapel_305 rfl rfl ?_
    refine go_iconst 0 dX12_chapel_306 (by decide) ?_
    obtain ⟨σ27, eσ27, hf⟩ := nmd_some hf
    refine go_pI fl_X12_419 ft_12_65 (okv_i _) dX12_chapel_307 h0 (by decide) rfl ?_
    rw [eσ27]
    refine go_iconst 0 dX12_chapel_310 (by decide) ?_
    refine go_istore_n 1 [some (.ref this), some (.int 0), none] dX12_chapel_311 rfl (by decide) rfl ?_
    exact w_X12_chapel_312 hs h0 N 0 σ27 hf
  · replace hf := (if_neg c15).symm.trans hf
    refine go_aload_n 0 dX12_chapel_217 rfl rfl ?_
    refine go_fR fl_X12_88 dX12_chapel_218 h0 (by decide) rfl ?_
    refine go_iload_n 1 dX12_chapel_221 rfl rfl ?_
    refine go_aload_n 0 dX12_chapel_222 rfl rfl ?_
    refine go_fR fl_X12_64 dX12_chapel_223 h0 (by decide) rfl ?_
    refine go_iload_n 1 dX12_chapel_226 rfl rfl ?_
    obtain ⟨g28, hf⟩ := gd_some hf
    refine go_rI dX12_chapel_227 (hs.1 _ 12 32 h0 rfl) (ib_in g28) ?_
    obtain ⟨g29, hf⟩ := gd_some hf
    obtain ⟨σ30, eσ30, hf⟩ := nmd_some hf
    refine go_wI dX12_chapel_228 (hs.1 _ 12 40 h0 rfl) (ib_in g29) ?_
    rw [eσ30]
    refine go_aload_n 0 dX12_chapel_229 rfl rfl ?_
    refine go_fR fl_X12_91 dX12_chapel_230 h0 (by decide) rfl ?_
    refine go_iload_n 1 dX12_chapel_233 rfl rfl ?_
    refine go_aload_n 0 dX12_chapel_234 rfl rfl ?_
    refine go_fR fl_X12_67 dX12_chapel_235 h0 (by decide) rfl ?_
    refine go_iload_n 1 dX12_chapel_238 rfl rfl ?_
    obtain ⟨g31, hf⟩ := gd_some hf
    refine go_rI dX12_chapel_239 (hs.1 _ 12 33 h0 rfl) (ib_in g31) ?_
    obtain ⟨g32, hf⟩ := gd_some hf
    obtain ⟨σ33, eσ33, hf⟩ := nmd_some hf
    refine go_wI dX12_chapel_240 (hs.1 _ 12 41 h0 rfl) (ib_in g32) ?_
    rw [eσ33]
    refine go_aload_n 0 dX12_chapel_241 rfl rfl ?_
    refine go_fR fl_X12_94 dX12_chapel_242 h0 (by decide) rfl ?_
    refine go_iload_n 1 dX12_chapel_245 rfl rfl ?_
    refine go_aload_n 0 dX12_chapel_246 rfl rfl ?_
    refine go_fR fl_X12_70 dX12_chapel_247 h0 (by decide) rfl ?_
    refine go_iload_n 1 dX12_chapel_250 rfl rfl ?_
    obtain ⟨g34, hf⟩ := gd_some hf
    refine go_rI dX12_chapel_251 (hs.1 _ 12 34 h0 rfl) (ib_in g34) ?_
    obtain ⟨g35, hf⟩ := gd_some hf
    obtain ⟨σ36, eσ36, hf⟩ := nmd_some hf
    refine go_wI dX12_chapel_252 (hs.1 _ 12 42 h0 rfl) (ib_in g35) ?_
    rw [eσ36]
    refine go_aload_n 0 dX12_chapel_253 rfl rfl ?_
    refine go_fR fl_X12_97 dX12_chapel_254 h0 (by decide) rfl ?_
    refine go_iload_n 1 dX12_chapel_257 rfl rfl ?_
    refine go_aload_n 0 dX12_chapel_258 rfl rfl ?_
    refine go_fR fl_X12_73 dX12_chapel_259 h0 (by decide) rfl ?_
    refine go_iload_n 1 dX12_chapel_262 rfl rfl ?_
    obtain ⟨g37, hf⟩ := gd_some hf
    refine go_rI dX12_chapel_263 (hs.1 _ 12 35 h0 rfl) (ib_in g37) ?_
    obtain ⟨g38, hf⟩ := gd_some hf
    obtain ⟨σ39, eσ39, hf⟩ := nmd_some hf
    refine go_wI dX12_chapel_264 (hs.1 _ 12 43 h0 rfl) (ib_in g38) ?_
    rw [eσ39]
    refine go_iinc (x1 + 1) [some (.ref this), some (.int (x1 + 1)), none] dX12_chapel_265 rfl rfl (by decide) rfl ?_
    refine go_goto 209 dX12_chapel_268 (by decide) ?_
    exact hrec209 (x1 + 1) σ39 hf
theorem w_X12_chapel_209 {N : Nat} {Γ : SG} {ρ : Nat → Nat → Nat} (hs : Sh Γ ρ) {this : Nat} (h0 : Γ[this]? = some (0, 12)) {n0 : Nat} {r : Int32} {σr : St} : ∀ (n : Nat) (x1 : Int32) (σ : St), f_X12_chapel_209 N ρ this n x1 σ = some (r, σr) → Go mX12_chapel 8 0 0 n0 (Ki Γ ρ r σr) 0 0 209 [some (.ref this), some (.int x1), none] [] (hp Γ ρ σ) := by
  intro n
  induction n with
  | zero => intro x1 σ hf; cases hf
  | succ n ih => intro x1 σ hf; exact v_X12_chapel_209 hs h0 _ ih x1 σ hf
set_option maxRecDepth 100000 in
set_option maxHeartbeats 4000000 in
theorem v_X12_chapel_145 {N : Nat} {Γ : SG} {ρ : Nat → Nat → Nat} (hs : Sh Γ ρ) {this : Nat} (h0 : Γ[this]? = some (0, 12)) {n0 : Nat} {r : Int32} {σr : St} (rec145 : Int32 → St → Option (Int32 × St)) (hrec145 : ∀ (x1 : Int32) (σ : St), rec145 x1 σ = some (r, σr) → Go mX12_chapel 8 0 0 n0 (Ki Γ ρ r σr) 0 0 145 [some (.ref this), some (.int x1), none] [] (hp Γ ρ σ)) (x1 : Int32) (σ : St) (hf : b_X12_chapel_145 N ρ this rec145 x1 σ = some (r, σr)) : Go mX12_chapel 8 0 0 n0 (Ki Γ ρ r σr) 0 0 145 [some (.ref this), some (.int x1), none] [] (hp Γ ρ σ) := by
  unfold b_X12_chapel_145 at hf
  refine go_iload_n 1 dX12_chapel_145 rfl rfl ?_
  refine go_aload_n 0 dX12_chapel_146 rfl rfl ?_
  refine go_fI fl_X12_392 dX12_chapel_147 h0 (by decide) rfl ?_
  refine go_icmp_ge 207 dX12_chapel_150 (by decide) (fun c40 => ?_) (fun c40 => ?_)
  · replace hf := (if_pos c40).symm.trans hf
    refine go_iconst 0 dX12_chapel_207 (by decide) ?_
    refine go_istore_n 1 [some (.ref this), some (.int 0), none] dX12_chapel_208 rfl (by decide) rfl ?_
    exact w_X12_chapel_209 hs h0 N 0 σ hf
  · replace hf := (if_neg c40).symm.trans hf
    refine go_aload_n 0 dX12_chapel_153 rfl rfl ?_
    refine go_fR fl_X12_76 dX12_chapel_154 h0 (by decide) rfl ?_
    refine go_iload_n 1 dX12_chapel_157 rfl rfl ?_
    refine go_aload_n 0 dX12_chapel_158 rfl rfl ?_
    refine go_fR fl_X12_52 dX12_chapel_159 h0 (by decide) rfl ?_
    refine go_iload_n 1 dX12_chapel_162 rfl rfl ?_
    obtain ⟨g41, hf⟩ := gd_some hf
    refine go_rI dX12_chapel_163 (hs.1 _ 12 28 h0 rfl) (ib_in g41) ?_
    obtain ⟨g42, hf⟩ := gd_some hf
    obtain ⟨σ43, eσ43, hf⟩ := nmd_some hf
    refine go_wI dX12_chapel_164 (hs.1 _ 12 36 h0 rfl) (ib_in g42) ?_
    rw [eσ43]
    refine go_aload_n 0 dX12_chapel_165 rfl rfl ?_
    refine go_fR fl_X12_79 dX12_chapel_166 h0 (by decide) rfl ?_
    refine go_iload_n 1 dX12_chapel_169 rfl rfl ?_
    refine go_aload_n 0 dX12_chapel_170 rfl rfl ?_
    refine go_fR fl_X12_55 dX12_chapel_171 h0 (by decide) rfl ?_
    refine go_iload_n 1 dX12_chapel_174 rfl rfl ?_
    obtain ⟨g44, hf⟩ := gd_some hf
    refine go_rI dX12_chapel_175 (hs.1 _ 12 29 h0 rfl) (ib_in g44) ?_
    obtain ⟨g45, hf⟩ := gd_some hf
    obtain ⟨σ46, eσ46, hf⟩ := nmd_some hf
    refine go_wI dX12_chapel_176 (hs.1 _ 12 37 h0 rfl) (ib_in g45) ?_
    rw [eσ46]
    refine go_aload_n 0 dX12_chapel_177 rfl rfl ?_
    refine go_fR fl_X12_82 dX12_chapel_178 h0 (by decide) rfl ?_
    refine go_iload_n 1 dX12_chapel_181 rfl rfl ?_
    refine go_aload_n 0 dX12_chapel_182 rfl rfl ?_
    refine go_fR fl_X12_58 dX12_chapel_183 h0 (by decide) rfl ?_
    refine go_iload_n 1 dX12_chapel_186 rfl rfl ?_
    obtain ⟨g47, hf⟩ := gd_some hf
    refine go_rI dX12_chapel_187 (hs.1 _ 12 30 h0 rfl) (ib_in g47) ?_
    obtain ⟨g48, hf⟩ := gd_some hf
    obtain ⟨σ49, eσ49, hf⟩ := nmd_some hf
    refine go_wI dX12_chapel_188 (hs.1 _ 12 38 h0 rfl) (ib_in g48) ?_
    rw [eσ49]
    refine go_aload_n 0 dX12_chapel_189 rfl rfl ?_
    refine go_fR fl_X12_85 dX12_chapel_190 h0 (by decide) rfl ?_
    refine go_iload_n 1 dX12_chapel_193 rfl rfl ?_
    refine go_aload_n 0 dX12_chapel_194 rfl rfl ?_
    refine go_fR fl_X12_61 dX12_chapel_195 h0 (by decide) rfl ?_
    refine go_iload_n 1 dX12_chapel_198 rfl rfl ?_
    obtain ⟨g50, hf⟩ := gd_some hf
    refine go_rI dX12_chapel_199 (hs.1 _ 12 31 h0 rfl) (ib_in g50) ?_
    obtain ⟨g51, hf⟩ := gd_some hf
    obtain ⟨σ52, eσ52, hf⟩ := nmd_some hf
    refine go_wI dX12_chapel_200 (hs.1 _ 12 39 h0 rfl) (ib_in g51) ?_
    rw [eσ52]
    refine go_iinc (x1 + 1) [some (.ref this), some (.int (x1 + 1)), none] dX12_chapel_201 rfl rfl (by decide) rfl ?_
    refine go_goto 145 dX12_chapel_204 (by decide) ?_
    exact hrec145 (x1 + 1) σ52 hf
theorem w_X12_chapel_145 {N : Nat} {Γ : SG} {ρ : Nat → Nat → Nat} (hs : Sh Γ ρ) {this : Nat} (h0 : Γ[this]? = some (0, 12)) {n0 : Nat} {r : Int32} {σr : St} : ∀ (n : Nat) (x1 : Int32) (σ : St), f_X12_chapel_145 N ρ this n x1 σ = some (r, σr) → Go mX12_chapel 8 0 0 n0 (Ki Γ ρ r σr) 0 0 145 [some (.ref this), some (.int x1), none] [] (hp Γ ρ σ) := by
  intro n
  induction n with
  | zero => intro x1 σ hf; cases hf
  | succ n ih => intro x1 σ hf; exact v_X12_chapel_145 hs h0 _ ih x1 σ hf
set_option maxRecDepth 100000 in
set_option maxHeartbeats 4000000 in
theorem v_X12_chapel_55 {N : Nat} {Γ : SG} {ρ : Nat → Nat → Nat} (hs : Sh Γ ρ) {this : Nat} (h0 : Γ[this]? = some (0, 12)) {n0 : Nat} {r : Int32} {σr : St} (rec55 : Int32 → St → Option (Int32 × St)) (hrec55 : ∀ (x1 : Int32) (σ : St), rec55 x1 σ = some (r, σr) → Go mX12_chapel 8 0 0 n0 (Ki Γ ρ r σr) 0 0 55 [some (.ref this), some (.int x1), none] [] (hp Γ ρ σ)) (x1 : Int32) (σ : St) (hf : b_X12_chapel_55 N ρ this rec55 x1 σ = some (r, σr)) : Go mX12_chapel 8 0 0 n0 (Ki Γ ρ r σr) 0 0 55 [some (.ref this), some (.int x1), none] [] (hp Γ ρ σ) := by
  unfold b_X12_chapel_55 at hf
  refine go_iload_n 1 dX12_chapel_55 rfl rfl ?_
  refine go_iconst 2 dX12_chapel_56 (by decide) ?_
  refine go_icmp_ge 143 dX12_chapel_57 (by decide) (fun c53 => ?_) (fun c53 => ?_)
  · replace hf := (if_pos c53).symm.trans hf
    refine go_iconst 0 dX12_chapel_143 (by decide) ?_
    refine go_istore_n 1 [some (.ref this), some (.int 0), none] dX12_chapel_144 rfl (by decide) rfl ?_
    exact w_X12_chapel_145 hs h0 N 0 σ hf
  · replace hf := (if_neg c53).symm.trans hf
    refine go_aload_n 0 dX12_chapel_60 rfl rfl ?_
    refine go_fR fl_X12_36 dX12_chapel_61 h0 (by decide) rfl ?_
    refine go_iload_n 1 dX12_chapel_64 rfl rfl ?_
    refine go_aload_n 0 dX12_chapel_65 rfl rfl ?_
    refine go_fR fl_X12_45 dX12_chapel_66 h0 (by decide) rfl ?_
    refine go_iload_n 1 dX12_chapel_69 rfl rfl ?_
    obtain ⟨g54, hf⟩ := gd_some hf
    refine go_rZ dX12_chapel_70 (hs.1 _ 12 19 h0 rfl) (ib_in g54) ?_
    refine go_if_eq 83 dX12_chapel_71 (by decide) (fun c55 => ?_) (fun c55 => ?_)
    · replace hf := (if_pos c55).symm.trans hf
      refine go_iconst 0 dX12_chapel_83 (by decide) ?_
      exact w_X12_chapel_84 hs h0 rec55 hrec55 x1 0 x1 σ hf
    · replace hf := (if_neg c55).symm.trans hf
      refine go_aload_n 0 dX12_chapel_74 rfl rfl ?_
      refine go_fR fl_X12_27 dX12_chapel_75 h0 (by decide) rfl ?_
      refine go_iload_n 1 dX12_chapel_78 rfl rfl ?_
      obtain ⟨g56, hf⟩ := gd_some hf
      refine go_rI dX12_chapel_79 (hs.1 _ 12 13 h0 rfl) (ib_in g56) ?_
      refine go_goto 84 dX12_chapel_80 (by decide) ?_
      exact w_X12_chapel_84 hs h0 rec55 hrec55 x1 (σ.1 (ρ this 13) x1.toNatClampNeg) x1 σ hf
theorem w_X12_chapel_55 {N : Nat} {Γ : SG} {ρ : Nat → Nat → Nat} (hs : Sh Γ ρ) {this : Nat} (h0 : Γ[this]? = some (0, 12)) {n0 : Nat} {r : Int32} {σr : St} : ∀ (n : Nat) (x1 : Int32) (σ : St), f_X12_chapel_55 N ρ this n x1 σ = some (r, σr) → Go mX12_chapel 8 0 0 n0 (Ki Γ ρ r σr) 0 0 55 [some (.ref this), some (.int x1), none] [] (hp Γ ρ σ) := by
  intro n
  induction n with
  | zero => intro x1 σ hf; cases hf
  | succ n ih => intro x1 σ hf; exact v_X12_chapel_55 hs h0 _ ih x1 σ hf
set_option maxRecDepth 100000 in
set_option maxHeartbeats 4000000 in
theorem t_X12_chapel {N : Nat} {Γ : SG} {ρ : Nat → Nat → Nat} (hs : Sh Γ ρ) {this : Nat} (h0 : Γ[this]? = some (0, 12)) {σ : St} {r : Int32} {σr : St} (hf : f_X12_chapel N ρ this σ = some (r, σr)) : Tri mX12_chapel 8 0 0 [.ref this] (hp Γ ρ σ) (Ki Γ ρ r σr) := by
  unfold f_X12_chapel at hf
  refine tri_of [some (.ref this), none, none] (plainFor_of_name rfl) rfl (Nat.le_of_ble_eq_true rfl) ?_
  refine go_aload_n 0 dX12_chapel_0 rfl rfl ?_
  obtain ⟨r57, σ58, q59, hf⟩ := bnd_some hf
  refine go_Vv (av := []) (rest := []) (t_X12_readAll hs h0 q59) ok_X12_readAll ml_X12_389 dX12_chapel_1 h0 rfl rfl (by decide) (Nat.le_refl _) (Nat.le_refl _) (Nat.le_of_ble_eq_true rfl) ?_
  refine go_aload_n 0 dX12_chapel_4 rfl rfl ?_
  refine go_fI fl_X12_206 dX12_chapel_5 h0 (by decide) rfl ?_
  refine go_if_le 13 dX12_chapel_8 (by decide) (fun c60 => ?_) (fun c60 => ?_)
  · replace hf := (if_pos c60).symm.trans hf
    refine go_aload_n 0 dX12_chapel_13 rfl rfl ?_
    refine go_aload_n 0 dX12_chapel_14 rfl rfl ?_
    refine go_fI fl_X12_346 dX12_chapel_15 h0 (by decide) rfl ?_
    obtain ⟨σ61, eσ61, hf⟩ := nmd_some hf
    refine go_pI fl_X12_392 ft_12_49 (okv_i _) dX12_chapel_18 h0 (by decide) rfl ?_
    rw [eσ61]
    refine go_aload_n 0 dX12_chapel_21 rfl rfl ?_
    refine go_aload_n 0 dX12_chapel_22 rfl rfl ?_
    refine go_fI fl_X12_355 dX12_chapel_23 h0 (by decide) rfl ?_
    obtain ⟨σ62, eσ62, hf⟩ := nmd_some hf
    refine go_pI fl_X12_395 ft_12_50 (okv_i _) dX12_chapel_26 h0 (by decide) rfl ?_
    rw [eσ62]
    refine go_aload_n 0 dX12_chapel_29 rfl rfl ?_
    refine go_aload_n 0 dX12_chapel_30 rfl rfl ?_
    refine go_fI fl_X12_371 dX12_chapel_31 h0 (by decide) rfl ?_
    obtain ⟨σ63, eσ63, hf⟩ := nmd_some hf
    refine go_pI fl_X12_100 ft_12_51 (okv_i _) dX12_chapel_34 h0 (by decide) rfl ?_
    rw [eσ63]
    refine go_aload_n 0 dX12_chapel_37 rfl rfl ?_
    refine go_aload_n 0 dX12_chapel_38 rfl rfl ?_
    refine go_fI fl_X12_377 dX12_chapel_39 h0 (by decide) rfl ?_
    obtain ⟨σ64, eσ64, hf⟩ := nmd_some hf
    refine go_pI fl_X12_398 ft_12_52 (okv_i _) dX12_chapel_42 h0 (by decide) rfl ?_
    rw [eσ64]
    refine go_aload_n 0 dX12_chapel_45 rfl rfl ?_
    refine go_aload_n 0 dX12_chapel_46 rfl rfl ?_
    refine go_fI fl_X12_292 dX12_chapel_47 h0 (by decide) rfl ?_
    obtain ⟨σ65, eσ65, hf⟩ := nmd_some hf
    refine go_pI fl_X12_401 ft_12_23 (okv_i _) dX12_chapel_50 h0 (by decide) rfl ?_
    rw [eσ65]
    refine go_iconst 0 dX12_chapel_53 (by decide) ?_
    refine go_istore_n 1 [some (.ref this), some (.int 0), none] dX12_chapel_54 rfl (by decide) rfl ?_
    exact w_X12_chapel_55 hs h0 N 0 σ65 hf
  · replace hf := (if_neg c60).symm.trans hf
    refine go_iconst (-1) dX12_chapel_11 (by decide) ?_
    cases hf
    exact go_iret rfl dX12_chapel_12 (Nat.le_refl _) ⟨rfl, rfl⟩
def f_X12_fault_24 (N : Nat) (ρ : Nat → Nat → Nat) (this : Nat) (a1 : Int32) (s0 : Int32) (σ : St) : Option (Int32 × St) :=
  some (s0, σ)
def f_X12_fault (N : Nat) (ρ : Nat → Nat → Nat) (this : Nat) (a1 : Int32) (σ : St) : Option (Int32 × St) :=
  if (a1 : Int32) = 0 then
    f_X12_fault_24 N ρ this a1 (σ.1 this 2) σ
  else
    if (a1 : Int32) = 1 then
      f_X12_fault_24 N ρ this a1 (σ.1 this 3) σ
    else
      f_X12_fault_24 N ρ this a1 (-1) σ
set_option maxRecDepth 100000 in
set_option maxHeartbeats 4000000 in
theorem w_X12_fault_24 {N : Nat} {Γ : SG} {ρ : Nat → Nat → Nat} (hs : Sh Γ ρ) {this : Nat} {a1 : Int32} (h0 : Γ[this]? = some (0, 12)) {n0 : Nat} {r : Int32} {σr : St} (s0 : Int32) (σ : St) (hf : f_X12_fault_24 N ρ this a1 s0 σ = some (r, σr)) : Go mX12_fault 0 0 0 n0 (Ki Γ ρ r σr) 0 0 24 [none, none] [.int s0] (hp Γ ρ σ) := by
  unfold f_X12_fault_24 at hf
  cases hf
  exact go_iret rfl dX12_fault_24 (Nat.le_refl _) ⟨rfl, rfl⟩
set_option maxRecDepth 100000 in
set_option maxHeartbeats 4000000 in
theorem t_X12_fault {N : Nat} {Γ : SG} {ρ : Nat → Nat → Nat} (hs : Sh Γ ρ) {this : Nat} {a1 : Int32} (h0 : Γ[this]? = some (0, 12)) {σ : St} {r : Int32} {σr : St} (hf : f_X12_fault N ρ this a1 σ = some (r, σr)) : Tri mX12_fault 0 0 0 [.ref this, .int a1] (hp Γ ρ σ) (Ki Γ ρ r σr) := by
  unfold f_X12_fault at hf
  refine tri_of [some (.ref this), some (.int a1)] (plainFor_of_name rfl) rfl (Nat.le_of_ble_eq_true rfl) ?_
  refine go_iload_n 1 dX12_fault_0 rfl rfl ?_
  refine go_if_ne 11 dX12_fault_1 (by decide) (fun c1 => ?_) (fun c1 => ?_)
  · replace hf := (if_neg c1).symm.trans hf
    refine go_iload_n 1 dX12_fault_11 rfl rfl ?_
    refine go_iconst 1 dX12_fault_12 (by decide) ?_
    refine go_icmp_ne 23 dX12_fault_13 (by decide) (fun c2 => ?_) (fun c2 => ?_)
    · replace hf := (if_neg c2).symm.trans hf
      refine go_iconst (-1) dX12_fault_23 (by decide) ?_
      refine go_msk [false, false] [none, none] rfl ?_
      exact w_X12_fault_24 hs h0 (-1) σ hf
    · replace hf := (if_pos c2).symm.trans hf
      refine go_aload_n 0 dX12_fault_16 rfl rfl ?_
      refine go_fI fl_X12_13 dX12_fault_17 h0 (by decide) rfl ?_
      refine go_goto 24 dX12_fault_20 (by decide) ?_
      refine go_msk [false, false] [none, none] rfl ?_
      exact w_X12_fault_24 hs h0 (σ.1 this 3) σ hf
  · replace hf := (if_pos c1).symm.trans hf
    refine go_aload_n 0 dX12_fault_4 rfl rfl ?_
    refine go_fI fl_X12_206 dX12_fault_5 h0 (by decide) rfl ?_
    refine go_goto 24 dX12_fault_8 (by decide) ?_
    refine go_msk [false, false] [none, none] rfl ?_
    exact w_X12_fault_24 hs h0 (σ.1 this 2) σ hf
def f_X12_isIn_15 (N : Nat) (ρ : Nat → Nat → Nat) (a1 : Int32) (a2 : Int32) (a3 : Int32) (s0 : Int32) (σ : St) : Option (Int32 × St) :=
  gd (bb s0) <|
  some (s0, σ)
def f_X12_isIn_14 (N : Nat) (ρ : Nat → Nat → Nat) (a1 : Int32) (a2 : Int32) (a3 : Int32) (σ : St) : Option (Int32 × St) :=
  f_X12_isIn_15 N ρ a1 a2 a3 0 σ
def f_X12_isIn (N : Nat) (ρ : Nat → Nat → Nat) (a1 : Int32) (a2 : Int32) (a3 : Int32) (σ : St) : Option (Int32 × St) :=
  if (a1 : Int32) < a2 then
    f_X12_isIn_14 N ρ a1 a2 a3 σ
  else
    if a3 < (a1 : Int32) then
      f_X12_isIn_14 N ρ a1 a2 a3 σ
    else
      f_X12_isIn_15 N ρ a1 a2 a3 1 σ
set_option maxRecDepth 100000 in
set_option maxHeartbeats 4000000 in
theorem w_X12_isIn_15 {N : Nat} {Γ : SG} {ρ : Nat → Nat → Nat} (hs : Sh Γ ρ) {a1 : Int32} {a2 : Int32} {a3 : Int32} {n0 : Nat} {r : Int32} {σr : St} (s0 : Int32) (σ : St) (hf : f_X12_isIn_15 N ρ a1 a2 a3 s0 σ = some (r, σr)) : Go mX12_isIn 0 0 0 n0 (Ki Γ ρ r σr) 0 0 15 [none, none, none] [.int s0] (hp Γ ρ σ) := by
  unfold f_X12_isIn_15 at hf
  obtain ⟨g1, hf⟩ := gd_some hf
  cases hf
  exact go_zret rfl (bb_of g1) dX12_isIn_15 (Nat.le_refl _) ⟨rfl, rfl⟩
set_option maxRecDepth 100000 in
set_option maxHeartbeats 4000000 in
theorem w_X12_isIn_14 {N : Nat} {Γ : SG} {ρ : Nat → Nat → Nat} (hs : Sh Γ ρ) {a1 : Int32} {a2 : Int32} {a3 : Int32} {n0 : Nat} {r : Int32} {σr : St} (σ : St) (hf : f_X12_isIn_14 N ρ a1 a2 a3 σ = some (r, σr)) : Go mX12_isIn 0 0 0 n0 (Ki Γ ρ r σr) 0 0 14 [none, none, none] [] (hp Γ ρ σ) := by
  unfold f_X12_isIn_14 at hf
  refine go_iconst 0 dX12_isIn_14 (by decide) ?_
  exact w_X12_isIn_15 hs 0 σ hf
set_option maxRecDepth 100000 in
set_option maxHeartbeats 4000000 in
theorem t_X12_isIn {N : Nat} {Γ : SG} {ρ : Nat → Nat → Nat} (hs : Sh Γ ρ) {a1 : Int32} {a2 : Int32} {a3 : Int32} {σ : St} {r : Int32} {σr : St} (hf : f_X12_isIn N ρ a1 a2 a3 σ = some (r, σr)) : Tri mX12_isIn 0 0 0 [.int a1, .int a2, .int a3] (hp Γ ρ σ) (Ki Γ ρ r σr) := by
  unfold f_X12_isIn at hf
  refine tri_of [some (.int a1), some (.int a2), some (.int a3)] (plainFor_of_name rfl) rfl (Nat.le_of_ble_eq_true rfl) ?_
  refine go_iload_n 0 dX12_isIn_0 rfl rfl ?_
  refine go_iload_n 1 dX12_isIn_1 rfl rfl ?_
  refine go_icmp_lt 14 dX12_isIn_2 (by decide) (fun c2 => ?_) (fun c2 => ?_)
  · replace hf := (if_pos c2).symm.trans hf
    refine go_msk [false, false, false] [none, none, none] rfl ?_
    exact w_X12_isIn_14 hs σ hf
  · replace hf := (if_neg c2).symm.trans hf
    refine go_iload_n 0 dX12_isIn_5 rfl rfl ?_
    refine go_iload_n 2 dX12_isIn_6 rfl rfl ?_
    refine go_icmp_gt 14 dX12_isIn_7 (by decide) (fun c3 => ?_) (fun c3 => ?_)
    · replace hf := (if_pos c3).symm.trans hf
      refine go_msk [false, false, false] [none, none, none] rfl ?_
      exact w_X12_isIn_14 hs σ hf
    · replace hf := (if_neg c3).symm.trans hf
      refine go_iconst 1 dX12_isIn_10 (by decide) ?_
      refine go_goto 15 dX12_isIn_11 (by decide) ?_
      refine go_msk [false, false, false] [none, none, none] rfl ?_
      exact w_X12_isIn_15 hs 1 σ hf
def f_X12_isHearth (N : Nat) (ρ : Nat → Nat → Nat) (this : Nat) (a1 : Int32) (σ : St) : Option (Int32 × St) :=
  bnd (f_X12_isIn N ρ a1 0 ((σ.1 this 49) - 1) σ) fun r1 σ2 =>
  gd (bb r1) <|
  some (r1, σ2)
set_option maxRecDepth 100000 in
set_option maxHeartbeats 4000000 in
theorem t_X12_isHearth {N : Nat} {Γ : SG} {ρ : Nat → Nat → Nat} (hs : Sh Γ ρ) {this : Nat} {a1 : Int32} (h0 : Γ[this]? = some (0, 12)) {σ : St} {r : Int32} {σr : St} (hf : f_X12_isHearth N ρ this a1 σ = some (r, σr)) : Tri mX12_isHearth 1 0 0 [.ref this, .int a1] (hp Γ ρ σ) (Ki Γ ρ r σr) := by
  unfold f_X12_isHearth at hf
  refine tri_of [some (.ref this), some (.int a1)] (plainFor_of_name rfl) rfl (Nat.le_of_ble_eq_true rfl) ?_
  refine go_iload_n 1 dX12_isHearth_0 rfl rfl ?_
  refine go_iconst 0 dX12_isHearth_1 (by decide) ?_
  refine go_aload_n 0 dX12_isHearth_2 rfl rfl ?_
  refine go_fI fl_X12_392 dX12_isHearth_3 h0 (by decide) rfl ?_
  refine go_iconst 1 dX12_isHearth_6 (by decide) ?_
  refine go_isub dX12_isHearth_7 ?_
  obtain ⟨r1, σ2, q3, hf⟩ := bnd_some hf
  refine go_Si (av := [.int a1, .int 0, .int ((σ.1 this 49) - 1)]) (rest := []) (t_X12_isIn hs  q3) ok_X12_isIn ml_X12_422 dX12_isHearth_8 rfl rfl (by decide) (Nat.le_refl _) (Nat.le_refl _) (Nat.le_of_ble_eq_true rfl) ?_
  obtain ⟨g4, hf⟩ := gd_some hf
  cases hf
  exact go_zret rfl (bb_of g4) dX12_isHearth_11 (Nat.le_refl _) ⟨rfl, rfl⟩
def f_X12_isStool (N : Nat) (ρ : Nat → Nat → Nat) (this : Nat) (a1 : Int32) (σ : St) : Option (Int32 × St) :=
  bnd (f_X12_isIn N ρ a1 0 ((σ.1 this 50) - 1) σ) fun r1 σ2 =>
  gd (bb r1) <|
  some (r1, σ2)
set_option maxRecDepth 100000 in
set_option maxHeartbeats 4000000 in
theorem t_X12_isStool {N : Nat} {Γ : SG} {ρ : Nat → Nat → Nat} (hs : Sh Γ ρ) {this : Nat} {a1 : Int32} (h0 : Γ[this]? = some (0, 12)) {σ : St} {r : Int32} {σr : St} (hf : f_X12_isStool N ρ this a1 σ = some (r, σr)) : Tri mX12_isStool 1 0 0 [.ref this, .int a1] (hp Γ ρ σ) (Ki Γ ρ r σr) := by
  unfold f_X12_isStool at hf
  refine tri_of [some (.ref this), some (.int a1)] (plainFor_of_name rfl) rfl (Nat.le_of_ble_eq_true rfl) ?_
  refine go_iload_n 1 dX12_isStool_0 rfl rfl ?_
  refine go_iconst 0 dX12_isStool_1 (by decide) ?_
  refine go_aload_n 0 dX12_isStool_2 rfl rfl ?_
  refine go_fI fl_X12_395 dX12_isStool_3 h0 (by decide) rfl ?_
  refine go_iconst 1 dX12_isStool_6 (by decide) ?_
  refine go_isub dX12_isStool_7 ?_
  obtain ⟨r1, σ2, q3, hf⟩ := bnd_some hf
  refine go_Si (av := [.int a1, .int 0, .int ((σ.1 this 50) - 1)]) (rest := []) (t_X12_isIn hs  q3) ok_X12_isIn ml_X12_422 dX12_isStool_8 rfl rfl (by decide) (Nat.le_refl _) (Nat.le_refl _) (Nat.le_of_ble_eq_true rfl) ?_
  obtain ⟨g4, hf⟩ := gd_some hf
  cases hf
  exact go_zret rfl (bb_of g4) dX12_isStool_11 (Nat.le_refl _) ⟨rfl, rfl⟩
def b_X12_members_4 (N : Nat) (ρ : Nat → Nat → Nat) (a1 : Int32) (rec4 : Int32 → Int32 → St → Option (Int32 × St)) (x1 : Int32) (x2 : Int32) (σ : St) : Option (Int32 × St) :=
  if 6 ≤ (x2 : Int32) then
    some (x1, σ)
  else
    nmd (x1 + ((a1 >>> (x2 &&& 31)) &&& 1)) fun y2 =>
    rec4 y2 (x2 + 1) σ
def f_X12_members_4 (N : Nat) (ρ : Nat → Nat → Nat) (a1 : Int32) : Nat → Int32 → Int32 → St → Option (Int32 × St)
  | 0, _, _, _ => none
  | n + 1, x1, x2, σ => b_X12_members_4 N ρ a1 (f_X12_members_4 N ρ a1 n) x1 x2 σ
def f_X12_members (N : Nat) (ρ : Nat → Nat → Nat) (a1 : Int32) (σ : St) : Option (Int32 × St) :=
  f_X12_members_4 N ρ a1 N 0 0 σ
set_option maxRecDepth 100000 in
set_option maxHeartbeats 4000000 in
theorem v_X12_members_4 {N : Nat} {Γ : SG} {ρ : Nat → Nat → Nat} (hs : Sh Γ ρ) {a1 : Int32} {n0 : Nat} {r : Int32} {σr : St} (rec4 : Int32 → Int32 → St → Option (Int32 × St)) (hrec4 : ∀ (x1 : Int32) (x2 : Int32) (σ : St), rec4 x1 x2 σ = some (r, σr) → Go mX12_members 0 0 0 n0 (Ki Γ ρ r σr) 0 0 4 [some (.int a1), some (.int x1), some (.int x2)] [] (hp Γ ρ σ)) (x1 : Int32) (x2 : Int32) (σ : St) (hf : b_X12_members_4 N ρ a1 rec4 x1 x2 σ = some (r, σr)) : Go mX12_members 0 0 0 n0 (Ki Γ ρ r σr) 0 0 4 [some (.int a1), some (.int x1), some (.int x2)] [] (hp Γ ρ σ) := by
  unfold b_X12_members_4 at hf
  refine go_iload_n 2 dX12_members_4 rfl rfl ?_
  refine go_bipush 6 dX12_members_5 (by decide) ?_
  refine go_icmp_ge 24 dX12_members_7 (by decide) (fun c1 => ?_) (fun c1 => ?_)
  · replace hf := (if_pos c1).symm.trans hf
    refine go_iload_n 1 dX12_members_24 rfl rfl ?_
    cases hf
    exact go_iret rfl dX12_members_25 (Nat.le_refl _) ⟨rfl, rfl⟩
  · replace hf := (if_neg c1).symm.trans hf
    refine go_iload_n 1 dX12_members_10 rfl rfl ?_
    refine go_iload_n 0 dX12_members_11 rfl rfl ?_
    refine go_iload_n 2 dX12_members_12 rfl rfl ?_
    refine go_ishr dX12_members_13 ?_
    refine go_iconst 1 dX12_members_14 (by decide) ?_
    refine go_iand dX12_members_15 ?_
    refine go_iadd dX12_members_16 ?_
    obtain ⟨y2, ey2, hf⟩ := nmd_some hf
    refine go_nm ey2 ?_
    refine go_istore_n 1 [some (.int a1), some (.int y2), some (.int x2)] dX12_members_17 rfl (by decide) rfl ?_
    refine go_iinc (x2 + 1) [some (.int a1), some (.int y2), some (.int (x2 + 1))] dX12_members_18 rfl rfl (by decide) rfl ?_
    refine go_goto 4 dX12_members_21 (by decide) ?_
    exact hrec4 y2 (x2 + 1) σ hf
theorem w_X12_members_4 {N : Nat} {Γ : SG} {ρ : Nat → Nat → Nat} (hs : Sh Γ ρ) {a1 : Int32} {n0 : Nat} {r : Int32} {σr : St} : ∀ (n : Nat) (x1 : Int32) (x2 : Int32) (σ : St), f_X12_members_4 N ρ a1 n x1 x2 σ = some (r, σr) → Go mX12_members 0 0 0 n0 (Ki Γ ρ r σr) 0 0 4 [some (.int a1), some (.int x1), some (.int x2)] [] (hp Γ ρ σ) := by
  intro n
  induction n with
  | zero => intro x1 x2 σ hf; cases hf
  | succ n ih => intro x1 x2 σ hf; exact v_X12_members_4 hs _ ih x1 x2 σ hf
set_option maxRecDepth 100000 in
set_option maxHeartbeats 4000000 in
theorem t_X12_members {N : Nat} {Γ : SG} {ρ : Nat → Nat → Nat} (hs : Sh Γ ρ) {a1 : Int32} {σ : St} {r : Int32} {σr : St} (hf : f_X12_members N ρ a1 σ = some (r, σr)) : Tri mX12_members 0 0 0 [.int a1] (hp Γ ρ σ) (Ki Γ ρ r σr) := by
  unfold f_X12_members at hf
  refine tri_of [some (.int a1), none, none] (plainFor_of_name rfl) rfl (Nat.le_of_ble_eq_true rfl) ?_
  refine go_iconst 0 dX12_members_0 (by decide) ?_
  refine go_istore_n 1 [some (.int a1), some (.int 0), none] dX12_members_1 rfl (by decide) rfl ?_
  refine go_iconst 0 dX12_members_2 (by decide) ?_
  refine go_istore_n 2 [some (.int a1), some (.int 0), some (.int 0)] dX12_members_3 rfl (by decide) rfl ?_
  exact w_X12_members_4 hs N 0 0 σ hf
def f_X12_plain_10 (N : Nat) (ρ : Nat → Nat → Nat) (a1 : Int32) (s0 : Int32) (σ : St) : Option (Int32 × St) :=
  some (s0, σ)
def f_X12_plain (N : Nat) (ρ : Nat → Nat → Nat) (a1 : Int32) (σ : St) : Option (Int32 × St) :=
  if 0 ≤ (a1 : Int32) then
    f_X12_plain_10 N ρ a1 a1 σ
  else
    f_X12_plain_10 N ρ a1 (-a1) σ
set_option maxRecDepth 100000 in
set_option maxHeartbeats 4000000 in
theorem w_X12_plain_10 {N : Nat} {Γ : SG} {ρ : Nat → Nat → Nat} (hs : Sh Γ ρ) {a1 : Int32} {n0 : Nat} {r : Int32} {σr : St} (s0 : Int32) (σ : St) (hf : f_X12_plain_10 N ρ a1 s0 σ = some (r, σr)) : Go mX12_plain 0 0 0 n0 (Ki Γ ρ r σr) 0 0 10 [none] [.int s0] (hp Γ ρ σ) := by
  unfold f_X12_plain_10 at hf
  cases hf
  exact go_iret rfl dX12_plain_10 (Nat.le_refl _) ⟨rfl, rfl⟩
set_option maxRecDepth 100000 in
set_option maxHeartbeats 4000000 in
theorem t_X12_plain {N : Nat} {Γ : SG} {ρ : Nat → Nat → Nat} (hs : Sh Γ ρ) {a1 : Int32} {σ : St} {r : Int32} {σr : St} (hf : f_X12_plain N ρ a1 σ = some (r, σr)) : Tri mX12_plain 0 0 0 [.int a1] (hp Γ ρ σ) (Ki Γ ρ r σr) := by
  unfold f_X12_plain at hf
  refine tri_of [some (.int a1)] (plainFor_of_name rfl) rfl (Nat.le_of_ble_eq_true rfl) ?_
  refine go_iload_n 0 dX12_plain_0 rfl rfl ?_
  refine go_if_ge 9 dX12_plain_1 (by decide) (fun c1 => ?_) (fun c1 => ?_)
  · replace hf := (if_pos c1).symm.trans hf
    refine go_iload_n 0 dX12_plain_9 rfl rfl ?_
    refine go_msk [false] [none] rfl ?_
    exact w_X12_plain_10 hs a1 σ hf
  · replace hf := (if_neg c1).symm.trans hf
    refine go_iload_n 0 dX12_plain_4 rfl rfl ?_
    refine go_ineg dX12_plain_5 ?_
    refine go_goto 10 dX12_plain_6 (by decide) ?_
    refine go_msk [false] [none] rfl ?_
    exact w_X12_plain_10 hs (-a1) σ hf
def b_X12_fill_2 (N : Nat) (ρ : Nat → Nat → Nat) (this : Nat) (rec2 : Int32 → St → Option (Int32 × St)) (x1 : Int32) (σ : St) : Option (Int32 × St) :=
  if 22 ≤ (x1 : Int32) then
    some (0, σ)
  else
    gd (ib x1 22) <|
    gd (ib x1 22) <|
    nmd (sI σ (ρ this 57) x1.toNatClampNeg (σ.1 (ρ this 56) x1.toNatClampNeg)) fun σ4 =>
    rec2 (x1 + 1) σ4
def f_X12_fill_2 (N : Nat) (ρ : Nat → Nat → Nat) (this : Nat) : Nat → Int32 → St → Option (Int32 × St)
  | 0, _, _ => none
  | n + 1, x1, σ => b_X12_fill_2 N ρ this (f_X12_fill_2 N ρ this n) x1 σ
def f_X12_fill (N : Nat) (ρ : Nat → Nat → Nat) (this : Nat) (σ : St) : Option (Int32 × St) :=
  f_X12_fill_2 N ρ this N 0 σ
set_option maxRecDepth 100000 in
set_option maxHeartbeats 4000000 in
theorem v_X12_fill_2 {N : Nat} {Γ : SG} {ρ : Nat → Nat → Nat} (hs : Sh Γ ρ) {this : Nat} (h0 : Γ[this]? = some (0, 12)) {n0 : Nat} {r : Int32} {σr : St} (rec2 : Int32 → St → Option (Int32 × St)) (hrec2 : ∀ (x1 : Int32) (σ : St), rec2 x1 σ = some (r, σr) → Go mX12_fill 0 0 0 n0 (Kv Γ ρ σr) 0 0 2 [some (.ref this), some (.int x1)] [] (hp Γ ρ σ)) (x1 : Int32) (σ : St) (hf : b_X12_fill_2 N ρ this rec2 x1 σ = some (r, σr)) : Go mX12_fill 0 0 0 n0 (Kv Γ ρ σr) 0 0 2 [some (.ref this), some (.int x1)] [] (hp Γ ρ σ) := by
  unfold b_X12_fill_2 at hf
  refine go_iload_n 1 dX12_fill_2 rfl rfl ?_
  refine go_bipush 22 dX12_fill_3 (by decide) ?_
  refine go_icmp_ge 26 dX12_fill_5 (by decide) (fun c1 => ?_) (fun c1 => ?_)
  · replace hf := (if_pos c1).symm.trans hf
    cases hf
    exact go_vret rfl dX12_fill_26 (Nat.le_refl _) ⟨rfl, rfl⟩
  · replace hf := (if_neg c1).symm.trans hf
    refine go_aload_n 0 dX12_fill_8 rfl rfl ?_
    refine go_fR fl_X12_106 dX12_fill_9 h0 (by decide) rfl ?_
    refine go_iload_n 1 dX12_fill_12 rfl rfl ?_
    refine go_aload_n 0 dX12_fill_13 rfl rfl ?_
    refine go_fR fl_X12_103 dX12_fill_14 h0 (by decide) rfl ?_
    refine go_iload_n 1 dX12_fill_17 rfl rfl ?_
    obtain ⟨g2, hf⟩ := gd_some hf
    refine go_rI dX12_fill_18 (hs.1 _ 12 56 h0 rfl) (ib_in g2) ?_
    obtain ⟨g3, hf⟩ := gd_some hf
    obtain ⟨σ4, eσ4, hf⟩ := nmd_some hf
    refine go_wI dX12_fill_19 (hs.1 _ 12 57 h0 rfl) (ib_in g3) ?_
    rw [eσ4]
    refine go_iinc (x1 + 1) [some (.ref this), some (.int (x1 + 1))] dX12_fill_20 rfl rfl (by decide) rfl ?_
    refine go_goto 2 dX12_fill_23 (by decide) ?_
    exact hrec2 (x1 + 1) σ4 hf
theorem w_X12_fill_2 {N : Nat} {Γ : SG} {ρ : Nat → Nat → Nat} (hs : Sh Γ ρ) {this : Nat} (h0 : Γ[this]? = some (0, 12)) {n0 : Nat} {r : Int32} {σr : St} : ∀ (n : Nat) (x1 : Int32) (σ : St), f_X12_fill_2 N ρ this n x1 σ = some (r, σr) → Go mX12_fill 0 0 0 n0 (Kv Γ ρ σr) 0 0 2 [some (.ref this), some (.int x1)] [] (hp Γ ρ σ) := by
  intro n
  induction n with
  | zero => intro x1 σ hf; cases hf
  | succ n ih => intro x1 σ hf; exact v_X12_fill_2 hs h0 _ ih x1 σ hf
set_option maxRecDepth 100000 in
set_option maxHeartbeats 4000000 in
theorem t_X12_fill {N : Nat} {Γ : SG} {ρ : Nat → Nat → Nat} (hs : Sh Γ ρ) {this : Nat} (h0 : Γ[this]? = some (0, 12)) {σ : St} {r : Int32} {σr : St} (hf : f_X12_fill N ρ this σ = some (r, σr)) : Tri mX12_fill 0 0 0 [.ref this] (hp Γ ρ σ) (Kv Γ ρ σr) := by
  unfold f_X12_fill at hf
  refine tri_of [some (.ref this), none] (plainFor_of_name rfl) rfl (Nat.le_of_ble_eq_true rfl) ?_
  refine go_iconst 0 dX12_fill_0 (by decide) ?_
  refine go_istore_n 1 [some (.ref this), some (.int 0)] dX12_fill_1 rfl (by decide) rfl ?_
  exact w_X12_fill_2 hs h0 N 0 σ hf
def b_X12_callAll_2 (N : Nat) (ρ : Nat → Nat → Nat) (this : Nat) (rec2 : Int32 → St → Option (Int32 × St)) (x1 : Int32) (σ : St) : Option (Int32 × St) :=
  if (σ.1 this 50) ≤ (x1 : Int32) then
    some (0, σ)
  else
    gd (ib (15 + x1) 22) <|
    nmd (sI σ (ρ this 57) (15 + x1).toNatClampNeg (-1)) fun σ3 =>
    rec2 (x1 + 1) σ3
def f_X12_callAll_2 (N : Nat) (ρ : Nat → Nat → Nat) (this : Nat) : Nat → Int32 → St → Option (Int32 × St)
  | 0, _, _ => none
  | n + 1, x1, σ => b_X12_callAll_2 N ρ this (f_X12_callAll_2 N ρ this n) x1 σ
def f_X12_callAll (N : Nat) (ρ : Nat → Nat → Nat) (this : Nat) (σ : St) : Option (Int32 × St) :=
  f_X12_callAll_2 N ρ this N 0 σ
set_option maxRecDepth 100000 in
set_option maxHeartbeats 4000000 in
theorem v_X12_callAll_2 {N : Nat} {Γ : SG} {ρ : Nat → Nat → Nat} (hs : Sh Γ ρ) {this : Nat} (h0 : Γ[this]? = some (0, 12)) {n0 : Nat} {r : Int32} {σr : St} (rec2 : Int32 → St → Option (Int32 × St)) (hrec2 : ∀ (x1 : Int32) (σ : St), rec2 x1 σ = some (r, σr) → Go mX12_callAll 0 0 0 n0 (Kv Γ ρ σr) 0 0 2 [some (.ref this), some (.int x1)] [] (hp Γ ρ σ)) (x1 : Int32) (σ : St) (hf : b_X12_callAll_2 N ρ this rec2 x1 σ = some (r, σr)) : Go mX12_callAll 0 0 0 n0 (Kv Γ ρ σr) 0 0 2 [some (.ref this), some (.int x1)] [] (hp Γ ρ σ) := by
  unfold b_X12_callAll_2 at hf
  refine go_iload_n 1 dX12_callAll_2 rfl rfl ?_
  refine go_aload_n 0 dX12_callAll_3 rfl rfl ?_
  refine go_fI fl_X12_395 dX12_callAll_4 h0 (by decide) rfl ?_
  refine go_icmp_ge 26 dX12_callAll_7 (by decide) (fun c1 => ?_) (fun c1 => ?_)
  · replace hf := (if_pos c1).symm.trans hf
    cases hf
    exact go_vret rfl dX12_callAll_26 (Nat.le_refl _) ⟨rfl, rfl⟩
  · replace hf := (if_neg c1).symm.trans hf
    refine go_aload_n 0 dX12_callAll_10 rfl rfl ?_
    refine go_fR fl_X12_106 dX12_callAll_11 h0 (by decide) rfl ?_
    refine go_bipush 15 dX12_callAll_14 (by decide) ?_
    refine go_iload_n 1 dX12_callAll_16 rfl rfl ?_
    refine go_iadd dX12_callAll_17 ?_
    refine go_iconst (-1) dX12_callAll_18 (by decide) ?_
    obtain ⟨g2, hf⟩ := gd_some hf
    obtain ⟨σ3, eσ3, hf⟩ := nmd_some hf
    refine go_wI dX12_callAll_19 (hs.1 _ 12 57 h0 rfl) (ib_in g2) ?_
    rw [eσ3]
    refine go_iinc (x1 + 1) [some (.ref this), some (.int (x1 + 1))] dX12_callAll_20 rfl rfl (by decide) rfl ?_
    refine go_goto 2 dX12_callAll_23 (by decide) ?_
    exact hrec2 (x1 + 1) σ3 hf
theorem w_X12_callAll_2 {N : Nat} {Γ : SG} {ρ : Nat → Nat → Nat} (hs : Sh Γ ρ) {this : Nat} (h0 : Γ[this]? = some (0, 12)) {n0 : Nat} {r : Int32} {σr : St} : ∀ (n : Nat) (x1 : Int32) (σ : St), f_X12_callAll_2 N ρ this n x1 σ = some (r, σr) → Go mX12_callAll 0 0 0 n0 (Kv Γ ρ σr) 0 0 2 [some (.ref this), some (.int x1)] [] (hp Γ ρ σ) := by
  intro n
  induction n with
  | zero => intro x1 σ hf; cases hf
  | succ n ih => intro x1 σ hf; exact v_X12_callAll_2 hs h0 _ ih x1 σ hf
set_option maxRecDepth 100000 in
set_option maxHeartbeats 4000000 in
theorem t_X12_callAll {N : Nat} {Γ : SG} {ρ : Nat → Nat → Nat} (hs : Sh Γ ρ) {this : Nat} (h0 : Γ[this]? = some (0, 12)) {σ : St} {r : Int32} {σr : St} (hf : f_X12_callAll N ρ this σ = some (r, σr)) : Tri mX12_callAll 0 0 0 [.ref this] (hp Γ ρ σ) (Kv Γ ρ σr) := by
  unfold f_X12_callAll at hf
  refine tri_of [some (.ref this), none] (plainFor_of_name rfl) rfl (Nat.le_of_ble_eq_true rfl) ?_
  refine go_iconst 0 dX12_callAll_0 (by decide) ?_
  refine go_istore_n 1 [some (.ref this), some (.int 0)] dX12_callAll_1 rfl (by decide) rfl ?_
  exact w_X12_callAll_2 hs h0 N 0 σ hf
def f_X12_sentTo_31 (N : Nat) (ρ : Nat → Nat → Nat) (this : Nat) (a1 : Int32) (rec4 : Int32 → Int32 → St → Option (Int32 × St)) (x3 : Int32) (s0 : Int32) (s1 : Int32) (σ : St) : Option (Int32 × St) :=
  bnd (f_X12_truth N ρ s0 σ) fun r1 σ2 =>
  nmd (s1 ||| (r1 <<< (x3 &&& 31))) fun y4 =>
  rec4 y4 (x3 + 1) σ2
def b_X12_sentTo_4 (N : Nat) (ρ : Nat → Nat → Nat) (this : Nat) (a1 : Int32) (rec4 : Int32 → Int32 → St → Option (Int32 × St)) (x2 : Int32) (x3 : Int32) (σ : St) : Option (Int32 × St) :=
  if (σ.1 this 50) ≤ (x3 : Int32) then
    some (x2, σ)
  else
    gd (ib (15 + x3) 22) <|
    if (σ.1 (ρ this 57) (15 + x3).toNatClampNeg : Int32) = a1 then
      f_X12_sentTo_31 N ρ this a1 rec4 x3 1 x2 σ
    else
      f_X12_sentTo_31 N ρ this a1 rec4 x3 0 x2 σ
def f_X12_sentTo_4 (N : Nat) (ρ : Nat → Nat → Nat) (this : Nat) (a1 : Int32) : Nat → Int32 → Int32 → St → Option (Int32 × St)
  | 0, _, _, _ => none
  | n + 1, x2, x3, σ => b_X12_sentTo_4 N ρ this a1 (f_X12_sentTo_4 N ρ this a1 n) x2 x3 σ
def f_X12_sentTo (N : Nat) (ρ : Nat → Nat → Nat) (this : Nat) (a1 : Int32) (σ : St) : Option (Int32 × St) :=
  f_X12_sentTo_4 N ρ this a1 N 0 0 σ
set_option maxRecDepth 100000 in
set_option maxHeartbeats 4000000 in
theorem w_X12_sentTo_31 {N : Nat} {Γ : SG} {ρ : Nat → Nat → Nat} (hs : Sh Γ ρ) {this : Nat} {a1 : Int32} (h0 : Γ[this]? = some (0, 12)) {n0 : Nat} {r : Int32} {σr : St} (rec4 : Int32 → Int32 → St → Option (Int32 × St)) (hrec4 : ∀ (x2 : Int32) (x3 : Int32) (σ : St), rec4 x2 x3 σ = some (r, σr) → Go mX12_sentTo 1 0 0 n0 (Ki Γ ρ r σr) 0 0 4 [some (.ref this), some (.int a1), some (.int x2), some (.int x3)] [] (hp Γ ρ σ)) (x3 : Int32) (s0 : Int32) (s1 : Int32) (σ : St) (hf : f_X12_sentTo_31 N ρ this a1 rec4 x3 s0 s1 σ = some (r, σr)) : Go mX12_sentTo 1 0 0 n0 (Ki Γ ρ r σr) 0 0 31 [some (.ref this), some (.int a1), none, some (.int x3)] [.int s0, .int s1] (hp Γ ρ σ) := by
  unfold f_X12_sentTo_31 at hf
  obtain ⟨r1, σ2, q3, hf⟩ := bnd_some hf
  refine go_Si (av := [.int s0]) (rest := [.int s1]) (t_X12_truth hs  q3) ok_X12_truth ml_X12_329 dX12_sentTo_31 rfl rfl (by decide) (Nat.le_refl _) (Nat.le_refl _) (Nat.le_of_ble_eq_true rfl) ?_
  refine go_iload_n 3 dX12_sentTo_34 rfl rfl ?_
  refine go_ishl dX12_sentTo_35 ?_
  refine go_ior dX12_sentTo_36 ?_
  obtain ⟨y4, ey4, hf⟩ := nmd_some hf
  refine go_nm ey4 ?_
  refine go_istore_n 2 [some (.ref this), some (.int a1), some (.int y4), some (.int x3)] dX12_sentTo_37 rfl (by decide) rfl ?_
  refine go_iinc (x3 + 1) [some (.ref this), some (.int a1), some (.int y4), some (.int (x3 + 1))] dX12_sentTo_38 rfl rfl (by decide) rfl ?_
  refine go_goto 4 dX12_sentTo_41 (by decide) ?_
  exact hrec4 y4 (x3 + 1) σ2 hf
set_option maxRecDepth 100000 in
set_option maxHeartbeats 4000000 in
theorem v_X12_sentTo_4 {N : Nat} {Γ : SG} {ρ : Nat → Nat → Nat} (hs : Sh Γ ρ) {this : Nat} {a1 : Int32} (h0 : Γ[this]? = some (0, 12)) {n0 : Nat} {r : Int32} {σr : St} (rec4 : Int32 → Int32 → St → Option (Int32 × St)) (hrec4 : ∀ (x2 : Int32) (x3 : Int32) (σ : St), rec4 x2 x3 σ = some (r, σr) → Go mX12_sentTo 1 0 0 n0 (Ki Γ ρ r σr) 0 0 4 [some (.ref this), some (.int a1), some (.int x2), some (.int x3)] [] (hp Γ ρ σ)) (x2 : Int32) (x3 : Int32) (σ : St) (hf : b_X12_sentTo_4 N ρ this a1 rec4 x2 x3 σ = some (r, σr)) : Go mX12_sentTo 1 0 0 n0 (Ki Γ ρ r σr) 0 0 4 [some (.ref this), some (.int a1), some (.int x2), some (.int x3)] [] (hp Γ ρ σ) := by
  unfold b_X12_sentTo_4 at hf
  refine go_iload_n 3 dX12_sentTo_4 rfl rfl ?_
  refine go_aload_n 0 dX12_sentTo_5 rfl rfl ?_
  refine go_fI fl_X12_395 dX12_sentTo_6 h0 (by decide) rfl ?_
  refine go_icmp_ge 44 dX12_sentTo_9 (by decide) (fun c5 => ?_) (fun c5 => ?_)
  · replace hf := (if_pos c5).symm.trans hf
    refine go_iload_n 2 dX12_sentTo_44 rfl rfl ?_
    cases hf
    exact go_iret rfl dX12_sentTo_45 (Nat.le_refl _) ⟨rfl, rfl⟩
  · replace hf := (if_neg c5).symm.trans hf
    refine go_iload_n 2 dX12_sentTo_12 rfl rfl ?_
    refine go_aload_n 0 dX12_sentTo_13 rfl rfl ?_
    refine go_fR fl_X12_106 dX12_sentTo_14 h0 (by decide) rfl ?_
    refine go_bipush 15 dX12_sentTo_17 (by decide) ?_
    refine go_iload_n 3 dX12_sentTo_19 rfl rfl ?_
    refine go_iadd dX12_sentTo_20 ?_
    obtain ⟨g6, hf⟩ := gd_some hf
    refine go_rI dX12_sentTo_21 (hs.1 _ 12 57 h0 rfl) (ib_in g6) ?_
    refine go_iload_n 1 dX12_sentTo_22 rfl rfl ?_
    refine go_icmp_ne 30 dX12_sentTo_23 (by decide) (fun c7 => ?_) (fun c7 => ?_)
    · replace hf := (if_neg c7).symm.trans hf
      refine go_iconst 0 dX12_sentTo_30 (by decide) ?_
      refine go_msk [true, true, false, true] [some (.ref this), some (.int a1), none, some (.int x3)] rfl ?_
      exact w_X12_sentTo_31 hs h0 rec4 hrec4 x3 0 x2 σ hf
    · replace hf := (if_pos c7).symm.trans hf
      refine go_iconst 1 dX12_sentTo_26 (by decide) ?_
      refine go_goto 31 dX12_sentTo_27 (by decide) ?_
      refine go_msk [true, true, false, true] [some (.ref this), some (.int a1), none, some (.int x3)] rfl ?_
      exact w_X12_sentTo_31 hs h0 rec4 hrec4 x3 1 x2 σ hf
theorem w_X12_sentTo_4 {N : Nat} {Γ : SG} {ρ : Nat → Nat → Nat} (hs : Sh Γ ρ) {this : Nat} {a1 : Int32} (h0 : Γ[this]? = some (0, 12)) {n0 : Nat} {r : Int32} {σr : St} : ∀ (n : Nat) (x2 : Int32) (x3 : Int32) (σ : St), f_X12_sentTo_4 N ρ this a1 n x2 x3 σ = some (r, σr) → Go mX12_sentTo 1 0 0 n0 (Ki Γ ρ r σr) 0 0 4 [some (.ref this), some (.int a1), some (.int x2), some (.int x3)] [] (hp Γ ρ σ) := by
  intro n
  induction n with
  | zero => intro x2 x3 σ hf; cases hf
  | succ n ih => intro x2 x3 σ hf; exact v_X12_sentTo_4 hs h0 _ ih x2 x3 σ hf
set_option maxRecDepth 100000 in
set_option maxHeartbeats 4000000 in
theorem t_X12_sentTo {N : Nat} {Γ : SG} {ρ : Nat → Nat → Nat} (hs : Sh Γ ρ) {this : Nat} {a1 : Int32} (h0 : Γ[this]? = some (0, 12)) {σ : St} {r : Int32} {σr : St} (hf : f_X12_sentTo N ρ this a1 σ = some (r, σr)) : Tri mX12_sentTo 1 0 0 [.ref this, .int a1] (hp Γ ρ σ) (Ki Γ ρ r σr) := by
  unfold f_X12_sentTo at hf
  refine tri_of [some (.ref this), some (.int a1), none, none] (plainFor_of_name rfl) rfl (Nat.le_of_ble_eq_true rfl) ?_
  refine go_iconst 0 dX12_sentTo_0 (by decide) ?_
  refine go_istore_n 2 [some (.ref this), some (.int a1), some (.int 0), none] dX12_sentTo_1 rfl (by decide) rfl ?_
  refine go_iconst 0 dX12_sentTo_2 (by decide) ?_
  refine go_istore_n 3 [some (.ref this), some (.int a1), some (.int 0), some (.int 0)] dX12_sentTo_3 rfl (by decide) rfl ?_
  exact w_X12_sentTo_4 hs h0 N 0 0 σ hf
def f_X12_quarrels_73 (N : Nat) (ρ : Nat → Nat → Nat) (this : Nat) (a1 : Int32) (rec4 : Int32 → Int32 → St → Option (Int32 × St)) (rec15 : Int32 → Int32 → Int32 → St → Option (Int32 × St)) (x3 : Int32) (x4 : Int32) (s0 : Int32) (σ : St) : Option (Int32 × St) :=
  rec15 s0 x3 (x4 + 1) σ
def f_X12_quarrels_68 (N : Nat) (ρ : Nat → Nat → Nat) (this : Nat) (a1 : Int32) (rec4 : Int32 → Int32 → St → Option (Int32 × St)) (rec15 : Int32 → Int32 → Int32 → St → Option (Int32 × St)) (x3 : Int32) (x4 : Int32) (σ : St) : Option (Int32 × St) :=
  f_X12_quarrels_73 N ρ this a1 rec4 rec15 x3 x4 1 σ
def f_X12_quarrels_72 (N : Nat) (ρ : Nat → Nat → Nat) (this : Nat) (a1 : Int32) (rec4 : Int32 → Int32 → St → Option (Int32 × St)) (rec15 : Int32 → Int32 → Int32 → St → Option (Int32 × St)) (x3 : Int32) (x4 : Int32) (σ : St) : Option (Int32 × St) :=
  f_X12_quarrels_73 N ρ this a1 rec4 rec15 x3 x4 0 σ
def b_X12_quarrels_15 (N : Nat) (ρ : Nat → Nat → Nat) (this : Nat) (a1 : Int32) (rec4 : Int32 → Int32 → St → Option (Int32 × St)) (rec15 : Int32 → Int32 → Int32 → St → Option (Int32 × St)) (x2 : Int32) (x3 : Int32) (x4 : Int32) (σ : St) : Option (Int32 × St) :=
  if x3 ≤ (x4 : Int32) then
    rec4 x2 (x3 + 1) σ
  else
    if (x2 : Int32) = 0 then
      gd (ib (15 + x3) 22) <|
      if (σ.1 (ρ this 57) (15 + x3).toNatClampNeg : Int32) = a1 then
        gd (ib (15 + x4) 22) <|
        if (σ.1 (ρ this 57) (15 + x4).toNatClampNeg : Int32) = a1 then
          gd (ib x3 5) <|
          gd (ib x4 5) <|
          if (σ.1 (ρ this 42) x3.toNatClampNeg : Int32) = (σ.1 (ρ this 42) x4.toNatClampNeg) then
            f_X12_quarrels_72 N ρ this a1 rec4 rec15 x3 x4 σ
          else
            f_X12_quarrels_68 N ρ this a1 rec4 rec15 x3 x4 σ
        else
          f_X12_quarrels_72 N ρ this a1 rec4 rec15 x3 x4 σ
      else
        f_X12_quarrels_72 N ρ this a1 rec4 rec15 x3 x4 σ
    else
      f_X12_quarrels_68 N ρ this a1 rec4 rec15 x3 x4 σ
def f_X12_quarrels_15 (N : Nat) (ρ : Nat → Nat → Nat) (this : Nat) (a1 : Int32) (rec4 : Int32 → Int32 → St → Option (Int32 × St)) : Nat → Int32 → Int32 → Int32 → St → Option (Int32 × St)
  | 0, _, _, _, _ => none
  | n + 1, x2, x3, x4, σ => b_X12_quarrels_15 N ρ this a1 rec4 (f_X12_quarrels_15 N ρ this a1 rec4 n) x2 x3 x4 σ
def b_X12_quarrels_4 (N : Nat) (ρ : Nat → Nat → Nat) (this : Nat) (a1 : Int32) (rec4 : Int32 → Int32 → St → Option (Int32 × St)) (x2 : Int32) (x3 : Int32) (σ : St) : Option (Int32 × St) :=
  if (σ.1 this 50) ≤ (x3 : Int32) then
    gd (bb x2) <|
    some (x2, σ)
  else
    f_X12_quarrels_15 N ρ this a1 rec4 N x2 x3 0 σ
def f_X12_quarrels_4 (N : Nat) (ρ : Nat → Nat → Nat) (this : Nat) (a1 : Int32) : Nat → Int32 → Int32 → St → Option (Int32 × St)
  | 0, _, _, _ => none
  | n + 1, x2, x3, σ => b_X12_quarrels_4 N ρ this a1 (f_X12_quarrels_4 N ρ this a1 n) x2 x3 σ
def f_X12_quarrels (N : Nat) (ρ : Nat → Nat → Nat) (this : Nat) (a1 : Int32) (σ : St) : Option (Int32 × St) :=
  f_X12_quarrels_4 N ρ this a1 N 0 0 σ
set_option maxRecDepth 100000 in
set_option maxHeartbeats 4000000 in
theorem w_X12_quarrels_73 {N : Nat} {Γ : SG} {ρ : Nat → Nat → Nat} (hs : Sh Γ ρ) {this : Nat} {a1 : Int32} (h0 : Γ[this]? = some (0, 12)) {n0 : Nat} {r : Int32} {σr : St} (rec4 : Int32 → Int32 → St → Option (Int32 × St)) (hrec4 : ∀ (x2 : Int32) (x3 : Int32) (σ : St), rec4 x2 x3 σ = some (r, σr) → Go mX12_quarrels 0 0 0 n0 (Ki Γ ρ r σr) 0 0 4 [some (.ref this), some (.int a1), some (.int x2), some (.int x3), none] [] (hp Γ ρ σ)) (rec15 : Int32 → Int32 → Int32 → St → Option (Int32 × St)) (hrec15 : ∀ (x2 : Int32) (x3 : Int32) (x4 : Int32) (σ : St), rec15 x2 x3 x4 σ = some (r, σr) → Go mX12_quarrels 0 0 0 n0 (Ki Γ ρ r σr) 0 0 15 [some (.ref this), some (.int a1), some (.int x2), some (.int x3), some (.int x4)] [] (hp Γ ρ σ)) (x3 : Int32) (x4 : Int32) (s0 : Int32) (σ : St) (hf : f_X12_quarrels_73 N ρ this a1 rec4 rec15 x3 x4 s0 σ = some (r, σr)) : Go mX12_quarrels 0 0 0 n0 (Ki Γ ρ r σr) 0 0 73 [some (.ref this), some (.int a1), none, some (.int x3), some (.int x4)] [.int s0] (hp Γ ρ σ) := by
  unfold f_X12_quarrels_73 at hf
  refine go_istore_n 2 [some (.ref this), some (.int a1), some (.int s0), some (.int x3), some (.int x4)] dX12_quarrels_73 rfl (by decide) rfl ?_
  refine go_iinc (x4 + 1) [some (.ref this), some (.int a1), some (.int s0), some (.int x3), some (.int (x4 + 1))] dX12_quarrels_74 rfl rfl (by decide) rfl ?_
  refine go_goto 15 dX12_quarrels_77 (by decide) ?_
  exact hrec15 s0 x3 (x4 + 1) σ hf
set_option maxRecDepth 100000 in
set_option maxHeartbeats 4000000 in
theorem w_X12_quarrels_68 {N : Nat} {Γ : SG} {ρ : Nat → Nat → Nat} (hs : Sh Γ ρ) {this : Nat} {a1 : Int32} (h0 : Γ[this]? = some (0, 12)) {n0 : Nat} {r : Int32} {σr : St} (rec4 : Int32 → Int32 → St → Option (Int32 × St)) (hrec4 : ∀ (x2 : Int32) (x3 : Int32) (σ : St), rec4 x2 x3 σ = some (r, σr) → Go mX12_quarrels 0 0 0 n0 (Ki Γ ρ r σr) 0 0 4 [some (.ref this), some (.int a1), some (.int x2), some (.int x3), none] [] (hp Γ ρ σ)) (rec15 : Int32 → Int32 → Int32 → St → Option (Int32 × St)) (hrec15 : ∀ (x2 : Int32) (x3 : Int32) (x4 : Int32) (σ : St), rec15 x2 x3 x4 σ = some (r, σr) → Go mX12_quarrels 0 0 0 n0 (Ki Γ ρ r σr) 0 0 15 [some (.ref this), some (.int a1), some (.int x2), some (.int x3), some (.int x4)] [] (hp Γ ρ σ)) (x3 : Int32) (x4 : Int32) (σ : St) (hf : f_X12_quarrels_68 N ρ this a1 rec4 rec15 x3 x4 σ = some (r, σr)) : Go mX12_quarrels 0 0 0 n0 (Ki Γ ρ r σr) 0 0 68 [some (.ref this), some (.int a1), none, some (.int x3), some (.int x4)] [] (hp Γ ρ σ) := by
  unfold f_X12_quarrels_68 at hf
  refine go_iconst 1 dX12_quarrels_68 (by decide) ?_
  refine go_goto 73 dX12_quarrels_69 (by decide) ?_
  exact w_X12_quarrels_73 hs h0 rec4 hrec4 rec15 hrec15 x3 x4 1 σ hf
set_option maxRecDepth 100000 in
set_option maxHeartbeats 4000000 in
theorem w_X12_quarrels_72 {N : Nat} {Γ : SG} {ρ : Nat → Nat → Nat} (hs : Sh Γ ρ) {this : Nat} {a1 : Int32} (h0 : Γ[this]? = some (0, 12)) {n0 : Nat} {r : Int32} {σr : St} (rec4 : Int32 → Int32 → St → Option (Int32 × St)) (hrec4 : ∀ (x2 : Int32) (x3 : Int32) (σ : St), rec4 x2 x3 σ = some (r, σr) → Go mX12_quarrels 0 0 0 n0 (Ki Γ ρ r σr) 0 0 4 [some (.ref this), some (.int a1), some (.int x2), some (.int x3), none] [] (hp Γ ρ σ)) (rec15 : Int32 → Int32 → Int32 → St → Option (Int32 × St)) (hrec15 : ∀ (x2 : Int32) (x3 : Int32) (x4 : Int32) (σ : St), rec15 x2 x3 x4 σ = some (r, σr) → Go mX12_quarrels 0 0 0 n0 (Ki Γ ρ r σr) 0 0 15 [some (.ref this), some (.int a1), some (.int x2), some (.int x3), some (.int x4)] [] (hp Γ ρ σ)) (x3 : Int32) (x4 : Int32) (σ : St) (hf : f_X12_quarrels_72 N ρ this a1 rec4 rec15 x3 x4 σ = some (r, σr)) : Go mX12_quarrels 0 0 0 n0 (Ki Γ ρ r σr) 0 0 72 [some (.ref this), some (.int a1), none, some (.int x3), some (.int x4)] [] (hp Γ ρ σ) := by
  unfold f_X12_quarrels_72 at hf
  refine go_iconst 0 dX12_quarrels_72 (by decide) ?_
  exact w_X12_quarrels_73 hs h0 rec4 hrec4 rec15 hrec15 x3 x4 0 σ hf
set_option maxRecDepth 100000 in
set_option maxHeartbeats 4000000 in
theorem v_X12_quarrels_15 {N : Nat} {Γ : SG} {ρ : Nat → Nat → Nat} (hs : Sh Γ ρ) {this : Nat} {a1 : Int32} (h0 : Γ[this]? = some (0, 12)) {n0 : Nat} {r : Int32} {σr : St} (rec4 : Int32 → Int32 → St → Option (Int32 × St)) (hrec4 : ∀ (x2 : Int32) (x3 : Int32) (σ : St), rec4 x2 x3 σ = some (r, σr) → Go mX12_quarrels 0 0 0 n0 (Ki Γ ρ r σr) 0 0 4 [some (.ref this), some (.int a1), some (.int x2), some (.int x3), none] [] (hp Γ ρ σ)) (rec15 : Int32 → Int32 → Int32 → St → Option (Int32 × St)) (hrec15 : ∀ (x2 : Int32) (x3 : Int32) (x4 : Int32) (σ : St), rec15 x2 x3 x4 σ = some (r, σr) → Go mX12_quarrels 0 0 0 n0 (Ki Γ ρ r σr) 0 0 15 [some (.ref this), some (.int a1), some (.int x2), some (.int x3), some (.int x4)] [] (hp Γ ρ σ)) (x2 : Int32) (x3 : Int32) (x4 : Int32) (σ : St) (hf : b_X12_quarrels_15 N ρ this a1 rec4 rec15 x2 x3 x4 σ = some (r, σr)) : Go mX12_quarrels 0 0 0 n0 (Ki Γ ρ r σr) 0 0 15 [some (.ref this), some (.int a1), some (.int x2), some (.int x3), some (.int x4)] [] (hp Γ ρ σ) := by
  unfold b_X12_quarrels_15 at hf
  refine go_iload dX12_quarrels_15 rfl ?_
  refine go_iload_n 3 dX12_quarrels_17 rfl rfl ?_
  refine go_icmp_ge 80 dX12_quarrels_18 (by decide) (fun c1 => ?_) (fun c1 => ?_)
  · replace hf := (if_pos c1).symm.trans hf
    refine go_iinc (x3 + 1) [some (.ref this), some (.int a1), some (.int x2), some (.int (x3 + 1)), some (.int x4)] dX12_quarrels_80 rfl rfl (by decide) rfl ?_
    refine go_goto 4 dX12_quarrels_83 (by decide) ?_
    refine go_msk [true, true, true, true, false] [some (.ref this), some (.int a1), some (.int x2), some (.int (x3 + 1)), none] rfl ?_
    exact hrec4 x2 (x3 + 1) σ hf
  · replace hf := (if_neg c1).symm.trans hf
    refine go_iload_n 2 dX12_quarrels_21 rfl rfl ?_
    refine go_if_ne 68 dX12_quarrels_22 (by decide) (fun c2 => ?_) (fun c2 => ?_)
    · replace hf := (if_neg c2).symm.trans hf
      refine go_msk [true, true, false, true, true] [some (.ref this), some (.int a1), none, some (.int x3), some (.int x4)] rfl ?_
      exact w_X12_quarrels_68 hs h0 rec4 hrec4 rec15 hrec15 x3 x4 σ hf
    · replace hf := (if_pos c2).symm.trans hf
      refine go_aload_n 0 dX12_quarrels_25 rfl rfl ?_
      refine go_fR fl_X12_106 dX12_quarrels_26 h0 (by decide) rfl ?_
      refine go_bipush 15 dX12_quarrels_29 (by decide) ?_
      refine go_iload_n 3 dX12_quarrels_31 rfl rfl ?_
      refine go_iadd dX12_quarrels_32 ?_
      obtain ⟨g3, hf⟩ := gd_some hf
      refine go_rI dX12_quarrels_33 (hs.1 _ 12 57 h0 rfl) (ib_in g3) ?_
      refine go_iload_n 1 dX12_quarrels_34 rfl rfl ?_
      refine go_icmp_ne 72 dX12_quarrels_35 (by decide) (fun c4 => ?_) (fun c4 => ?_)
      · replace hf := (if_neg c4).symm.trans hf
        refine go_msk [true, true, false, true, true] [some (.ref this), some (.int a1), none, some (.int x3), some (.int x4)] rfl ?_
        exact w_X12_quarrels_72 hs h0 rec4 hrec4 rec15 hrec15 x3 x4 σ hf
      · replace hf := (if_pos c4).symm.trans hf
        refine go_aload_n 0 dX12_quarrels_38 rfl rfl ?_
        refine go_fR fl_X12_106 dX12_quarrels_39 h0 (by decide) rfl ?_
        refine go_bipush 15 dX12_quarrels_42 (by decide) ?_
        refine go_iload dX12_quarrels_44 rfl ?_
        refine go_iadd dX12_quarrels_46 ?_
        obtain ⟨g5, hf⟩ := gd_some hf
        refine go_rI dX12_quarrels_47 (hs.1 _ 12 57 h0 rfl) (ib_in g5) ?_
        refine go_iload_n 1 dX12_quarrels_48 rfl rfl ?_
        refine go_icmp_ne 72 dX12_quarrels_49 (by decide) (fun c6 => ?_) (fun c6 => ?_)
        · replace hf := (if_neg c6).symm.trans hf
          refine go_msk [true, true, false, true, true] [some (.ref this), some (.int a1), none, some (.int x3), some (.int x4)] rfl ?_
          exact w_X12_quarrels_72 hs h0 rec4 hrec4 rec15 hrec15 x3 x4 σ hf
        · replace hf := (if_pos c6).symm.trans hf
          refine go_aload_n 0 dX12_quarrels_52 rfl rfl ?_
          refine go_fR fl_X12_94 dX12_quarrels_53 h0 (by decide) rfl ?_
          refine go_iload_n 3 dX12_quarrels_56 rfl rfl ?_
          obtain ⟨g7, hf⟩ := gd_some hf
          refine go_rI dX12_quarrels_57 (hs.1 _ 12 42 h0 rfl) (ib_in g7) ?_
          refine go_aload_n 0 dX12_quarrels_58 rfl rfl ?_
          refine go_fR fl_X12_94 dX12_quarrels_59 h0 (by decide) rfl ?_
          refine go_iload dX12_quarrels_62 rfl ?_
          obtain ⟨g8, hf⟩ := gd_some hf
          refine go_rI dX12_quarrels_64 (hs.1 _ 12 42 h0 rfl) (ib_in g8) ?_
          refine go_icmp_eq 72 dX12_quarrels_65 (by decide) (fun c9 => ?_) (fun c9 => ?_)
          · replace hf := (if_pos c9).symm.trans hf
            refine go_msk [true, true, false, true, true] [some (.ref this), some (.int a1), none, some (.int x3), some (.int x4)] rfl ?_
            exact w_X12_quarrels_72 hs h0 rec4 hrec4 rec15 hrec15 x3 x4 σ hf
          · replace hf := (if_neg c9).symm.trans hf
            refine go_msk [true, true, false, true, true] [some (.ref this), some (.int a1), none, some (.int x3), some (.int x4)] rfl ?_
            exact w_X12_quarrels_68 hs h0 rec4 hrec4 rec15 hrec15 x3 x4 σ hf
theorem w_X12_quarrels_15 {N : Nat} {Γ : SG} {ρ : Nat → Nat → Nat} (hs : Sh Γ ρ) {this : Nat} {a1 : Int32} (h0 : Γ[this]? = some (0, 12)) {n0 : Nat} {r : Int32} {σr : St} (rec4 : Int32 → Int32 → St → Option (Int32 × St)) (hrec4 : ∀ (x2 : Int32) (x3 : Int32) (σ : St), rec4 x2 x3 σ = some (r, σr) → Go mX12_quarrels 0 0 0 n0 (Ki Γ ρ r σr) 0 0 4 [some (.ref this), some (.int a1), some (.int x2), some (.int x3), none] [] (hp Γ ρ σ)) : ∀ (n : Nat) (x2 : Int32) (x3 : Int32) (x4 : Int32) (σ : St), f_X12_quarrels_15 N ρ this a1 rec4 n x2 x3 x4 σ = some (r, σr) → Go mX12_quarrels 0 0 0 n0 (Ki Γ ρ r σr) 0 0 15 [some (.ref this), some (.int a1), some (.int x2), some (.int x3), some (.int x4)] [] (hp Γ ρ σ) := by
  intro n
  induction n with
  | zero => intro x2 x3 x4 σ hf; cases hf
  | succ n ih => intro x2 x3 x4 σ hf; exact v_X12_quarrels_15 hs h0 rec4 hrec4 _ ih x2 x3 x4 σ hf
set_option maxRecDepth 100000 in
set_option maxHeartbeats 4000000 in
theorem v_X12_quarrels_4 {N : Nat} {Γ : SG} {ρ : Nat → Nat → Nat} (hs : Sh Γ ρ) {this : Nat} {a1 : Int32} (h0 : Γ[this]? = some (0, 12)) {n0 : Nat} {r : Int32} {σr : St} (rec4 : Int32 → Int32 → St → Option (Int32 × St)) (hrec4 : ∀ (x2 : Int32) (x3 : Int32) (σ : St), rec4 x2 x3 σ = some (r, σr) → Go mX12_quarrels 0 0 0 n0 (Ki Γ ρ r σr) 0 0 4 [some (.ref this), some (.int a1), some (.int x2), some (.int x3), none] [] (hp Γ ρ σ)) (x2 : Int32) (x3 : Int32) (σ : St) (hf : b_X12_quarrels_4 N ρ this a1 rec4 x2 x3 σ = some (r, σr)) : Go mX12_quarrels 0 0 0 n0 (Ki Γ ρ r σr) 0 0 4 [some (.ref this), some (.int a1), some (.int x2), some (.int x3), none] [] (hp Γ ρ σ) := by
  unfold b_X12_quarrels_4 at hf
  refine go_iload_n 3 dX12_quarrels_4 rfl rfl ?_
  refine go_aload_n 0 dX12_quarrels_5 rfl rfl ?_
  refine go_fI fl_X12_395 dX12_quarrels_6 h0 (by decide) rfl ?_
  refine go_icmp_ge 86 dX12_quarrels_9 (by decide) (fun c10 => ?_) (fun c10 => ?_)
  · replace hf := (if_pos c10).symm.trans hf
    refine go_iload_n 2 dX12_quarrels_86 rfl rfl ?_
    obtain ⟨g11, hf⟩ := gd_some hf
    cases hf
    exact go_zret rfl (bb_of g11) dX12_quarrels_87 (Nat.le_refl _) ⟨rfl, rfl⟩
  · replace hf := (if_neg c10).symm.trans hf
    refine go_iconst 0 dX12_quarrels_12 (by decide) ?_
    refine go_istore [some (.ref this), some (.int a1), some (.int x2), some (.int x3), some (.int 0)] dX12_quarrels_13 (by decide) rfl ?_
    exact w_X12_quarrels_15 hs h0 rec4 hrec4 N x2 x3 0 σ hf
theorem w_X12_quarrels_4 {N : Nat} {Γ : SG} {ρ : Nat → Nat → Nat} (hs : Sh Γ ρ) {this : Nat} {a1 : Int32} (h0 : Γ[this]? = some (0, 12)) {n0 : Nat} {r : Int32} {σr : St} : ∀ (n : Nat) (x2 : Int32) (x3 : Int32) (σ : St), f_X12_quarrels_4 N ρ this a1 n x2 x3 σ = some (r, σr) → Go mX12_quarrels 0 0 0 n0 (Ki Γ ρ r σr) 0 0 4 [some (.ref this), some (.int a1), some (.int x2), some (.int x3), none] [] (hp Γ ρ σ) := by
  intro n
  induction n with
  | zero => intro x2 x3 σ hf; cases hf
  | succ n ih => intro x2 x3 σ hf; exact v_X12_quarrels_4 hs h0 _ ih x2 x3 σ hf
set_option maxRecDepth 100000 in
set_option maxHeartbeats 4000000 in
theorem t_X12_quarrels {N : Nat} {Γ : SG} {ρ : Nat → Nat → Nat} (hs : Sh Γ ρ) {this : Nat} {a1 : Int32} (h0 : Γ[this]? = some (0, 12)) {σ : St} {r : Int32} {σr : St} (hf : f_X12_quarrels N ρ this a1 σ = some (r, σr)) : Tri mX12_quarrels 0 0 0 [.ref this, .int a1] (hp Γ ρ σ) (Ki Γ ρ r σr) := by
  unfold f_X12_quarrels at hf
  refine tri_of [some (.ref this), some (.int a1), none, none, none] (plainFor_of_name rfl) rfl (Nat.le_of_ble_eq_true rfl) ?_
  refine go_iconst 0 dX12_quarrels_0 (by decide) ?_
  refine go_istore_n 2 [some (.ref this), some (.int a1), some (.int 0), none, none] dX12_quarrels_1 rfl (by decide) rfl ?_
  refine go_iconst 0 dX12_quarrels_2 (by decide) ?_
  refine go_istore_n 3 [some (.ref this), some (.int a1), some (.int 0), some (.int 0), none] dX12_quarrels_3 rfl (by decide) rfl ?_
  exact w_X12_quarrels_4 hs h0 N 0 0 σ hf
def f_X12_loadAt (N : Nat) (ρ : Nat → Nat → Nat) (this : Nat) (a1 : Int32) (a2 : Int32) (a3 : Int32) (σ : St) : Option (Int32 × St) :=
  bnd (f_X12_heavyOf N ρ this a2 σ) fun r1 σ2 =>
  gd (nz a3) <|
  bnd (f_X12_worked N ρ this 0 a1 a2 a3 (((r1 + a3) - 1) / a3) 999 σ2) fun r5 σ6 =>
  some (r5, σ6)
set_option maxRecDepth 100000 in
set_option maxHeartbeats 4000000 in
theorem t_X12_loadAt {N : Nat} {Γ : SG} {ρ : Nat → Nat → Nat} (hs : Sh Γ ρ) {this : Nat} {a1 : Int32} {a2 : Int32} {a3 : Int32} (h0 : Γ[this]? = some (0, 12)) {σ : St} {r : Int32} {σr : St} (hf : f_X12_loadAt N ρ this a1 a2 a3 σ = some (r, σr)) : Tri mX12_loadAt 3 0 0 [.ref this, .int a1, .int a2, .int a3] (hp Γ ρ σ) (Ki Γ ρ r σr) := by
  unfold f_X12_loadAt at hf
  refine tri_of [some (.ref this), some (.int a1), some (.int a2), some (.int a3)] (plainFor_of_name rfl) rfl (Nat.le_of_ble_eq_true rfl) ?_
  refine go_aload_n 0 dX12_loadAt_0 rfl rfl ?_
  refine go_iconst 0 dX12_loadAt_1 (by decide) ?_
  refine go_iload_n 1 dX12_loadAt_2 rfl rfl ?_
  refine go_iload_n 2 dX12_loadAt_3 rfl rfl ?_
  refine go_iload_n 3 dX12_loadAt_4 rfl rfl ?_
  refine go_aload_n 0 dX12_loadAt_5 rfl rfl ?_
  refine go_iload_n 2 dX12_loadAt_6 rfl rfl ?_
  obtain ⟨r1, σ2, q3, hf⟩ := bnd_some hf
  refine go_Vi (av := [.int a2]) (rest := [.int a3, .int a2, .int a1, .int 0, .ref this]) (t_X12_heavyOf hs h0 q3) ok_X12_heavyOf ml_X12_336 dX12_loadAt_7 h0 rfl rfl (by decide) (Nat.le_refl _) (Nat.le_refl _) (Nat.le_of_ble_eq_true rfl) ?_
  refine go_iload_n 3 dX12_loadAt_10 rfl rfl ?_
  refine go_iadd dX12_loadAt_11 ?_
  refine go_iconst 1 dX12_loadAt_12 (by decide) ?_
  refine go_isub dX12_loadAt_13 ?_
  refine go_iload_n 3 dX12_loadAt_14 rfl rfl ?_
  obtain ⟨g4, hf⟩ := gd_some hf
  refine go_idiv dX12_loadAt_15 (nz_of g4) ?_
  refine go_sipush 999 dX12_loadAt_16 (by decide) ?_
  obtain ⟨r5, σ6, q7, hf⟩ := bnd_some hf
  refine go_Vi (av := [.int 0, .int a1, .int a2, .int a3, .int (((r1 + a3) - 1) / a3), .int 999]) (rest := []) (t_X12_worked hs h0 q7) ok_X12_worked ml_X12_426 dX12_loadAt_19 h0 rfl rfl (by decide) (Nat.le_refl _) (Nat.le_refl _) (Nat.le_of_ble_eq_true rfl) ?_
  cases hf
  exact go_iret rfl dX12_loadAt_22 (Nat.le_refl _) ⟨rfl, rfl⟩
def f_X12_loadOf (N : Nat) (ρ : Nat → Nat → Nat) (this : Nat) (a1 : Int32) (σ : St) : Option (Int32 × St) :=
  gd (ib (15 + a1) 22) <|
  gd (ib (15 + a1) 22) <|
  bnd (f_X12_sentTo N ρ this (σ.1 (ρ this 57) (15 + a1).toNatClampNeg) σ) fun r3 σ4 =>
  bnd (f_X12_members N ρ r3 σ4) fun r6 σ7 =>
  bnd (f_X12_loadAt N ρ this a1 (σ.1 (ρ this 57) (15 + a1).toNatClampNeg) r6 σ7) fun r9 σ10 =>
  some (r9, σ10)
set_option maxRecDepth 100000 in
set_option maxHeartbeats 4000000 in
theorem t_X12_loadOf {N : Nat} {Γ : SG} {ρ : Nat → Nat → Nat} (hs : Sh Γ ρ) {this : Nat} {a1 : Int32} (h0 : Γ[this]? = some (0, 12)) {σ : St} {r : Int32} {σr : St} (hf : f_X12_loadOf N ρ this a1 σ = some (r, σr)) : Tri mX12_loadOf 4 0 0 [.ref this, .int a1] (hp Γ ρ σ) (Ki Γ ρ r σr) := by
  unfold f_X12_loadOf at hf
  refine tri_of [some (.ref this), some (.int a1)] (plainFor_of_name rfl) rfl (Nat.le_of_ble_eq_true rfl) ?_
  refine go_aload_n 0 dX12_loadOf_0 rfl rfl ?_
  refine go_iload_n 1 dX12_loadOf_1 rfl rfl ?_
  refine go_aload_n 0 dX12_loadOf_2 rfl rfl ?_
  refine go_fR fl_X12_106 dX12_loadOf_3 h0 (by decide) rfl ?_
  refine go_bipush 15 dX12_loadOf_6 (by decide) ?_
  refine go_iload_n 1 dX12_loadOf_8 rfl rfl ?_
  refine go_iadd dX12_loadOf_9 ?_
  obtain ⟨g1, hf⟩ := gd_some hf
  refine go_rI dX12_loadOf_10 (hs.1 _ 12 57 h0 rfl) (ib_in g1) ?_
  refine go_aload_n 0 dX12_loadOf_11 rfl rfl ?_
  refine go_aload_n 0 dX12_loadOf_12 rfl rfl ?_
  refine go_fR fl_X12_106 dX12_loadOf_13 h0 (by decide) rfl ?_
  refine go_bipush 15 dX12_loadOf_16 (by decide) ?_
  refine go_iload_n 1 dX12_loadOf_18 rfl rfl ?_
  refine go_iadd dX12_loadOf_19 ?_
  obtain ⟨g2, hf⟩ := gd_some hf
  refine go_rI dX12_loadOf_20 (hs.1 _ 12 57 h0 rfl) (ib_in g2) ?_
  obtain ⟨r3, σ4, q5, hf⟩ := bnd_some hf
  refine go_Vi (av := [.int (σ.1 (ρ this 57) (15 + a1).toNatClampNeg)]) (rest := [.int (σ.1 (ρ this 57) (15 + a1).toNatClampNeg), .int a1, .ref this]) (t_X12_sentTo hs h0 q5) ok_X12_sentTo ml_X12_430 dX12_loadOf_21 h0 rfl rfl (by decide) (Nat.le_refl _) (Nat.le_refl _) (Nat.le_of_ble_eq_true rfl) ?_
  obtain ⟨r6, σ7, q8, hf⟩ := bnd_some hf
  refine go_Si (av := [.int r3]) (rest := [.int (σ.1 (ρ this 57) (15 + a1).toNatClampNeg), .int a1, .ref this]) (t_X12_members hs  q8) ok_X12_members ml_X12_433 dX12_loadOf_24 rfl rfl (by decide) (Nat.le_refl _) (Nat.le_refl _) (Nat.le_of_ble_eq_true rfl) ?_
  obtain ⟨r9, σ10, q11, hf⟩ := bnd_some hf
  refine go_Vi (av := [.int a1, .int (σ.1 (ρ this 57) (15 + a1).toNatClampNeg), .int r6]) (rest := []) (t_X12_loadAt hs h0 q11) ok_X12_loadAt ml_X12_436 dX12_loadOf_27 h0 rfl rfl (by decide) (Nat.le_refl _) (Nat.le_refl _) (Nat.le_of_ble_eq_true rfl) ?_
  cases hf
  exact go_iret rfl dX12_loadOf_30 (Nat.le_refl _) ⟨rfl, rfl⟩
def f_X12_fareOf_45 (N : Nat) (ρ : Nat → Nat → Nat) (this : Nat) (a1 : Int32) (s0 : Int32) (σ : St) : Option (Int32 × St) :=
  some (s0, σ)
def f_X12_fareOf (N : Nat) (ρ : Nat → Nat → Nat) (this : Nat) (a1 : Int32) (σ : St) : Option (Int32 × St) :=
  gd (ib (15 + a1) 22) <|
  nmd (σ.1 (ρ this 57) (15 + a1).toNatClampNeg) fun y2 =>
  if 0 ≤ (y2 : Int32) then
    bnd (f_X12_quarrels N ρ this y2 σ) fun r4 σ5 =>
    if (r4 : Int32) = 0 then
      bnd (f_X12_loadOf N ρ this a1 σ5) fun r8 σ9 =>
      gd (ib a1 22) <|
      if (σ9.1 (ρ this 57) a1.toNatClampNeg) < (r8 : Int32) then
        f_X12_fareOf_45 N ρ this a1 2 σ9
      else
        f_X12_fareOf_45 N ρ this a1 1 σ9
    else
      some (3, σ5)
  else
    some (0, σ)
set_option maxRecDepth 100000 in
set_option maxHeartbeats 4000000 in
theorem w_X12_fareOf_45 {N : Nat} {Γ : SG} {ρ : Nat → Nat → Nat} (hs : Sh Γ ρ) {this : Nat} {a1 : Int32} (h0 : Γ[this]? = some (0, 12)) {n0 : Nat} {r : Int32} {σr : St} (s0 : Int32) (σ : St) (hf : f_X12_fareOf_45 N ρ this a1 s0 σ = some (r, σr)) : Go mX12_fareOf 5 0 0 n0 (Ki Γ ρ r σr) 0 0 45 [none, none, none] [.int s0] (hp Γ ρ σ) := by
  unfold f_X12_fareOf_45 at hf
  cases hf
  exact go_iret rfl dX12_fareOf_45 (Nat.le_refl _) ⟨rfl, rfl⟩
set_option maxRecDepth 100000 in
set_option maxHeartbeats 4000000 in
theorem t_X12_fareOf {N : Nat} {Γ : SG} {ρ : Nat → Nat → Nat} (hs : Sh Γ ρ) {this : Nat} {a1 : Int32} (h0 : Γ[this]? = some (0, 12)) {σ : St} {r : Int32} {σr : St} (hf : f_X12_fareOf N ρ this a1 σ = some (r, σr)) : Tri mX12_fareOf 5 0 0 [.ref this, .int a1] (hp Γ ρ σ) (Ki Γ ρ r σr) := by
  unfold f_X12_fareOf at hf
  refine tri_of [some (.ref this), some (.int a1), none] (plainFor_of_name rfl) rfl (Nat.le_of_ble_eq_true rfl) ?_
  refine go_aload_n 0 dX12_fareOf_0 rfl rfl ?_
  refine go_fR fl_X12_106 dX12_fareOf_1 h0 (by decide) rfl ?_
  refine go_bipush 15 dX12_fareOf_4 (by decide) ?_
  refine go_iload_n 1 dX12_fareOf_6 rfl rfl ?_
  refine go_iadd dX12_fareOf_7 ?_
  obtain ⟨g1, hf⟩ := gd_some hf
  refine go_rI dX12_fareOf_8 (hs.1 _ 12 57 h0 rfl) (ib_in g1) ?_
  obtain ⟨y2, ey2, hf⟩ := nmd_some hf
  refine go_nm ey2 ?_
  refine go_istore_n 2 [some (.ref this), some (.int a1), some (.int y2)] dX12_fareOf_9 rfl (by decide) rfl ?_
  refine go_iload_n 2 dX12_fareOf_10 rfl rfl ?_
  refine go_if_ge 16 dX12_fareOf_11 (by decide) (fun c3 => ?_) (fun c3 => ?_)
  · replace hf := (if_pos c3).symm.trans hf
    refine go_aload_n 0 dX12_fareOf_16 rfl rfl ?_
    refine go_iload_n 2 dX12_fareOf_17 rfl rfl ?_
    obtain ⟨r4, σ5, q6, hf⟩ := bnd_some hf
    refine go_Vi (av := [.int y2]) (rest := []) (t_X12_quarrels hs h0 q6) ok_X12_quarrels ml_X12_439 dX12_fareOf_18 h0 rfl rfl (by decide) (Nat.le_refl _) (Nat.le_refl _) (Nat.le_of_ble_eq_true rfl) ?_
    refine go_if_eq 26 dX12_fareOf_21 (by decide) (fun c7 => ?_) (fun c7 => ?_)
    · replace hf := (if_pos c7).symm.trans hf
      refine go_aload_n 0 dX12_fareOf_26 rfl rfl ?_
      refine go_iload_n 1 dX12_fareOf_27 rfl rfl ?_
      obtain ⟨r8, σ9, q10, hf⟩ := bnd_some hf
      refine go_Vi (av := [.int a1]) (rest := []) (t_X12_loadOf hs h0 q10) ok_X12_loadOf ml_X12_442 dX12_fareOf_28 h0 rfl rfl (by decide) (Nat.le_refl _) (Nat.le_refl _) (Nat.le_of_ble_eq_true rfl) ?_
      refine go_aload_n 0 dX12_fareOf_31 rfl rfl ?_
      refine go_fR fl_X12_106 dX12_fareOf_32 h0 (by decide) rfl ?_
      refine go_iload_n 1 dX12_fareOf_35 rfl rfl ?_
      obtain ⟨g11, hf⟩ := gd_some hf
      refine go_rI dX12_fareOf_36 (hs.1 _ 12 57 h0 rfl) (ib_in g11) ?_
      refine go_icmp_gt 44 dX12_fareOf_37 (by decide) (fun c12 => ?_) (fun c12 => ?_)
      · replace hf := (if_pos c12).symm.trans hf
        refine go_iconst 2 dX12_fareOf_44 (by decide) ?_
        refine go_msk [false, false, false] [none, none, none] rfl ?_
        exact w_X12_fareOf_45 hs h0 2 σ9 hf
      · replace hf := (if_neg c12).symm.trans hf
        refine go_iconst 1 dX12_fareOf_40 (by decide) ?_
        refine go_goto 45 dX12_fareOf_41 (by decide) ?_
        refine go_msk [false, false, false] [none, none, none] rfl ?_
        exact w_X12_fareOf_45 hs h0 1 σ9 hf
    · replace hf := (if_neg c7).symm.trans hf
      refine go_iconst 3 dX12_fareOf_24 (by decide) ?_
      cases hf
      exact go_iret rfl dX12_fareOf_25 (Nat.le_refl _) ⟨rfl, rfl⟩
  · replace hf := (if_neg c3).symm.trans hf
    refine go_iconst 0 dX12_fareOf_14 (by decide) ?_
    cases hf
    exact go_iret rfl dX12_fareOf_15 (Nat.le_refl _) ⟨rfl, rfl⟩
def f_X12_whoFares_27 (N : Nat) (ρ : Nat → Nat → Nat) (this : Nat) (a1 : Int32) (rec4 : Int32 → Int32 → St → Option (Int32 × St)) (x3 : Int32) (s0 : Int32) (s1 : Int32) (σ : St) : Option (Int32 × St) :=
  bnd (f_X12_truth N ρ s0 σ) fun r1 σ2 =>
  nmd (s1 ||| (r1 <<< (x3 &&& 31))) fun y4 =>
  rec4 y4 (x3 + 1) σ2
def b_X12_whoFares_4 (N : Nat) (ρ : Nat → Nat → Nat) (this : Nat) (a1 : Int32) (rec4 : Int32 → Int32 → St → Option (Int32 × St)) (x2 : Int32) (x3 : Int32) (σ : St) : Option (Int32 × St) :=
  if (σ.1 this 50) ≤ (x3 : Int32) then
    some (x2, σ)
  else
    bnd (f_X12_fareOf N ρ this x3 σ) fun r6 σ7 =>
    if (r6 : Int32) = a1 then
      f_X12_whoFares_27 N ρ this a1 rec4 x3 1 x2 σ7
    else
      f_X12_whoFares_27 N ρ this a1 rec4 x3 0 x2 σ7
def f_X12_whoFares_4 (N : Nat) (ρ : Nat → Nat → Nat) (this : Nat) (a1 : Int32) : Nat → Int32 → Int32 → St → Option (Int32 × St)
  | 0, _, _, _ => none
  | n + 1, x2, x3, σ => b_X12_whoFares_4 N ρ this a1 (f_X12_whoFares_4 N ρ this a1 n) x2 x3 σ
def f_X12_whoFares (N : Nat) (ρ : Nat → Nat → Nat) (this : Nat) (a1 : Int32) (σ : St) : Option (Int32 × St) :=
  f_X12_whoFares_4 N ρ this a1 N 0 0 σ
set_option maxRecDepth 100000 in
set_option maxHeartbeats 4000000 in
theorem w_X12_whoFares_27 {N : Nat} {Γ : SG} {ρ : Nat → Nat → Nat} (hs : Sh Γ ρ) {this : Nat} {a1 : Int32} (h0 : Γ[this]? = some (0, 12)) {n0 : Nat} {r : Int32} {σr : St} (rec4 : Int32 → Int32 → St → Option (Int32 × St)) (hrec4 : ∀ (x2 : Int32) (x3 : Int32) (σ : St), rec4 x2 x3 σ = some (r, σr) → Go mX12_whoFares 6 0 0 n0 (Ki Γ ρ r σr) 0 0 4 [some (.ref this), some (.int a1), some (.int x2), some (.int x3)] [] (hp Γ ρ σ)) (x3 : Int32) (s0 : Int32) (s1 : Int32) (σ : St) (hf : f_X12_whoFares_27 N ρ this a1 rec4 x3 s0 s1 σ = some (r, σr)) : Go mX12_whoFares 6 0 0 n0 (Ki Γ ρ r σr) 0 0 27 [some (.ref this), some (.int a1), none, some (.int x3)] [.int s0, .int s1] (hp Γ ρ σ) := by
  unfold f_X12_whoFares_27 at hf
  obtain ⟨r1, σ2, q3, hf⟩ := bnd_some hf
  refine go_Si (av := [.int s0]) (rest := [.int s1]) (t_X12_truth hs  q3) ok_X12_truth ml_X12_329 dX12_whoFares_27 rfl rfl (by decide) (Nat.le_refl _) (Nat.le_refl _) (Nat.le_of_ble_eq_true rfl) ?_
  refine go_iload_n 3 dX12_whoFares_30 rfl rfl ?_
  refine go_ishl dX12_whoFares_31 ?_
  refine go_ior dX12_whoFares_32 ?_
  obtain ⟨y4, ey4, hf⟩ := nmd_some hf
  refine go_nm ey4 ?_
  refine go_istore_n 2 [some (.ref this), some (.int a1), some (.int y4), some (.int x3)] dX12_whoFares_33 rfl (by decide) rfl ?_
  refine go_iinc (x3 + 1) [some (.ref this), some (.int a1), some (.int y4), some (.int (x3 + 1))] dX12_whoFares_34 rfl rfl (by decide) rfl ?_
  refine go_goto 4 dX12_whoFares_37 (by decide) ?_
  exact hrec4 y4 (x3 + 1) σ2 hf
set_option maxRecDepth 100000 in
set_option maxHeartbeats 4000000 in
theorem v_X12_whoFares_4 {N : Nat} {Γ : SG} {ρ : Nat → Nat → Nat} (hs : Sh Γ ρ) {this : Nat} {a1 : Int32} (h0 : Γ[this]? = some (0, 12)) {n0 : Nat} {r : Int32} {σr : St} (rec4 : Int32 → Int32 → St → Option (Int32 × St)) (hrec4 : ∀ (x2 : Int32) (x3 : Int32) (σ : St), rec4 x2 x3 σ = some (r, σr) → Go mX12_whoFares 6 0 0 n0 (Ki Γ ρ r σr) 0 0 4 [some (.ref this), some (.int a1), some (.int x2), some (.int x3)] [] (hp Γ ρ σ)) (x2 : Int32) (x3 : Int32) (σ : St) (hf : b_X12_whoFares_4 N ρ this a1 rec4 x2 x3 σ = some (r, σr)) : Go mX12_whoFares 6 0 0 n0 (Ki Γ ρ r σr) 0 0 4 [some (.ref this), some (.int a1), some (.int x2), some (.int x3)] [] (hp Γ ρ σ) := by
  unfold b_X12_whoFares_4 at hf
  refine go_iload_n 3 dX12_whoFares_4 rfl rfl ?_
  refine go_aload_n 0 dX12_whoFares_5 rfl rfl ?_
  refine go_fI fl_X12_395 dX12_whoFares_6 h0 (by decide) rfl ?_
  refine go_icmp_ge 40 dX12_whoFares_9 (by decide) (fun c5 => ?_) (fun c5 => ?_)
  · replace hf := (if_pos c5).symm.trans hf
    refine go_iload_n 2 dX12_whoFares_40 rfl rfl ?_
    cases hf
    exact go_iret rfl dX12_whoFares_41 (Nat.le_refl _) ⟨rfl, rfl⟩
  · replace hf := (if_neg c5).symm.trans hf
    refine go_iload_n 2 dX12_whoFares_12 rfl rfl ?_
    refine go_aload_n 0 dX12_whoFares_13 rfl rfl ?_
    refine go_iload_n 3 dX12_whoFares_14 rfl rfl ?_
    obtain ⟨r6, σ7, q8, hf⟩ := bnd_some hf
    refine go_Vi (av := [.int x3]) (rest := [.int x2]) (t_X12_fareOf hs h0 q8) ok_X12_fareOf ml_X12_445 dX12_whoFares_15 h0 rfl rfl (by decide) (Nat.le_refl _) (Nat.le_refl _) (Nat.le_of_ble_eq_true rfl) ?_
    refine go_iload_n 1 dX12_whoFares_18 rfl rfl ?_
    refine go_icmp_ne 26 dX12_whoFares_19 (by decide) (fun c9 => ?_) (fun c9 => ?_)
    · replace hf := (if_neg c9).symm.trans hf
      refine go_iconst 0 dX12_whoFares_26 (by decide) ?_
      refine go_msk [true, true, false, true] [some (.ref this), some (.int a1), none, some (.int x3)] rfl ?_
      exact w_X12_whoFares_27 hs h0 rec4 hrec4 x3 0 x2 σ7 hf
    · replace hf := (if_pos c9).symm.trans hf
      refine go_iconst 1 dX12_whoFares_22 (by decide) ?_
      refine go_goto 27 dX12_whoFares_23 (by decide) ?_
      refine go_msk [true, true, false, true] [some (.ref this), some (.int a1), none, some (.int x3)] rfl ?_
      exact w_X12_whoFares_27 hs h0 rec4 hrec4 x3 1 x2 σ7 hf
theorem w_X12_whoFares_4 {N : Nat} {Γ : SG} {ρ : Nat → Nat → Nat} (hs : Sh Γ ρ) {this : Nat} {a1 : Int32} (h0 : Γ[this]? = some (0, 12)) {n0 : Nat} {r : Int32} {σr : St} : ∀ (n : Nat) (x2 : Int32) (x3 : Int32) (σ : St), f_X12_whoFares_4 N ρ this a1 n x2 x3 σ = some (r, σr) → Go mX12_whoFares 6 0 0 n0 (Ki Γ ρ r σr) 0 0 4 [some (.ref this), some (.int a1), some (.int x2), some (.int x3)] [] (hp Γ ρ σ) := by
  intro n
  induction n with
  | zero => intro x2 x3 σ hf; cases hf
  | succ n ih => intro x2 x3 σ hf; exact v_X12_whoFares_4 hs h0 _ ih x2 x3 σ hf
set_option maxRecDepth 100000 in
set_option maxHeartbeats 4000000 in
theorem t_X12_whoFares {N : Nat} {Γ : SG} {ρ : Nat → Nat → Nat} (hs : Sh Γ ρ) {this : Nat} {a1 : Int32} (h0 : Γ[this]? = some (0, 12)) {σ : St} {r : Int32} {σr : St} (hf : f_X12_whoFares N ρ this a1 σ = some (r, σr)) : Tri mX12_whoFares 6 0 0 [.ref this, .int a1] (hp Γ ρ σ) (Ki Γ ρ r σr) := by
  unfold f_X12_whoFares at hf
  refine tri_of [some (.ref this), some (.int a1), none, none] (plainFor_of_name rfl) rfl (Nat.le_of_ble_eq_true rfl) ?_
  refine go_iconst 0 dX12_whoFares_0 (by decide) ?_
  refine go_istore_n 2 [some (.ref this), some (.int a1), some (.int 0), none] dX12_whoFares_1 rfl (by decide) rfl ?_
  refine go_iconst 0 dX12_whoFares_2 (by decide) ?_
  refine go_istore_n 3 [some (.ref this), some (.int a1), some (.int 0), some (.int 0)] dX12_whoFares_3 rfl (by decide) rfl ?_
  exact w_X12_whoFares_4 hs h0 N 0 0 σ hf
def f_X12_goEvening_100 (N : Nat) (ρ : Nat → Nat → Nat) (this : Nat) (a1 : Int32) (rec2 : Int32 → St → Option (Int32 × St)) (x2 : Int32) (σ : St) : Option (Int32 × St) :=
  rec2 (x2 + 1) σ
def f_X12_goEvening_47 (N : Nat) (ρ : Nat → Nat → Nat) (this : Nat) (a1 : Int32) (rec2 : Int32 → St → Option (Int32 × St)) (x2 : Int32) (x3 : Int32) (s0 : Int32) (s1 : Int32) (σ : St) : Option (Int32 × St) :=
  gd (ib s1 5) <|
  nmd (sI σ (ρ this 58) s1.toNatClampNeg s0) fun σ2 =>
  gd (ib x2 5) <|
  if (σ2.1 (ρ this 58) x2.toNatClampNeg : Int32) = 1 then
    bnd (f_X12_loadOf N ρ this x2 σ2) fun r5 σ6 =>
    gd (ib x2 5) <|
    nmd (sI σ6 (ρ this 59) x2.toNatClampNeg r5) fun σ9 =>
    bnd (f_X12_sentTo N ρ this x3 σ9) fun r10 σ11 =>
    bnd (f_X12_members N ρ r10 σ11) fun r13 σ14 =>
    gd (ib x2 22) <|
    bnd (f_X12_worked N ρ this 1 x2 x3 r13 1 (σ14.1 (ρ this 57) x2.toNatClampNeg) σ14) fun r17 σ18 =>
    gd (ib x2 5) <|
    nmd (sI σ18 (ρ this 60) x2.toNatClampNeg r17) fun σ21 =>
    f_X12_goEvening_100 N ρ this a1 rec2 x2 σ21
  else
    f_X12_goEvening_100 N ρ this a1 rec2 x2 σ2
def f_X12_goEvening_42 (N : Nat) (ρ : Nat → Nat → Nat) (this : Nat) (a1 : Int32) (rec2 : Int32 → St → Option (Int32 × St)) (x2 : Int32) (x3 : Int32) (s0 : Int32) (σ : St) : Option (Int32 × St) :=
  bnd (f_X12_fareOf N ρ this x2 σ) fun r22 σ23 =>
  f_X12_goEvening_47 N ρ this a1 rec2 x2 x3 r22 s0 σ23
def f_X12_goEvening_254 (N : Nat) (ρ : Nat → Nat → Nat) (this : Nat) (a1 : Int32) (rec108 : Int32 → St → Option (Int32 × St)) (x2 : Int32) (σ : St) : Option (Int32 × St) :=
  rec108 (x2 + 1) σ
def b_X12_goEvening_108 (N : Nat) (ρ : Nat → Nat → Nat) (this : Nat) (a1 : Int32) (rec108 : Int32 → St → Option (Int32 × St)) (x2 : Int32) (σ : St) : Option (Int32 × St) :=
  if (σ.1 this 50) ≤ (x2 : Int32) then
    gd (ib 20 22) <|
    gd (ib 20 22) <|
    nmd (sI σ (ρ this 57) (20 : Int32).toNatClampNeg ((σ.1 (ρ this 57) (20 : Int32).toNatClampNeg) + 1)) fun σ28 =>
    some (0, σ28)
  else
    gd (ib x2 5) <|
    if (σ.1 (ρ this 58) x2.toNatClampNeg : Int32) = 0 then
      gd (ib x2 22) <|
      gd (ib x2 5) <|
      bnd (f_X12_within N ρ ((σ.1 (ρ this 57) x2.toNatClampNeg) + 2) (σ.1 (ρ this 41) x2.toNatClampNeg) σ) fun r57 σ58 =>
      gd (ib x2 22) <|
      nmd (sI σ58 (ρ this 57) x2.toNatClampNeg r57) fun σ61 =>
      f_X12_goEvening_254 N ρ this a1 rec108 x2 σ61
    else
      gd (ib x2 5) <|
      if (σ.1 (ρ this 58) x2.toNatClampNeg : Int32) = 1 then
        gd (ib (10 + x2) 22) <|
        bnd (f_X12_within N ρ ((σ.1 (ρ this 57) (10 + x2).toNatClampNeg) + 1) 99 σ) fun r39 σ40 =>
        gd (ib (10 + x2) 22) <|
        nmd (sI σ40 (ρ this 57) (10 + x2).toNatClampNeg r39) fun σ43 =>
        gd (ib (5 + x2) 22) <|
        gd (ib x2 5) <|
        bnd (f_X12_within N ρ ((σ43.1 (ρ this 57) (5 + x2).toNatClampNeg) + ((σ43.1 (ρ this 59) x2.toNatClampNeg) / 5)) 99 σ43) fun r46 σ47 =>
        gd (ib (5 + x2) 22) <|
        nmd (sI σ47 (ρ this 57) (5 + x2).toNatClampNeg r46) fun σ50 =>
        gd (ib x2 22) <|
        gd (ib x2 5) <|
        gd (ib x2 22) <|
        nmd (sI σ50 (ρ this 57) x2.toNatClampNeg ((σ50.1 (ρ this 57) x2.toNatClampNeg) - (σ50.1 (ρ this 60) x2.toNatClampNeg))) fun σ54 =>
        f_X12_goEvening_254 N ρ this a1 rec108 x2 σ54
      else
        gd (ib x2 5) <|
        if (σ.1 (ρ this 58) x2.toNatClampNeg : Int32) = 2 then
          gd (ib x2 22) <|
          gd (ib x2 22) <|
          nmd (sI σ (ρ this 57) x2.toNatClampNeg ((σ.1 (ρ this 57) x2.toNatClampNeg) / 2)) fun σ37 =>
          f_X12_goEvening_254 N ρ this a1 rec108 x2 σ37
        else
          f_X12_goEvening_254 N ρ this a1 rec108 x2 σ
def f_X12_goEvening_108 (N : Nat) (ρ : Nat → Nat → Nat) (this : Nat) (a1 : Int32) : Nat → Int32 → St → Option (Int32 × St)
  | 0, _, _ => none
  | n + 1, x2, σ => b_X12_goEvening_108 N ρ this a1 (f_X12_goEvening_108 N ρ this a1 n) x2 σ
def b_X12_goEvening_2 (N : Nat) (ρ : Nat → Nat → Nat) (this : Nat) (a1 : Int32) (rec2 : Int32 → St → Option (Int32 × St)) (x2 : Int32) (σ : St) : Option (Int32 × St) :=
  if (σ.1 this 50) ≤ (x2 : Int32) then
    f_X12_goEvening_108 N ρ this a1 N 0 σ
  else
    gd (ib (15 + x2) 22) <|
    nmd (σ.1 (ρ this 57) (15 + x2).toNatClampNeg) fun y64 =>
    if (y64 : Int32) < 0 then
      f_X12_goEvening_42 N ρ this a1 rec2 x2 y64 x2 σ
    else
      if ((a1 >>> (y64 &&& 31)) &&& 1 : Int32) = 1 then
        f_X12_goEvening_47 N ρ this a1 rec2 x2 y64 3 x2 σ
      else
        f_X12_goEvening_42 N ρ this a1 rec2 x2 y64 x2 σ
def f_X12_goEvening_2 (N : Nat) (ρ : Nat → Nat → Nat) (this : Nat) (a1 : Int32) : Nat → Int32 → St → Option (Int32 × St)
  | 0, _, _ => none
  | n + 1, x2, σ => b_X12_goEvening_2 N ρ this a1 (f_X12_goEvening_2 N ρ this a1 n) x2 σ
def f_X12_goEvening (N : Nat) (ρ : Nat → Nat → Nat) (this : Nat) (a1 : Int32) (σ : St) : Option (Int32 × St) :=
  f_X12_goEvening_2 N ρ this a1 N 0 σ
set_option maxRecDepth 100000 in
set_option maxHeartbeats 4000000 in
theorem w_X12_goEvening_100 {N : Nat} {Γ : SG} {ρ : Nat → Nat → Nat} (hs : Sh Γ ρ) {this : Nat} {a1 : Int32} (h0 : Γ[this]? = some (0, 12)) {n0 : Nat} {r : Int32} {σr : St} (rec2 : Int32 → St → Option (Int32 × St)) (hrec2 : ∀ (x2 : Int32) (σ : St), rec2 x2 σ = some (r, σr) → Go mX12_goEvening 6 0 0 n0 (Kv Γ ρ σr) 0 0 2 [some (.ref this), some (.int a1), some (.int x2), none] [] (hp Γ ρ σ)) (x2 : Int32) (σ : St) (hf : f_X12_goEvening_100 N ρ this a1 rec2 x2 σ = some (r, σr)) : Go mX12_goEvening 6 0 0 n0 (Kv Γ ρ σr) 0 0 100 [some (.ref this), some (.int a1), some (.int x2), none] [] (hp Γ ρ σ) := by
  unfold f_X12_goEvening_100 at hf
  refine go_iinc (x2 + 1) [some (.ref this), some (.int a1), some (.int (x2 + 1)), none] dX12_goEvening_100 rfl rfl (by decide) rfl ?_
  refine go_goto 2 dX12_goEvening_103 (by decide) ?_
  exact hrec2 (x2 + 1) σ hf
set_option maxRecDepth 100000 in
set_option maxHeartbeats 4000000 in
theorem w_X12_goEvening_47 {N : Nat} {Γ : SG} {ρ : Nat → Nat → Nat} (hs : Sh Γ ρ) {this : Nat} {a1 : Int32} (h0 : Γ[this]? = some (0, 12)) {n0 : Nat} {r : Int32} {σr : St} (rec2 : Int32 → St → Option (Int32 × St)) (hrec2 : ∀ (x2 : Int32) (σ : St), rec2 x2 σ = some (r, σr) → Go mX12_goEvening 6 0 0 n0 (Kv Γ ρ σr) 0 0 2 [some (.ref this), some (.int a1), some (.int x2), none] [] (hp Γ ρ σ)) (x2 : Int32) (x3 : Int32) (s0 : Int32) (s1 : Int32) (σ : St) (hf : f_X12_goEvening_47 N ρ this a1 rec2 x2 x3 s0 s1 σ = some (r, σr)) : Go mX12_goEvening 6 0 0 n0 (Kv Γ ρ σr) 0 0 47 [some (.ref this), some (.int a1), some (.int x2), some (.int x3)] [.int s0, .int s1, .ref (ρ this 58)] (hp Γ ρ σ) := by
  unfold f_X12_goEvening_47 at hf
  obtain ⟨g1, hf⟩ := gd_some hf
  obtain ⟨σ2, eσ2, hf⟩ := nmd_some hf
  refine go_wI dX12_goEvening_47 (hs.1 _ 12 58 h0 rfl) (ib_in g1) ?_
  rw [eσ2]
  refine go_aload_n 0 dX12_goEvening_48 rfl rfl ?_
  refine go_fR fl_X12_109 dX12_goEvening_49 h0 (by decide) rfl ?_
  refine go_iload_n 2 dX12_goEvening_52 rfl rfl ?_
  obtain ⟨g3, hf⟩ := gd_some hf
  refine go_rI dX12_goEvening_53 (hs.1 _ 12 58 h0 rfl) (ib_in g3) ?_
  refine go_iconst 1 dX12_goEvening_54 (by decide) ?_
  refine go_icmp_eq 61 dX12_goEvening_55 (by decide) (fun c4 => ?_) (fun c4 => ?_)
  · replace hf := (if_pos c4).symm.trans hf
    refine go_aload_n 0 dX12_goEvening_61 rfl rfl ?_
    refine go_fR fl_X12_112 dX12_goEvening_62 h0 (by decide) rfl ?_
    refine go_iload_n 2 dX12_goEvening_65 rfl rfl ?_
    refine go_aload_n 0 dX12_goEvening_66 rfl rfl ?_
    refine go_iload_n 2 dX12_goEvening_67 rfl rfl ?_
    obtain ⟨r5, σ6, q7, hf⟩ := bnd_some hf
    refine go_Vi (av := [.int x2]) (rest := [.int x2, .ref (ρ this 59)]) (t_X12_loadOf hs h0 q7) ok_X12_loadOf ml_X12_442 dX12_goEvening_68 h0 rfl rfl (by decide) (Nat.le_refl _) (Nat.le_refl _) (Nat.le_of_ble_eq_true rfl) ?_
    obtain ⟨g8, hf⟩ := gd_some hf
    obtain ⟨σ9, eσ9, hf⟩ := nmd_some hf
    refine go_wI dX12_goEvening_71 (hs.1 _ 12 59 h0 rfl) (ib_in g8) ?_
    rw [eσ9]
    refine go_aload_n 0 dX12_goEvening_72 rfl rfl ?_
    refine go_fR fl_X12_115 dX12_goEvening_73 h0 (by decide) rfl ?_
    refine go_iload_n 2 dX12_goEvening_76 rfl rfl ?_
    refine go_aload_n 0 dX12_goEvening_77 rfl rfl ?_
    refine go_iconst 1 dX12_goEvening_78 (by decide) ?_
    refine go_iload_n 2 dX12_goEvening_79 rfl rfl ?_
    refine go_iload_n 3 dX12_goEvening_80 rfl rfl ?_
    refine go_aload_n 0 dX12_goEvening_81 rfl rfl ?_
    refine go_iload_n 3 dX12_goEvening_82 rfl rfl ?_
    obtain ⟨r10, σ11, q12, hf⟩ := bnd_some hf
    refine go_Vi (av := [.int x3]) (rest := [.int x3, .int x2, .int 1, .ref this, .int x2, .ref (ρ this 60)]) (t_X12_sentTo hs h0 q12) ok_X12_sentTo ml_X12_430 dX12_goEvening_83 h0 rfl rfl (by decide) (Nat.le_refl _) (Nat.le_refl _) (Nat.le_of_ble_eq_true rfl) ?_
    obtain ⟨r13, σ14, q15, hf⟩ := bnd_some hf
    refine go_Si (av := [.int r10]) (rest := [.int x3, .int x2, .int 1, .ref this, .int x2, .ref (ρ this 60)]) (t_X12_members hs  q15) ok_X12_members ml_X12_433 dX12_goEvening_86 rfl rfl (by decide) (Nat.le_refl _) (Nat.le_refl _) (Nat.le_of_ble_eq_true rfl) ?_
    refine go_iconst 1 dX12_goEvening_89 (by decide) ?_
    refine go_aload_n 0 dX12_goEvening_90 rfl rfl ?_
    refine go_fR fl_X12_106 dX12_goEvening_91 h0 (by decide) rfl ?_
    refine go_iload_n 2 dX12_goEvening_94 rfl rfl ?_
    obtain ⟨g16, hf⟩ := gd_some hf
    refine go_rI dX12_goEvening_95 (hs.1 _ 12 57 h0 rfl) (ib_in g16) ?_
    obtain ⟨r17, σ18, q19, hf⟩ := bnd_some hf
    refine go_Vi (av := [.int 1, .int x2, .int x3, .int r13, .int 1, .int (σ14.1 (ρ this 57) x2.toNatClampNeg)]) (rest := [.int x2, .ref (ρ this 60)]) (t_X12_worked hs h0 q19) ok_X12_worked ml_X12_426 dX12_goEvening_96 h0 rfl rfl (by decide) (Nat.le_refl _) (Nat.le_refl _) (Nat.le_of_ble_eq_true rfl) ?_
    obtain ⟨g20, hf⟩ := gd_some hf
    obtain ⟨σ21, eσ21, hf⟩ := nmd_some hf
    refine go_wI dX12_goEvening_99 (hs.1 _ 12 60 h0 rfl) (ib_in g20) ?_
    rw [eσ21]
    refine go_msk [true, true, true, false] [some (.ref this), some (.int a1), some (.int x2), none] rfl ?_
    exact w_X12_goEvening_100 hs h0 rec2 hrec2 x2 σ21 hf
  · replace hf := (if_neg c4).symm.trans hf
    refine go_goto 100 dX12_goEvening_58 (by decide) ?_
    refine go_msk [true, true, true, false] [some (.ref this), some (.int a1), some (.int x2), none] rfl ?_
    exact w_X12_goEvening_100 hs h0 rec2 hrec2 x2 σ2 hf
set_option maxRecDepth 100000 in
set_option maxHeartbeats 4000000 in
theorem w_X12_goEvening_42 {N : Nat} {Γ : SG} {ρ : Nat → Nat → Nat} (hs : Sh Γ ρ) {this : Nat} {a1 : Int32} (h0 : Γ[this]? = some (0, 12)) {n0 : Nat} {r : Int32} {σr : St} (rec2 : Int32 → St → Option (Int32 × St)) (hrec2 : ∀ (x2 : Int32) (σ : St), rec2 x2 σ = some (r, σr) → Go mX12_goEvening 6 0 0 n0 (Kv Γ ρ σr) 0 0 2 [some (.ref this), some (.int a1), some (.int x2), none] [] (hp Γ ρ σ)) (x2 : Int32) (x3 : Int32) (s0 : Int32) (σ : St) (hf : f_X12_goEvening_42 N ρ this a1 rec2 x2 x3 s0 σ = some (r, σr)) : Go mX12_goEvening 6 0 0 n0 (Kv Γ ρ σr) 0 0 42 [some (.ref this), some (.int a1), some (.int x2), some (.int x3)] [.int s0, .ref (ρ this 58)] (hp Γ ρ σ) := by
  unfold f_X12_goEvening_42 at hf
  refine go_aload_n 0 dX12_goEvening_42 rfl rfl ?_
  refine go_iload_n 2 dX12_goEvening_43 rfl rfl ?_
  obtain ⟨r22, σ23, q24, hf⟩ := bnd_some hf
  refine go_Vi (av := [.int x2]) (rest := [.int s0, .ref (ρ this 58)]) (t_X12_fareOf hs h0 q24) ok_X12_fareOf ml_X12_445 dX12_goEvening_44 h0 rfl rfl (by decide) (Nat.le_refl _) (Nat.le_refl _) (Nat.le_of_ble_eq_true rfl) ?_
  exact w_X12_goEvening_47 hs h0 rec2 hrec2 x2 x3 r22 s0 σ23 hf
set_option maxRecDepth 100000 in
set_option maxHeartbeats 4000000 in
theorem w_X12_goEvening_254 {N : Nat} {Γ : SG} {ρ : Nat → Nat → Nat} (hs : Sh Γ ρ) {this : Nat} {a1 : Int32} (h0 : Γ[this]? = some (0, 12)) {n0 : Nat} {r : Int32} {σr : St} (rec108 : Int32 → St → Option (Int32 × St)) (hrec108 : ∀ (x2 : Int32) (σ : St), rec108 x2 σ = some (r, σr) → Go mX12_goEvening 6 0 0 n0 (Kv Γ ρ σr) 0 0 108 [some (.ref this), none, some (.int x2), none] [] (hp Γ ρ σ)) (x2 : Int32) (σ : St) (hf : f_X12_goEvening_254 N ρ this a1 rec108 x2 σ = some (r, σr)) : Go mX12_goEvening 6 0 0 n0 (Kv Γ ρ σr) 0 0 254 [some (.ref this), none, some (.int x2), none] [] (hp Γ ρ σ) := by
  unfold f_X12_goEvening_254 at hf
  refine go_iinc (x2 + 1) [some (.ref this), none, some (.int (x2 + 1)), none] dX12_goEvening_254 rfl rfl (by decide) rfl ?_
  refine go_goto 108 dX12_goEvening_257 (by decide) ?_
  exact hrec108 (x2 + 1) σ hf
set_option maxRecDepth 100000 in
set_option maxHeartbeats 4000000 in
theorem v_X12_goEvening_108 {N : Nat} {Γ : SG} {ρ : Nat → Nat → Nat} (hs : Sh Γ ρ) {this : Nat} {a1 : Int32} (h0 : Γ[this]? = some (0, 12)) {n0 : Nat} {r : Int32} {σr : St} (rec108 : Int32 → St → Option (Int32 × St)) (hrec108 : ∀ (x2 : Int32) (σ : St), rec108 x2 σ = some (r, σr) → Go mX12_goEvening 6 0 0 n0 (Kv Γ ρ σr) 0 0 108 [some (.ref this), none, some (.int x2), none] [] (hp Γ ρ σ)) (x2 : Int32) (σ : St) (hf : b_X12_goEvening_108 N ρ this a1 rec108 x2 σ = some (r, σr)) : Go mX12_goEvening 6 0 0 n0 (Kv Γ ρ σr) 0 0 108 [some (.ref this), none, some (.int x2), none] [] (hp Γ ρ σ) := by
  unfold b_X12_goEvening_108 at hf
  refine go_iload_n 2 dX12_goEvening_108 rfl rfl ?_
  refine go_aload_n 0 dX12_goEvening_109 rfl rfl ?_
  refine go_fI fl_X12_395 dX12_goEvening_110 h0 (by decide) rfl ?_
  refine go_icmp_ge 260 dX12_goEvening_113 (by decide) (fun c25 => ?_) (fun c25 => ?_)
  · replace hf := (if_pos c25).symm.trans hf
    refine go_aload_n 0 dX12_goEvening_260 rfl rfl ?_
    refine go_fR fl_X12_106 dX12_goEvening_261 h0 (by decide) rfl ?_
    refine go_bipush 20 dX12_goEvening_264 (by decide) ?_
    refine go_dup2 dX12_goEvening_266 rfl rfl ?_
    obtain ⟨g26, hf⟩ := gd_some hf
    refine go_rI dX12_goEvening_267 (hs.1 _ 12 57 h0 rfl) (ib_in g26) ?_
    refine go_iconst 1 dX12_goEvening_268 (by decide) ?_
    refine go_iadd dX12_goEvening_269 ?_
    obtain ⟨g27, hf⟩ := gd_some hf
    obtain ⟨σ28, eσ28, hf⟩ := nmd_some hf
    refine go_wI dX12_goEvening_270 (hs.1 _ 12 57 h0 rfl) (ib_in g27) ?_
    rw [eσ28]
    cases hf
    exact go_vret rfl dX12_goEvening_271 (Nat.le_refl _) ⟨rfl, rfl⟩
  · replace hf := (if_neg c25).symm.trans hf
    refine go_aload_n 0 dX12_goEvening_116 rfl rfl ?_
    refine go_fR fl_X12_109 dX12_goEvening_117 h0 (by decide) rfl ?_
    refine go_iload_n 2 dX12_goEvening_120 rfl rfl ?_
    obtain ⟨g29, hf⟩ := gd_some hf
    refine go_rI dX12_goEvening_121 (hs.1 _ 12 58 h0 rfl) (ib_in g29) ?_
    refine go_if_ne 151 dX12_goEvening_122 (by decide) (fun c30 => ?_) (fun c30 => ?_)
    · replace hf := (if_neg c30).symm.trans hf
      refine go_aload_n 0 dX12_goEvening_151 rfl rfl ?_
      refine go_fR fl_X12_109 dX12_goEvening_152 h0 (by decide) rfl ?_
      refine go_iload_n 2 dX12_goEvening_155 rfl rfl ?_
      obtain ⟨g31, hf⟩ := gd_some hf
      refine go_rI dX12_goEvening_156 (hs.1 _ 12 58 h0 rfl) (ib_in g31) ?_
      refine go_iconst 1 dX12_goEvening_157 (by decide) ?_
      refine go_icmp_ne 234 dX12_goEvening_158 (by decide) (fun c32 => ?_) (fun c32 => ?_)
      · replace hf := (if_neg c32).symm.trans hf
        refine go_aload_n 0 dX12_goEvening_234 rfl rfl ?_
        refine go_fR fl_X12_109 dX12_goEvening_235 h0 (by decide) rfl ?_
        refine go_iload_n 2 dX12_goEvening_238 rfl rfl ?_
        obtain ⟨g33, hf⟩ := gd_some hf
        refine go_rI dX12_goEvening_239 (hs.1 _ 12 58 h0 rfl) (ib_in g33) ?_
        refine go_iconst 2 dX12_goEvening_240 (by decide) ?_
        refine go_icmp_ne 254 dX12_goEvening_241 (by decide) (fun c34 => ?_) (fun c34 => ?_)
        · replace hf := (if_neg c34).symm.trans hf
          exact w_X12_goEvening_254 hs h0 rec108 hrec108 x2 σ hf
        · replace hf := (if_pos c34).symm.trans hf
          refine go_aload_n 0 dX12_goEvening_244 rfl rfl ?_
          refine go_fR fl_X12_106 dX12_goEvening_245 h0 (by decide) rfl ?_
          refine go_iload_n 2 dX12_goEvening_248 rfl rfl ?_
          refine go_dup2 dX12_goEvening_249 rfl rfl ?_
          obtain ⟨g35, hf⟩ := gd_some hf
          refine go_rI dX12_goEvening_250 (hs.1 _ 12 57 h0 rfl) (ib_in g35) ?_
          refine go_iconst 2 dX12_goEvening_251 (by decide) ?_
          refine go_idiv dX12_goEvening_252 (by decide) ?_
          obtain ⟨g36, hf⟩ := gd_some hf
          obtain ⟨σ37, eσ37, hf⟩ := nmd_some hf
          refine go_wI dX12_goEvening_253 (hs.1 _ 12 57 h0 rfl) (ib_in g36) ?_
          rw [eσ37]
          exact w_X12_goEvening_254 hs h0 rec108 hrec108 x2 σ37 hf
      · replace hf := (if_pos c32).symm.trans hf
        refine go_aload_n 0 dX12_goEvening_161 rfl rfl ?_
        refine go_fR fl_X12_106 dX12_goEvening_162 h0 (by decide) rfl ?_
        refine go_bipush 10 dX12_goEvening_165 (by decide) ?_
        refine go_iload_n 2 dX12_goEvening_167 rfl rfl ?_
        refine go_iadd dX12_goEvening_168 ?_
        refine go_aload_n 0 dX12_goEvening_169 rfl rfl ?_
        refine go_fR fl_X12_106 dX12_goEvening_170 h0 (by decide) rfl ?_
        refine go_bipush 10 dX12_goEvening_173 (by decide) ?_
        refine go_iload_n 2 dX12_goEvening_175 rfl rfl ?_
        refine go_iadd dX12_goEvening_176 ?_
        obtain ⟨g38, hf⟩ := gd_some hf
        refine go_rI dX12_goEvening_177 (hs.1 _ 12 57 h0 rfl) (ib_in g38) ?_
        refine go_iconst 1 dX12_goEvening_178 (by decide) ?_
        refine go_iadd dX12_goEvening_179 ?_
        refine go_bipush 99 dX12_goEvening_180 (by decide) ?_
        obtain ⟨r39, σ40, q41, hf⟩ := bnd_some hf
        refine go_Si (av := [.int ((σ.1 (ρ this 57) (10 + x2).toNatClampNeg) + 1), .int 99]) (rest := [.int (10 + x2), .ref (ρ this 57)]) (t_X12_within hs  q41) ok_X12_within ml_X12_343 dX12_goEvening_182 rfl rfl (by decide) (Nat.le_refl _) (Nat.le_refl _) (Nat.le_of_ble_eq_true rfl) ?_
        obtain ⟨g42, hf⟩ := gd_some hf
        obtain ⟨σ43, eσ43, hf⟩ := nmd_some hf
        refine go_wI dX12_goEvening_185 (hs.1 _ 12 57 h0 rfl) (ib_in g42) ?_
        rw [eσ43]
        refine go_aload_n 0 dX12_goEvening_186 rfl rfl ?_
        refine go_fR fl_X12_106 dX12_goEvening_187 h0 (by decide) rfl ?_
        refine go_iconst 5 dX12_goEvening_190 (by decide) ?_
        refine go_iload_n 2 dX12_goEvening_191 rfl rfl ?_
        refine go_iadd dX12_goEvening_192 ?_
        refine go_aload_n 0 dX12_goEvening_193 rfl rfl ?_
        refine go_fR fl_X12_106 dX12_goEvening_194 h0 (by decide) rfl ?_
        refine go_iconst 5 dX12_goEvening_197 (by decide) ?_
        refine go_iload_n 2 dX12_goEvening_198 rfl rfl ?_
        refine go_iadd dX12_goEvening_199 ?_
        obtain ⟨g44, hf⟩ := gd_some hf
        refine go_rI dX12_goEvening_200 (hs.1 _ 12 57 h0 rfl) (ib_in g44) ?_
        refine go_aload_n 0 dX12_goEvening_201 rfl rfl ?_
        refine go_fR fl_X12_112 dX12_goEvening_202 h0 (by decide) rfl ?_
        refine go_iload_n 2 dX12_goEvening_205 rfl rfl ?_
        obtain ⟨g45, hf⟩ := gd_some hf
        refine go_rI dX12_goEvening_206 (hs.1 _ 12 59 h0 rfl) (ib_in g45) ?_
        refine go_iconst 5 dX12_goEvening_207 (by decide) ?_
        refine go_idiv dX12_goEvening_208 (by decide) ?_
        refine go_iadd dX12_goEvening_209 ?_
        refine go_bipush 99 dX12_goEvening_210 (by decide) ?_
        obtain ⟨r46, σ47, q48, hf⟩ := bnd_some hf
        refine go_Si (av := [.int ((σ43.1 (ρ this 57) (5 + x2).toNatClampNeg) + ((σ43.1 (ρ this 59) x2.toNatClampNeg) / 5)), .int 99]) (rest := [.int (5 + x2), .ref (ρ this 57)]) (t_X12_within hs  q48) ok_X12_within ml_X12_343 dX12_goEvening_212 rfl rfl (by decide) (Nat.le_refl _) (Nat.le_refl _) (Nat.le_of_ble_eq_true rfl) ?_
        obtain ⟨g49, hf⟩ := gd_some hf
        obtain ⟨σ50, eσ50, hf⟩ := nmd_some hf
        refine go_wI dX12_goEvening_215 (hs.1 _ 12 57 h0 rfl) (ib_in g49) ?_
        rw [eσ50]
        refine go_aload_n 0 dX12_goEvening_216 rfl rfl ?_
        refine go_fR fl_X12_106 dX12_goEvening_217 h0 (by decide) rfl ?_
        refine go_iload_n 2 dX12_goEvening_220 rfl rfl ?_
        refine go_dup2 dX12_goEvening_221 rfl rfl ?_
        obtain ⟨g51, hf⟩ := gd_some hf
        refine go_rI dX12_goEvening_222 (hs.1 _ 12 57 h0 rfl) (ib_in g51) ?_
        refine go_aload_n 0 dX12_goEvening_223 rfl rfl ?_
        refine go_fR fl_X12_115 dX12_goEvening_224 h0 (by decide) rfl ?_
        refine go_iload_n 2 dX12_goEvening_227 rfl rfl ?_
        obtain ⟨g52, hf⟩ := gd_some hf
        refine go_rI dX12_goEvening_228 (hs.1 _ 12 60 h0 rfl) (ib_in g52) ?_
        refine go_isub dX12_goEvening_229 ?_
        obtain ⟨g53, hf⟩ := gd_some hf
        obtain ⟨σ54, eσ54, hf⟩ := nmd_some hf
        refine go_wI dX12_goEvening_230 (hs.1 _ 12 57 h0 rfl) (ib_in g53) ?_
        rw [eσ54]
        refine go_goto 254 dX12_goEvening_231 (by decide) ?_
        exact w_X12_goEvening_254 hs h0 rec108 hrec108 x2 σ54 hf
    · replace hf := (if_pos c30).symm.trans hf
      refine go_aload_n 0 dX12_goEvening_125 rfl rfl ?_
      refine go_fR fl_X12_106 dX12_goEvening_126 h0 (by decide) rfl ?_
      refine go_iload_n 2 dX12_goEvening_129 rfl rfl ?_
      refine go_aload_n 0 dX12_goEvening_130 rfl rfl ?_
      refine go_fR fl_X12_106 dX12_goEvening_131 h0 (by decide) rfl ?_
      refine go_iload_n 2 dX12_goEvening_134 rfl rfl ?_
      obtain ⟨g55, hf⟩ := gd_some hf
      refine go_rI dX12_goEvening_135 (hs.1 _ 12 57 h0 rfl) (ib_in g55) ?_
      refine go_iconst 2 dX12_goEvening_136 (by decide) ?_
      refine go_iadd dX12_goEvening_137 ?_
      refine go_aload_n 0 dX12_goEvening_138 rfl rfl ?_
      refine go_fR fl_X12_91 dX12_goEvening_139 h0 (by decide) rfl ?_
      refine go_iload_n 2 dX12_goEvening_142 rfl rfl ?_
      obtain ⟨g56, hf⟩ := gd_some hf
      refine go_rI dX12_goEvening_143 (hs.1 _ 12 41 h0 rfl) (ib_in g56) ?_
      obtain ⟨r57, σ58, q59, hf⟩ := bnd_some hf
      refine go_Si (av := [.int ((σ.1 (ρ this 57) x2.toNatClampNeg) + 2), .int (σ.1 (ρ this 41) x2.toNatClampNeg)]) (rest := [.int x2, .ref (ρ this 57)]) (t_X12_within hs  q59) ok_X12_within ml_X12_343 dX12_goEvening_144 rfl rfl (by decide) (Nat.le_refl _) (Nat.le_refl _) (Nat.le_of_ble_eq_true rfl) ?_
      obtain ⟨g60, hf⟩ := gd_some hf
      obtain ⟨σ61, eσ61, hf⟩ := nmd_some hf
      refine go_wI dX12_goEvening_147 (hs.1 _ 12 57 h0 rfl) (ib_in g60) ?_
      rw [eσ61]
      refine go_goto 254 dX12_goEvening_148 (by decide) ?_
      exact w_X12_goEvening_254 hs h0 rec108 hrec108 x2 σ61 hf
theorem w_X12_goEvening_108 {N : Nat} {Γ : SG} {ρ : Nat → Nat → Nat} (hs : Sh Γ ρ) {this : Nat} {a1 : Int32} (h0 : Γ[this]? = some (0, 12)) {n0 : Nat} {r : Int32} {σr : St} : ∀ (n : Nat) (x2 : Int32) (σ : St), f_X12_goEvening_108 N ρ this a1 n x2 σ = some (r, σr) → Go mX12_goEvening 6 0 0 n0 (Kv Γ ρ σr) 0 0 108 [some (.ref this), none, some (.int x2), none] [] (hp Γ ρ σ) := by
  intro n
  induction n with
  | zero => intro x2 σ hf; cases hf
  | succ n ih => intro x2 σ hf; exact v_X12_goEvening_108 hs h0 _ ih x2 σ hf
set_option maxRecDepth 100000 in
set_option maxHeartbeats 4000000 in
theorem v_X12_goEvening_2 {N : Nat} {Γ : SG} {ρ : Nat → Nat → Nat} (hs : Sh Γ ρ) {this : Nat} {a1 : Int32} (h0 : Γ[this]? = some (0, 12)) {n0 : Nat} {r : Int32} {σr : St} (rec2 : Int32 → St → Option (Int32 × St)) (hrec2 : ∀ (x2 : Int32) (σ : St), rec2 x2 σ = some (r, σr) → Go mX12_goEvening 6 0 0 n0 (Kv Γ ρ σr) 0 0 2 [some (.ref this), some (.int a1), some (.int x2), none] [] (hp Γ ρ σ)) (x2 : Int32) (σ : St) (hf : b_X12_goEvening_2 N ρ this a1 rec2 x2 σ = some (r, σr)) : Go mX12_goEvening 6 0 0 n0 (Kv Γ ρ σr) 0 0 2 [some (.ref this), some (.int a1), some (.int x2), none] [] (hp Γ ρ σ) := by
  unfold b_X12_goEvening_2 at hf
  refine go_iload_n 2 dX12_goEvening_2 rfl rfl ?_
  refine go_aload_n 0 dX12_goEvening_3 rfl rfl ?_
  refine go_fI fl_X12_395 dX12_goEvening_4 h0 (by decide) rfl ?_
  refine go_icmp_ge 106 dX12_goEvening_7 (by decide) (fun c62 => ?_) (fun c62 => ?_)
  · replace hf := (if_pos c62).symm.trans hf
    refine go_iconst 0 dX12_goEvening_106 (by decide) ?_
    refine go_istore_n 2 [some (.ref this), some (.int a1), some (.int 0), none] dX12_goEvening_107 rfl (by decide) rfl ?_
    refine go_msk [true, false, true, false] [some (.ref this), none, some (.int 0), none] rfl ?_
    exact w_X12_goEvening_108 hs h0 N 0 σ hf
  · replace hf := (if_neg c62).symm.trans hf
    refine go_aload_n 0 dX12_goEvening_10 rfl rfl ?_
    refine go_fR fl_X12_106 dX12_goEvening_11 h0 (by decide) rfl ?_
    refine go_bipush 15 dX12_goEvening_14 (by decide) ?_
    refine go_iload_n 2 dX12_goEvening_16 rfl rfl ?_
    refine go_iadd dX12_goEvening_17 ?_
    obtain ⟨g63, hf⟩ := gd_some hf
    refine go_rI dX12_goEvening_18 (hs.1 _ 12 57 h0 rfl) (ib_in g63) ?_
    obtain ⟨y64, ey64, hf⟩ := nmd_some hf
    refine go_nm ey64 ?_
    refine go_istore_n 3 [some (.ref this), some (.int a1), some (.int x2), some (.int y64)] dX12_goEvening_19 rfl (by decide) rfl ?_
    refine go_aload_n 0 dX12_goEvening_20 rfl rfl ?_
    refine go_fR fl_X12_109 dX12_goEvening_21 h0 (by decide) rfl ?_
    refine go_iload_n 2 dX12_goEvening_24 rfl rfl ?_
    refine go_iload_n 3 dX12_goEvening_25 rfl rfl ?_
    refine go_if_lt 42 dX12_goEvening_26 (by decide) (fun c65 => ?_) (fun c65 => ?_)
    · replace hf := (if_pos c65).symm.trans hf
      exact w_X12_goEvening_42 hs h0 rec2 hrec2 x2 y64 x2 σ hf
    · replace hf := (if_neg c65).symm.trans hf
      refine go_iload_n 1 dX12_goEvening_29 rfl rfl ?_
      refine go_iload_n 3 dX12_goEvening_30 rfl rfl ?_
      refine go_ishr dX12_goEvening_31 ?_
      refine go_iconst 1 dX12_goEvening_32 (by decide) ?_
      refine go_iand dX12_goEvening_33 ?_
      refine go_iconst 1 dX12_goEvening_34 (by decide) ?_
      refine go_icmp_ne 42 dX12_goEvening_35 (by decide) (fun c66 => ?_) (fun c66 => ?_)
      · replace hf := (if_neg c66).symm.trans hf
        exact w_X12_goEvening_42 hs h0 rec2 hrec2 x2 y64 x2 σ hf
      · replace hf := (if_pos c66).symm.trans hf
        refine go_iconst 3 dX12_goEvening_38 (by decide) ?_
        refine go_goto 47 dX12_goEvening_39 (by decide) ?_
        exact w_X12_goEvening_47 hs h0 rec2 hrec2 x2 y64 3 x2 σ hf
theorem w_X12_goEvening_2 {N : Nat} {Γ : SG} {ρ : Nat → Nat → Nat} (hs : Sh Γ ρ) {this : Nat} {a1 : Int32} (h0 : Γ[this]? = some (0, 12)) {n0 : Nat} {r : Int32} {σr : St} : ∀ (n : Nat) (x2 : Int32) (σ : St), f_X12_goEvening_2 N ρ this a1 n x2 σ = some (r, σr) → Go mX12_goEvening 6 0 0 n0 (Kv Γ ρ σr) 0 0 2 [some (.ref this), some (.int a1), some (.int x2), none] [] (hp Γ ρ σ) := by
  intro n
  induction n with
  | zero => intro x2 σ hf; cases hf
  | succ n ih => intro x2 σ hf; exact v_X12_goEvening_2 hs h0 _ ih x2 σ hf
set_option maxRecDepth 100000 in
set_option maxHeartbeats 4000000 in
theorem t_X12_goEvening {N : Nat} {Γ : SG} {ρ : Nat → Nat → Nat} (hs : Sh Γ ρ) {this : Nat} {a1 : Int32} (h0 : Γ[this]? = some (0, 12)) {σ : St} {r : Int32} {σr : St} (hf : f_X12_goEvening N ρ this a1 σ = some (r, σr)) : Tri mX12_goEvening 6 0 0 [.ref this, .int a1] (hp Γ ρ σ) (Kv Γ ρ σr) := by
  unfold f_X12_goEvening at hf
  refine tri_of [some (.ref this), some (.int a1), none, none] (plainFor_of_name rfl) rfl (Nat.le_of_ble_eq_true rfl) ?_
  refine go_iconst 0 dX12_goEvening_0 (by decide) ?_
  refine go_istore_n 2 [some (.ref this), some (.int a1), some (.int 0), none] dX12_goEvening_1 rfl (by decide) rfl ?_
  exact w_X12_goEvening_2 hs h0 N 0 σ hf
def f_X12_drawCold_60 (N : Nat) (ρ : Nat → Nat → Nat) (this : Nat) (rec4 : Int32 → Int32 → St → Option (Int32 × St)) (x2 : Int32) (s0 : Int32) (s1 : Int32) (σ : St) : Option (Int32 × St) :=
  bnd (f_X12_truth N ρ s0 σ) fun r1 σ2 =>
  nmd (s1 ||| (r1 <<< (x2 &&& 31))) fun y4 =>
  rec4 y4 (x2 + 1) σ2
def b_X12_drawCold_4 (N : Nat) (ρ : Nat → Nat → Nat) (this : Nat) (rec4 : Int32 → Int32 → St → Option (Int32 × St)) (x1 : Int32) (x2 : Int32) (σ : St) : Option (Int32 × St) :=
  if (σ.1 this 49) ≤ (x2 : Int32) then
    some (x1, σ)
  else
    gd (ib 21 22) <|
    gd (ib 21 22) <|
    nmd (sI σ (ρ this 57) (21 : Int32).toNatClampNeg (irem (((σ.1 (ρ this 57) (21 : Int32).toNatClampNeg) * 137) + 71) 1000)) fun σ8 =>
    gd (ib 21 22) <|
    if (σ8.1 this 52) ≤ (irem (σ8.1 (ρ this 57) (21 : Int32).toNatClampNeg) 100 : Int32) then
      f_X12_drawCold_60 N ρ this rec4 x2 0 x1 σ8
    else
      f_X12_drawCold_60 N ρ this rec4 x2 1 x1 σ8
def f_X12_drawCold_4 (N : Nat) (ρ : Nat → Nat → Nat) (this : Nat) : Nat → Int32 → Int32 → St → Option (Int32 × St)
  | 0, _, _, _ => none
  | n + 1, x1, x2, σ => b_X12_drawCold_4 N ρ this (f_X12_drawCold_4 N ρ this n) x1 x2 σ
def f_X12_drawCold (N : Nat) (ρ : Nat → Nat → Nat) (this : Nat) (σ : St) : Option (Int32 × St) :=
  f_X12_drawCold_4 N ρ this N 0 0 σ
set_option maxRecDepth 100000 in
set_option maxHeartbeats 4000000 in
theorem w_X12_drawCold_60 {N : Nat} {Γ : SG} {ρ : Nat → Nat → Nat} (hs : Sh Γ ρ) {this : Nat} (h0 : Γ[this]? = some (0, 12)) {n0 : Nat} {r : Int32} {σr : St} (rec4 : Int32 → Int32 → St → Option (Int32 × St)) (hrec4 : ∀ (x1 : Int32) (x2 : Int32) (σ : St), rec4 x1 x2 σ = some (r, σr) → Go mX12_drawCold 1 0 0 n0 (Ki Γ ρ r σr) 0 0 4 [some (.ref this), some (.int x1), some (.int x2)] [] (hp Γ ρ σ)) (x2 : Int32) (s0 : Int32) (s1 : Int32) (σ : St) (hf : f_X12_drawCold_60 N ρ this rec4 x2 s0 s1 σ = some (r, σr)) : Go mX12_drawCold 1 0 0 n0 (Ki Γ ρ r σr) 0 0 60 [some (.ref this), none, some (.int x2)] [.int s0, .int s1] (hp Γ ρ σ) := by
  unfold f_X12_drawCold_60 at hf
  obtain ⟨r1, σ2, q3, hf⟩ := bnd_some hf
  refine go_Si (av := [.int s0]) (rest := [.int s1]) (t_X12_truth hs  q3) ok_X12_truth ml_X12_329 dX12_drawCold_60 rfl rfl (by decide) (Nat.le_refl _) (Nat.le_refl _) (Nat.le_of_ble_eq_true rfl) ?_
  refine go_iload_n 2 dX12_drawCold_63 rfl rfl ?_
  refine go_ishl dX12_drawCold_64 ?_
  refine go_ior dX12_drawCold_65 ?_
  obtain ⟨y4, ey4, hf⟩ := nmd_some hf
  refine go_nm ey4 ?_
  refine go_istore_n 1 [some (.ref this), some (.int y4), some (.int x2)] dX12_drawCold_66 rfl (by decide) rfl ?_
  refine go_iinc (x2 + 1) [some (.ref this), some (.int y4), some (.int (x2 + 1))] dX12_drawCold_67 rfl rfl (by decide) rfl ?_
  refine go_goto 4 dX12_drawCold_70 (by decide) ?_
  exact hrec4 y4 (x2 + 1) σ2 hf
set_option maxRecDepth 100000 in
set_option maxHeartbeats 4000000 in
theorem v_X12_drawCold_4 {N : Nat} {Γ : SG} {ρ : Nat → Nat → Nat} (hs : Sh Γ ρ) {this : Nat} (h0 : Γ[this]? = some (0, 12)) {n0 : Nat} {r : Int32} {σr : St} (rec4 : Int32 → Int32 → St → Option (Int32 × St)) (hrec4 : ∀ (x1 : Int32) (x2 : Int32) (σ : St), rec4 x1 x2 σ = some (r, σr) → Go mX12_drawCold 1 0 0 n0 (Ki Γ ρ r σr) 0 0 4 [some (.ref this), some (.int x1), some (.int x2)] [] (hp Γ ρ σ)) (x1 : Int32) (x2 : Int32) (σ : St) (hf : b_X12_drawCold_4 N ρ this rec4 x1 x2 σ = some (r, σr)) : Go mX12_drawCold 1 0 0 n0 (Ki Γ ρ r σr) 0 0 4 [some (.ref this), some (.int x1), some (.int x2)] [] (hp Γ ρ σ) := by
  unfold b_X12_drawCold_4 at hf
  refine go_iload_n 2 dX12_drawCold_4 rfl rfl ?_
  refine go_aload_n 0 dX12_drawCold_5 rfl rfl ?_
  refine go_fI fl_X12_392 dX12_drawCold_6 h0 (by decide) rfl ?_
  refine go_icmp_ge 73 dX12_drawCold_9 (by decide) (fun c5 => ?_) (fun c5 => ?_)
  · replace hf := (if_pos c5).symm.trans hf
    refine go_iload_n 1 dX12_drawCold_73 rfl rfl ?_
    cases hf
    exact go_iret rfl dX12_drawCold_74 (Nat.le_refl _) ⟨rfl, rfl⟩
  · replace hf := (if_neg c5).symm.trans hf
    refine go_aload_n 0 dX12_drawCold_12 rfl rfl ?_
    refine go_fR fl_X12_106 dX12_drawCold_13 h0 (by decide) rfl ?_
    refine go_bipush 21 dX12_drawCold_16 (by decide) ?_
    refine go_aload_n 0 dX12_drawCold_18 rfl rfl ?_
    refine go_fR fl_X12_106 dX12_drawCold_19 h0 (by decide) rfl ?_
    refine go_bipush 21 dX12_drawCold_22 (by decide) ?_
    obtain ⟨g6, hf⟩ := gd_some hf
    refine go_rI dX12_drawCold_24 (hs.1 _ 12 57 h0 rfl) (ib_in g6) ?_
    refine go_sipush 137 dX12_drawCold_25 (by decide) ?_
    refine go_imul dX12_drawCold_28 ?_
    refine go_bipush 71 dX12_drawCold_29 (by decide) ?_
    refine go_iadd dX12_drawCold_31 ?_
    refine go_sipush 1000 dX12_drawCold_32 (by decide) ?_
    refine go_irem dX12_drawCold_35 (by decide) ?_
    obtain ⟨g7, hf⟩ := gd_some hf
    obtain ⟨σ8, eσ8, hf⟩ := nmd_some hf
    refine go_wI dX12_drawCold_36 (hs.1 _ 12 57 h0 rfl) (ib_in g7) ?_
    rw [eσ8]
    refine go_iload_n 1 dX12_drawCold_37 rfl rfl ?_
    refine go_aload_n 0 dX12_drawCold_38 rfl rfl ?_
    refine go_fR fl_X12_106 dX12_drawCold_39 h0 (by decide) rfl ?_
    refine go_bipush 21 dX12_drawCold_42 (by decide) ?_
    obtain ⟨g9, hf⟩ := gd_some hf
    refine go_rI dX12_drawCold_44 (hs.1 _ 12 57 h0 rfl) (ib_in g9) ?_
    refine go_bipush 100 dX12_drawCold_45 (by decide) ?_
    refine go_irem dX12_drawCold_47 (by decide) ?_
    refine go_aload_n 0 dX12_drawCold_48 rfl rfl ?_
    refine go_fI fl_X12_398 dX12_drawCold_49 h0 (by decide) rfl ?_
    refine go_icmp_ge 59 dX12_drawCold_52 (by decide) (fun c10 => ?_) (fun c10 => ?_)
    · replace hf := (if_pos c10).symm.trans hf
      refine go_iconst 0 dX12_drawCold_59 (by decide) ?_
      refine go_msk [true, false, true] [some (.ref this), none, some (.int x2)] rfl ?_
      exact w_X12_drawCold_60 hs h0 rec4 hrec4 x2 0 x1 σ8 hf
    · replace hf := (if_neg c10).symm.trans hf
      refine go_iconst 1 dX12_drawCold_55 (by decide) ?_
      refine go_goto 60 dX12_drawCold_56 (by decide) ?_
      refine go_msk [true, false, true] [some (.ref this), none, some (.int x2)] rfl ?_
      exact w_X12_drawCold_60 hs h0 rec4 hrec4 x2 1 x1 σ8 hf
theorem w_X12_drawCold_4 {N : Nat} {Γ : SG} {ρ : Nat → Nat → Nat} (hs : Sh Γ ρ) {this : Nat} (h0 : Γ[this]? = some (0, 12)) {n0 : Nat} {r : Int32} {σr : St} : ∀ (n : Nat) (x1 : Int32) (x2 : Int32) (σ : St), f_X12_drawCold_4 N ρ this n x1 x2 σ = some (r, σr) → Go mX12_drawCold 1 0 0 n0 (Ki Γ ρ r σr) 0 0 4 [some (.ref this), some (.int x1), some (.int x2)] [] (hp Γ ρ σ) := by
  intro n
  induction n with
  | zero => intro x1 x2 σ hf; cases hf
  | succ n ih => intro x1 x2 σ hf; exact v_X12_drawCold_4 hs h0 _ ih x1 x2 σ hf
set_option maxRecDepth 100000 in
set_option maxHeartbeats 4000000 in
theorem t_X12_drawCold {N : Nat} {Γ : SG} {ρ : Nat → Nat → Nat} (hs : Sh Γ ρ) {this : Nat} (h0 : Γ[this]? = some (0, 12)) {σ : St} {r : Int32} {σr : St} (hf : f_X12_drawCold N ρ this σ = some (r, σr)) : Tri mX12_drawCold 1 0 0 [.ref this] (hp Γ ρ σ) (Ki Γ ρ r σr) := by
  unfold f_X12_drawCold at hf
  refine tri_of [some (.ref this), none, none] (plainFor_of_name rfl) rfl (Nat.le_of_ble_eq_true rfl) ?_
  refine go_iconst 0 dX12_drawCold_0 (by decide) ?_
  refine go_istore_n 1 [some (.ref this), some (.int 0), none] dX12_drawCold_1 rfl (by decide) rfl ?_
  refine go_iconst 0 dX12_drawCold_2 (by decide) ?_
  refine go_istore_n 2 [some (.ref this), some (.int 0), some (.int 0)] dX12_drawCold_3 rfl (by decide) rfl ?_
  exact w_X12_drawCold_4 hs h0 N 0 0 σ hf
def f_X12_isSaved_21 (N : Nat) (ρ : Nat → Nat → Nat) (this : Nat) (a1 : Int32) (s0 : Int32) (σ : St) : Option (Int32 × St) :=
  gd (bb s0) <|
  some (s0, σ)
def f_X12_isSaved (N : Nat) (ρ : Nat → Nat → Nat) (this : Nat) (a1 : Int32) (σ : St) : Option (Int32 × St) :=
  gd (ib (10 + a1) 22) <|
  if (σ.1 (ρ this 57) (10 + a1).toNatClampNeg : Int32) < (σ.1 this 51) then
    f_X12_isSaved_21 N ρ this a1 0 σ
  else
    f_X12_isSaved_21 N ρ this a1 1 σ
set_option maxRecDepth 100000 in
set_option maxHeartbeats 4000000 in
theorem w_X12_isSaved_21 {N : Nat} {Γ : SG} {ρ : Nat → Nat → Nat} (hs : Sh Γ ρ) {this : Nat} {a1 : Int32} (h0 : Γ[this]? = some (0, 12)) {n0 : Nat} {r : Int32} {σr : St} (s0 : Int32) (σ : St) (hf : f_X12_isSaved_21 N ρ this a1 s0 σ = some (r, σr)) : Go mX12_isSaved 0 0 0 n0 (Ki Γ ρ r σr) 0 0 21 [none, none] [.int s0] (hp Γ ρ σ) := by
  unfold f_X12_isSaved_21 at hf
  obtain ⟨g1, hf⟩ := gd_some hf
  cases hf
  exact go_zret rfl (bb_of g1) dX12_isSaved_21 (Nat.le_refl _) ⟨rfl, rfl⟩
set_option maxRecDepth 100000 in
set_option maxHeartbeats 4000000 in
theorem t_X12_isSaved {N : Nat} {Γ : SG} {ρ : Nat → Nat → Nat} (hs : Sh Γ ρ) {this : Nat} {a1 : Int32} (h0 : Γ[this]? = some (0, 12)) {σ : St} {r : Int32} {σr : St} (hf : f_X12_isSaved N ρ this a1 σ = some (r, σr)) : Tri mX12_isSaved 0 0 0 [.ref this, .int a1] (hp Γ ρ σ) (Ki Γ ρ r σr) := by
  unfold f_X12_isSaved at hf
  refine tri_of [some (.ref this), some (.int a1)] (plainFor_of_name rfl) rfl (Nat.le_of_ble_eq_true rfl) ?_
  refine go_aload_n 0 dX12_isSaved_0 rfl rfl ?_
  refine go_fR fl_X12_106 dX12_isSaved_1 h0 (by decide) rfl ?_
  refine go_bipush 10 dX12_isSaved_4 (by decide) ?_
  refine go_iload_n 1 dX12_isSaved_6 rfl rfl ?_
  refine go_iadd dX12_isSaved_7 ?_
  obtain ⟨g2, hf⟩ := gd_some hf
  refine go_rI dX12_isSaved_8 (hs.1 _ 12 57 h0 rfl) (ib_in g2) ?_
  refine go_aload_n 0 dX12_isSaved_9 rfl rfl ?_
  refine go_fI fl_X12_100 dX12_isSaved_10 h0 (by decide) rfl ?_
  refine go_icmp_lt 20 dX12_isSaved_13 (by decide) (fun c3 => ?_) (fun c3 => ?_)
  · replace hf := (if_pos c3).symm.trans hf
    refine go_iconst 0 dX12_isSaved_20 (by decide) ?_
    refine go_msk [false, false] [none, none] rfl ?_
    exact w_X12_isSaved_21 hs h0 0 σ hf
  · replace hf := (if_neg c3).symm.trans hf
    refine go_iconst 1 dX12_isSaved_16 (by decide) ?_
    refine go_goto 21 dX12_isSaved_17 (by decide) ?_
    refine go_msk [false, false] [none, none] rfl ?_
    exact w_X12_isSaved_21 hs h0 1 σ hf
def f_X12_hearth (N : Nat) (ρ : Nat → Nat → Nat) (this : Nat) (a1 : Int32) (a2 : Int32) (σ : St) : Option (Int32 × St) :=
  bnd (f_X12_isHearth N ρ this a1 σ) fun r1 σ2 =>
  if (r1 : Int32) = 0 then
    some ((-1), σ2)
  else
    bnd (f_X12_fill N ρ this σ2) fun _ σ6 =>
    if (a2 : Int32) = 0 then
      gd (ib a1 6) <|
      some (σ6.1 (ρ this 36) a1.toNatClampNeg, σ6)
    else
    if (a2 : Int32) = 1 then
      gd (ib a1 6) <|
      some (σ6.1 (ρ this 37) a1.toNatClampNeg, σ6)
    else
    if (a2 : Int32) = 2 then
      gd (ib a1 6) <|
      some (σ6.1 (ρ this 38) a1.toNatClampNeg, σ6)
    else
    if (a2 : Int32) = 3 then
      gd (ib a1 6) <|
      some (σ6.1 (ρ this 39) a1.toNatClampNeg, σ6)
    else
    if (a2 : Int32) = 4 then
      bnd (f_X12_sentTo N ρ this a1 σ6) fun r17 σ18 =>
      some (r17, σ18)
    else
    if (a2 : Int32) = 5 then
      bnd (f_X12_quarrels N ρ this a1 σ6) fun r21 σ22 =>
      bnd (f_X12_truth N ρ r21 σ22) fun r24 σ25 =>
      some (r24, σ25)
    else
      some ((-1), σ6)
set_option maxRecDepth 100000 in
set_option maxHeartbeats 4000000 in
theorem t_X12_hearth {N : Nat} {Γ : SG} {ρ : Nat → Nat → Nat} (hs : Sh Γ ρ) {this : Nat} {a1 : Int32} {a2 : Int32} (h0 : Γ[this]? = some (0, 12)) {σ : St} {r : Int32} {σr : St} (hf : f_X12_hearth N ρ this a1 a2 σ = some (r, σr)) : Tri mX12_hearth 2 0 0 [.ref this, .int a1, .int a2] (hp Γ ρ σ) (Ki Γ ρ r σr) := by
  unfold f_X12_hearth at hf
  refine tri_of [some (.ref this), some (.int a1), some (.int a2)] (plainFor_of_name rfl) rfl (Nat.le_of_ble_eq_true rfl) ?_
  refine go_aload_n 0 dX12_hearth_0 rfl rfl ?_
  refine go_iload_n 1 dX12_hearth_1 rfl rfl ?_
  obtain ⟨r1, σ2, q3, hf⟩ := bnd_some hf
  refine go_Vi (av := [.int a1]) (rest := []) (t_X12_isHearth hs h0 q3) ok_X12_isHearth ml_X12_448 dX12_hearth_2 h0 rfl rfl (by decide) (Nat.le_refl _) (Nat.le_refl _) (Nat.le_of_ble_eq_true rfl) ?_
  refine go_if_ne 10 dX12_hearth_5 (by decide) (fun c4 => ?_) (fun c4 => ?_)
  · replace hf := (if_neg c4).symm.trans hf
    refine go_aload_n 0 dX12_hearth_10 rfl rfl ?_
    obtain ⟨r5, σ6, q7, hf⟩ := bnd_some hf
    refine go_Vv (av := []) (rest := []) (t_X12_fill hs h0 q7) ok_X12_fill ml_X12_451 dX12_hearth_11 h0 rfl rfl (by decide) (Nat.le_refl _) (Nat.le_refl _) (Nat.le_of_ble_eq_true rfl) ?_
    refine go_iload_n 2 dX12_hearth_14 rfl rfl ?_
    by_cases c8 : (a2 : Int32) = 0
    · replace hf := (if_pos c8).symm.trans hf
      refine go_tableIn 52 dX12_hearth_15 (by rw [c8]; decide) (by rw [c8]; decide) (by rw [c8]; rfl) (by decide) ?_
      refine go_aload_n 0 dX12_hearth_52 rfl rfl ?_
      refine go_fR fl_X12_76 dX12_hearth_53 h0 (by decide) rfl ?_
      refine go_iload_n 1 dX12_hearth_56 rfl rfl ?_
      obtain ⟨g9, hf⟩ := gd_some hf
      refine go_rI dX12_hearth_57 (hs.1 _ 12 36 h0 rfl) (ib_in g9) ?_
      cases hf
      exact go_iret rfl dX12_hearth_58 (Nat.le_refl _) ⟨rfl, rfl⟩
    replace hf := (if_neg c8).symm.trans hf
    by_cases c10 : (a2 : Int32) = 1
    · replace hf := (if_pos c10).symm.trans hf
      refine go_tableIn 59 dX12_hearth_15 (by rw [c10]; decide) (by rw [c10]; decide) (by rw [c10]; rfl) (by decide) ?_
      refine go_aload_n 0 dX12_hearth_59 rfl rfl ?_
      refine go_fR fl_X12_79 dX12_hearth_60 h0 (by decide) rfl ?_
      refine go_iload_n 1 dX12_hearth_63 rfl rfl ?_
      obtain ⟨g11, hf⟩ := gd_some hf
      refine go_rI dX12_hearth_64 (hs.1 _ 12 37 h0 rfl) (ib_in g11) ?_
      cases hf
      exact go_iret rfl dX12_hearth_65 (Nat.le_refl _) ⟨rfl, rfl⟩
    replace hf := (if_neg c10).symm.trans hf
    by_cases c12 : (a2 : Int32) = 2
    · replace hf := (if_pos c12).symm.trans hf
      refine go_tableIn 66 dX12_hearth_15 (by rw [c12]; decide) (by rw [c12]; decide) (by rw [c12]; rfl) (by decide) ?_
      refine go_aload_n 0 dX12_hearth_66 rfl rfl ?_
      refine go_fR fl_X12_82 dX12_hearth_67 h0 (by decide) rfl ?_
      refine go_iload_n 1 dX12_hearth_70 rfl rfl ?_
      obtain ⟨g13, hf⟩ := gd_some hf
      refine go_rI dX12_hearth_71 (hs.1 _ 12 38 h0 rfl) (ib_in g13) ?_
      cases hf
      exact go_iret rfl dX12_hearth_72 (Nat.le_refl _) ⟨rfl, rfl⟩
    replace hf := (if_neg c12).symm.trans hf
    by_cases c14 : (a2 : Int32) = 3
    · replace hf := (if_pos c14).symm.trans hf
      refine go_tableIn 73 dX12_hearth_15 (by rw [c14]; decide) (by rw [c14]; decide) (by rw [c14]; rfl) (by decide) ?_
      refine go_aload_n 0 dX12_hearth_73 rfl rfl ?_
      refine go_fR fl_X12_85 dX12_hearth_74 h0 (by decide) rfl ?_
      refine go_iload_n 1 dX12_hearth_77 rfl rfl ?_
      obtain ⟨g15, hf⟩ := gd_some hf
      refine go_rI dX12_hearth_78 (hs.1 _ 12 39 h0 rfl) (ib_in g15) ?_
      cases hf
      exact go_iret rfl dX12_hearth_79 (Nat.le_refl _) ⟨rfl, rfl⟩
    replace hf := (if_neg c14).symm.trans hf
    by_cases c16 : (a2 : Int32) = 4
    · replace hf := (if_pos c16).symm.trans hf
      refine go_tableIn 80 dX12_hearth_15 (by rw [c16]; decide) (by rw [c16]; decide) (by rw [c16]; rfl) (by decide) ?_
      refine go_aload_n 0 dX12_hearth_80 rfl rfl ?_
      refine go_iload_n 1 dX12_hearth_81 rfl rfl ?_
      obtain ⟨r17, σ18, q19, hf⟩ := bnd_some hf
      refine go_Vi (av := [.int a1]) (rest := []) (t_X12_sentTo hs h0 q19) ok_X12_sentTo ml_X12_430 dX12_hearth_82 h0 rfl rfl (by decide) (Nat.le_refl _) (Nat.le_refl _) (Nat.le_of_ble_eq_true rfl) ?_
      cases hf
      exact go_iret rfl dX12_hearth_85 (Nat.le_refl _) ⟨rfl, rfl⟩
    replace hf := (if_neg c16).symm.trans hf
    by_cases c20 : (a2 : Int32) = 5
    · replace hf := (if_pos c20).symm.trans hf
      refine go_tableIn 86 dX12_hearth_15 (by rw [c20]; decide) (by rw [c20]; decide) (by rw [c20]; rfl) (by decide) ?_
      refine go_aload_n 0 dX12_hearth_86 rfl rfl ?_
      refine go_iload_n 1 dX12_hearth_87 rfl rfl ?_
      obtain ⟨r21, σ22, q23, hf⟩ := bnd_some hf
      refine go_Vi (av := [.int a1]) (rest := []) (t_X12_quarrels hs h0 q23) ok_X12_quarrels ml_X12_439 dX12_hearth_88 h0 rfl rfl (by decide) (Nat.le_refl _) (Nat.le_refl _) (Nat.le_of_ble_eq_true rfl) ?_
      obtain ⟨r24, σ25, q26, hf⟩ := bnd_some hf
      refine go_Si (av := [.int r21]) (rest := []) (t_X12_truth hs  q26) ok_X12_truth ml_X12_329 dX12_hearth_91 rfl rfl (by decide) (Nat.le_refl _) (Nat.le_refl _) (Nat.le_of_ble_eq_true rfl) ?_
      cases hf
      exact go_iret rfl dX12_hearth_94 (Nat.le_refl _) ⟨rfl, rfl⟩
    replace hf := (if_neg c20).symm.trans hf
    refine go_tableOut 95 dX12_hearth_15 (tab_out 0 5 [0, 1, 2, 3, 4, 5] (by decide) (by simp only [List.forall_mem_cons]; exact ⟨c8, c10, c12, c14, c16, c20, by simp⟩)) (by decide) ?_
    refine go_iconst (-1) dX12_hearth_95 (by decide) ?_
    cases hf
    exact go_iret rfl dX12_hearth_96 (Nat.le_refl _) ⟨rfl, rfl⟩
  · replace hf := (if_pos c4).symm.trans hf
    refine go_iconst (-1) dX12_hearth_8 (by decide) ?_
    cases hf
    exact go_iret rfl dX12_hearth_9 (Nat.le_refl _) ⟨rfl, rfl⟩
def f_X12_stool (N : Nat) (ρ : Nat → Nat → Nat) (this : Nat) (a1 : Int32) (a2 : Int32) (σ : St) : Option (Int32 × St) :=
  bnd (f_X12_isStool N ρ this a1 σ) fun r1 σ2 =>
  if (r1 : Int32) = 0 then
    some ((-2), σ2)
  else
    bnd (f_X12_fill N ρ this σ2) fun _ σ6 =>
    if (a2 : Int32) = 0 then
      gd (ib a1 5) <|
      some (σ6.1 (ρ this 40) a1.toNatClampNeg, σ6)
    else
    if (a2 : Int32) = 1 then
      gd (ib a1 22) <|
      some (σ6.1 (ρ this 57) a1.toNatClampNeg, σ6)
    else
    if (a2 : Int32) = 2 then
      gd (ib a1 5) <|
      some (σ6.1 (ρ this 42) a1.toNatClampNeg, σ6)
    else
    if (a2 : Int32) = 3 then
      gd (ib (5 + a1) 22) <|
      some (σ6.1 (ρ this 57) (5 + a1).toNatClampNeg, σ6)
    else
    if (a2 : Int32) = 4 then
      gd (ib (10 + a1) 22) <|
      some (σ6.1 (ρ this 57) (10 + a1).toNatClampNeg, σ6)
    else
    if (a2 : Int32) = 5 then
      gd (ib (15 + a1) 22) <|
      some (σ6.1 (ρ this 57) (15 + a1).toNatClampNeg, σ6)
    else
    if (a2 : Int32) = 6 then
      bnd (f_X12_isSaved N ρ this a1 σ6) fun r21 σ22 =>
      bnd (f_X12_truth N ρ r21 σ22) fun r24 σ25 =>
      some (r24, σ25)
    else
      some ((-2), σ6)
set_option maxRecDepth 100000 in
set_option maxHeartbeats 4000000 in
theorem t_X12_stool {N : Nat} {Γ : SG} {ρ : Nat → Nat → Nat} (hs : Sh Γ ρ) {this : Nat} {a1 : Int32} {a2 : Int32} (h0 : Γ[this]? = some (0, 12)) {σ : St} {r : Int32} {σr : St} (hf : f_X12_stool N ρ this a1 a2 σ = some (r, σr)) : Tri mX12_stool 2 0 0 [.ref this, .int a1, .int a2] (hp Γ ρ σ) (Ki Γ ρ r σr) := by
  unfold f_X12_stool at hf
  refine tri_of [some (.ref this), some (.int a1), some (.int a2)] (plainFor_of_name rfl) rfl (Nat.le_of_ble_eq_true rfl) ?_
  refine go_aload_n 0 dX12_stool_0 rfl rfl ?_
  refine go_iload_n 1 dX12_stool_1 rfl rfl ?_
  obtain ⟨r1, σ2, q3, hf⟩ := bnd_some hf
  refine go_Vi (av := [.int a1]) (rest := []) (t_X12_isStool hs h0 q3) ok_X12_isStool ml_X12_454 dX12_stool_2 h0 rfl rfl (by decide) (Nat.le_refl _) (Nat.le_refl _) (Nat.le_of_ble_eq_true rfl) ?_
  refine go_if_ne 11 dX12_stool_5 (by decide) (fun c4 => ?_) (fun c4 => ?_)
  · replace hf := (if_neg c4).symm.trans hf
    refine go_aload_n 0 dX12_stool_11 rfl rfl ?_
    obtain ⟨r5, σ6, q7, hf⟩ := bnd_some hf
    refine go_Vv (av := []) (rest := []) (t_X12_fill hs h0 q7) ok_X12_fill ml_X12_451 dX12_stool_12 h0 rfl rfl (by decide) (Nat.le_refl _) (Nat.le_refl _) (Nat.le_of_ble_eq_true rfl) ?_
    refine go_iload_n 2 dX12_stool_15 rfl rfl ?_
    by_cases c8 : (a2 : Int32) = 0
    · replace hf := (if_pos c8).symm.trans hf
      refine go_tableIn 60 dX12_stool_16 (by rw [c8]; decide) (by rw [c8]; decide) (by rw [c8]; rfl) (by decide) ?_
      refine go_aload_n 0 dX12_stool_60 rfl rfl ?_
      refine go_fR fl_X12_88 dX12_stool_61 h0 (by decide) rfl ?_
      refine go_iload_n 1 dX12_stool_64 rfl rfl ?_
      obtain ⟨g9, hf⟩ := gd_some hf
      refine go_rI dX12_stool_65 (hs.1 _ 12 40 h0 rfl) (ib_in g9) ?_
      cases hf
      exact go_iret rfl dX12_stool_66 (Nat.le_refl _) ⟨rfl, rfl⟩
    replace hf := (if_neg c8).symm.trans hf
    by_cases c10 : (a2 : Int32) = 1
    · replace hf := (if_pos c10).symm.trans hf
      refine go_tableIn 67 dX12_stool_16 (by rw [c10]; decide) (by rw [c10]; decide) (by rw [c10]; rfl) (by decide) ?_
      refine go_aload_n 0 dX12_stool_67 rfl rfl ?_
      refine go_fR fl_X12_106 dX12_stool_68 h0 (by decide) rfl ?_
      refine go_iload_n 1 dX12_stool_71 rfl rfl ?_
      obtain ⟨g11, hf⟩ := gd_some hf
      refine go_rI dX12_stool_72 (hs.1 _ 12 57 h0 rfl) (ib_in g11) ?_
      cases hf
      exact go_iret rfl dX12_stool_73 (Nat.le_refl _) ⟨rfl, rfl⟩
    replace hf := (if_neg c10).symm.trans hf
    by_cases c12 : (a2 : Int32) = 2
    · replace hf := (if_pos c12).symm.trans hf
      refine go_tableIn 74 dX12_stool_16 (by rw [c12]; decide) (by rw [c12]; decide) (by rw [c12]; rfl) (by decide) ?_
      refine go_aload_n 0 dX12_stool_74 rfl rfl ?_
      refine go_fR fl_X12_94 dX12_stool_75 h0 (by decide) rfl ?_
      refine go_iload_n 1 dX12_stool_78 rfl rfl ?_
      obtain ⟨g13, hf⟩ := gd_some hf
      refine go_rI dX12_stool_79 (hs.1 _ 12 42 h0 rfl) (ib_in g13) ?_
      cases hf
      exact go_iret rfl dX12_stool_80 (Nat.le_refl _) ⟨rfl, rfl⟩
    replace hf := (if_neg c12).symm.trans hf
    by_cases c14 : (a2 : Int32) = 3
    · replace hf := (if_pos c14).symm.trans hf
      refine go_tableIn 81 dX12_stool_16 (by rw [c14]; decide) (by rw [c14]; decide) (by rw [c14]; rfl) (by decide) ?_
      refine go_aload_n 0 dX12_stool_81 rfl rfl ?_
      refine go_fR fl_X12_106 dX12_stool_82 h0 (by decide) rfl ?_
      refine go_iconst 5 dX12_stool_85 (by decide) ?_
      refine go_iload_n 1 dX12_stool_86 rfl rfl ?_
      refine go_iadd dX12_stool_87 ?_
      obtain ⟨g15, hf⟩ := gd_some hf
      refine go_rI dX12_stool_88 (hs.1 _ 12 57 h0 rfl) (ib_in g15) ?_
      cases hf
      exact go_iret rfl dX12_stool_89 (Nat.le_refl _) ⟨rfl, rfl⟩
    replace hf := (if_neg c14).symm.trans hf
    by_cases c16 : (a2 : Int32) = 4
    · replace hf := (if_pos c16).symm.trans hf
      refine go_tableIn 90 dX12_stool_16 (by rw [c16]; decide) (by rw [c16]; decide) (by rw [c16]; rfl) (by decide) ?_
      refine go_aload_n 0 dX12_stool_90 rfl rfl ?_
      refine go_fR fl_X12_106 dX12_stool_91 h0 (by decide) rfl ?_
      refine go_bipush 10 dX12_stool_94 (by decide) ?_
      refine go_iload_n 1 dX12_stool_96 rfl rfl ?_
      refine go_iadd dX12_stool_97 ?_
      obtain ⟨g17, hf⟩ := gd_some hf
      refine go_rI dX12_stool_98 (hs.1 _ 12 57 h0 rfl) (ib_in g17) ?_
      cases hf
      exact go_iret rfl dX12_stool_99 (Nat.le_refl _) ⟨rfl, rfl⟩
    replace hf := (if_neg c16).symm.trans hf
    by_cases c18 : (a2 : Int32) = 5
    · replace hf := (if_pos c18).symm.trans hf
      refine go_tableIn 100 dX12_stool_16 (by rw [c18]; decide) (by rw [c18]; decide) (by rw [c18]; rfl) (by decide) ?_
      refine go_aload_n 0 dX12_stool_100 rfl rfl ?_
      refine go_fR fl_X12_106 dX12_stool_101 h0 (by decide) rfl ?_
      refine go_bipush 15 dX12_stool_104 (by decide) ?_
      refine go_iload_n 1 dX12_stool_106 rfl rfl ?_
      refine go_iadd dX12_stool_107 ?_
      obtain ⟨g19, hf⟩ := gd_some hf
      refine go_rI dX12_stool_108 (hs.1 _ 12 57 h0 rfl) (ib_in g19) ?_
      cases hf
      exact go_iret rfl dX12_stool_109 (Nat.le_refl _) ⟨rfl, rfl⟩
    replace hf := (if_neg c18).symm.trans hf
    by_cases c20 : (a2 : Int32) = 6
    · replace hf := (if_pos c20).symm.trans hf
      refine go_tableIn 110 dX12_stool_16 (by rw [c20]; decide) (by rw [c20]; decide) (by rw [c20]; rfl) (by decide) ?_
      refine go_aload_n 0 dX12_stool_110 rfl rfl ?_
      refine go_iload_n 1 dX12_stool_111 rfl rfl ?_
      obtain ⟨r21, σ22, q23, hf⟩ := bnd_some hf
      refine go_Vi (av := [.int a1]) (rest := []) (t_X12_isSaved hs h0 q23) ok_X12_isSaved ml_X12_457 dX12_stool_112 h0 rfl rfl (by decide) (Nat.le_refl _) (Nat.le_refl _) (Nat.le_of_ble_eq_true rfl) ?_
      obtain ⟨r24, σ25, q26, hf⟩ := bnd_some hf
      refine go_Si (av := [.int r21]) (rest := []) (t_X12_truth hs  q26) ok_X12_truth ml_X12_329 dX12_stool_115 rfl rfl (by decide) (Nat.le_refl _) (Nat.le_refl _) (Nat.le_of_ble_eq_true rfl) ?_
      cases hf
      exact go_iret rfl dX12_stool_118 (Nat.le_refl _) ⟨rfl, rfl⟩
    replace hf := (if_neg c20).symm.trans hf
    refine go_tableOut 119 dX12_stool_16 (tab_out 0 6 [0, 1, 2, 3, 4, 5, 6] (by decide) (by simp only [List.forall_mem_cons]; exact ⟨c8, c10, c12, c14, c16, c18, c20, by simp⟩)) (by decide) ?_
    refine go_bipush (-2) dX12_stool_119 (by decide) ?_
    cases hf
    exact go_iret rfl dX12_stool_121 (Nat.le_refl _) ⟨rfl, rfl⟩
  · replace hf := (if_pos c4).symm.trans hf
    refine go_bipush (-2) dX12_stool_8 (by decide) ?_
    cases hf
    exact go_iret rfl dX12_stool_10 (Nat.le_refl _) ⟨rfl, rfl⟩
def f_X12_load_33 (N : Nat) (ρ : Nat → Nat → Nat) (this : Nat) (a1 : Int32) (s0 : Int32) (σ : St) : Option (Int32 × St) :=
  some (s0, σ)
def f_X12_load_32 (N : Nat) (ρ : Nat → Nat → Nat) (this : Nat) (a1 : Int32) (σ : St) : Option (Int32 × St) :=
  f_X12_load_33 N ρ this a1 (-1) σ
def f_X12_load (N : Nat) (ρ : Nat → Nat → Nat) (this : Nat) (a1 : Int32) (σ : St) : Option (Int32 × St) :=
  bnd (f_X12_fill N ρ this σ) fun _ σ2 =>
  bnd (f_X12_isStool N ρ this a1 σ2) fun r4 σ5 =>
  if (r4 : Int32) = 0 then
    f_X12_load_32 N ρ this a1 σ5
  else
    gd (ib (15 + a1) 22) <|
    if (σ5.1 (ρ this 57) (15 + a1).toNatClampNeg : Int32) < 0 then
      f_X12_load_32 N ρ this a1 σ5
    else
      bnd (f_X12_loadOf N ρ this a1 σ5) fun r10 σ11 =>
      f_X12_load_33 N ρ this a1 r10 σ11
set_option maxRecDepth 100000 in
set_option maxHeartbeats 4000000 in
theorem w_X12_load_33 {N : Nat} {Γ : SG} {ρ : Nat → Nat → Nat} (hs : Sh Γ ρ) {this : Nat} {a1 : Int32} (h0 : Γ[this]? = some (0, 12)) {n0 : Nat} {r : Int32} {σr : St} (s0 : Int32) (σ : St) (hf : f_X12_load_33 N ρ this a1 s0 σ = some (r, σr)) : Go mX12_load 5 0 0 n0 (Ki Γ ρ r σr) 0 0 33 [none, none] [.int s0] (hp Γ ρ σ) := by
  unfold f_X12_load_33 at hf
  cases hf
  exact go_iret rfl dX12_load_33 (Nat.le_refl _) ⟨rfl, rfl⟩
set_option maxRecDepth 100000 in
set_option maxHeartbeats 4000000 in
theorem w_X12_load_32 {N : Nat} {Γ : SG} {ρ : Nat → Nat → Nat} (hs : Sh Γ ρ) {this : Nat} {a1 : Int32} (h0 : Γ[this]? = some (0, 12)) {n0 : Nat} {r : Int32} {σr : St} (σ : St) (hf : f_X12_load_32 N ρ this a1 σ = some (r, σr)) : Go mX12_load 5 0 0 n0 (Ki Γ ρ r σr) 0 0 32 [none, none] [] (hp Γ ρ σ) := by
  unfold f_X12_load_32 at hf
  refine go_iconst (-1) dX12_load_32 (by decide) ?_
  exact w_X12_load_33 hs h0 (-1) σ hf
set_option maxRecDepth 100000 in
set_option maxHeartbeats 4000000 in
theorem t_X12_load {N : Nat} {Γ : SG} {ρ : Nat → Nat → Nat} (hs : Sh Γ ρ) {this : Nat} {a1 : Int32} (h0 : Γ[this]? = some (0, 12)) {σ : St} {r : Int32} {σr : St} (hf : f_X12_load N ρ this a1 σ = some (r, σr)) : Tri mX12_load 5 0 0 [.ref this, .int a1] (hp Γ ρ σ) (Ki Γ ρ r σr) := by
  unfold f_X12_load at hf
  refine tri_of [some (.ref this), some (.int a1)] (plainFor_of_name rfl) rfl (Nat.le_of_ble_eq_true rfl) ?_
  refine go_aload_n 0 dX12_load_0 rfl rfl ?_
  obtain ⟨r1, σ2, q3, hf⟩ := bnd_some hf
  refine go_Vv (av := []) (rest := []) (t_X12_fill hs h0 q3) ok_X12_fill ml_X12_451 dX12_load_1 h0 rfl rfl (by decide) (Nat.le_refl _) (Nat.le_refl _) (Nat.le_of_ble_eq_true rfl) ?_
  refine go_aload_n 0 dX12_load_4 rfl rfl ?_
  refine go_iload_n 1 dX12_load_5 rfl rfl ?_
  obtain ⟨r4, σ5, q6, hf⟩ := bnd_some hf
  refine go_Vi (av := [.int a1]) (rest := []) (t_X12_isStool hs h0 q6) ok_X12_isStool ml_X12_454 dX12_load_6 h0 rfl rfl (by decide) (Nat.le_refl _) (Nat.le_refl _) (Nat.le_of_ble_eq_true rfl) ?_
  refine go_if_eq 32 dX12_load_9 (by decide) (fun c7 => ?_) (fun c7 => ?_)
  · replace hf := (if_pos c7).symm.trans hf
    refine go_msk [false, false] [none, none] rfl ?_
    exact w_X12_load_32 hs h0 σ5 hf
  · replace hf := (if_neg c7).symm.trans hf
    refine go_aload_n 0 dX12_load_12 rfl rfl ?_
    refine go_fR fl_X12_106 dX12_load_13 h0 (by decide) rfl ?_
    refine go_bipush 15 dX12_load_16 (by decide) ?_
    refine go_iload_n 1 dX12_load_18 rfl rfl ?_
    refine go_iadd dX12_load_19 ?_
    obtain ⟨g8, hf⟩ := gd_some hf
    refine go_rI dX12_load_20 (hs.1 _ 12 57 h0 rfl) (ib_in g8) ?_
    refine go_if_lt 32 dX12_load_21 (by decide) (fun c9 => ?_) (fun c9 => ?_)
    · replace hf := (if_pos c9).symm.trans hf
      refine go_msk [false, false] [none, none] rfl ?_
      exact w_X12_load_32 hs h0 σ5 hf
    · replace hf := (if_neg c9).symm.trans hf
      refine go_aload_n 0 dX12_load_24 rfl rfl ?_
      refine go_iload_n 1 dX12_load_25 rfl rfl ?_
      obtain ⟨r10, σ11, q12, hf⟩ := bnd_some hf
      refine go_Vi (av := [.int a1]) (rest := []) (t_X12_loadOf hs h0 q12) ok_X12_loadOf ml_X12_442 dX12_load_26 h0 rfl rfl (by decide) (Nat.le_refl _) (Nat.le_refl _) (Nat.le_of_ble_eq_true rfl) ?_
      refine go_goto 33 dX12_load_29 (by decide) ?_
      refine go_msk [false, false] [none, none] rfl ?_
      exact w_X12_load_33 hs h0 r10 σ11 hf
def b_X12_act_51 (N : Nat) (ρ : Nat → Nat → Nat) (this : Nat) (rec51 : Int32 → St → Option (Int32 × St)) (x1 : Int32) (σ : St) : Option (Int32 × St) :=
  if 22 ≤ (x1 : Int32) then
    nmd (sI σ this 62 ((σ.1 this 62) + 1)) fun σ2 =>
    nmd (sI σ2 this 63 0) fun σ3 =>
    bnd (f_X12_fill N ρ this σ3) fun _ σ5 =>
    some (0, σ5)
  else
    gd (ib x1 22) <|
    gd (ib ((22 * (σ.1 this 62)) + x1) 880) <|
    nmd (sI σ (ρ this 61) ((22 * (σ.1 this 62)) + x1).toNatClampNeg (σ.1 (ρ this 56) x1.toNatClampNeg)) fun σ9 =>
    rec51 (x1 + 1) σ9
def f_X12_act_51 (N : Nat) (ρ : Nat → Nat → Nat) (this : Nat) : Nat → Int32 → St → Option (Int32 × St)
  | 0, _, _ => none
  | n + 1, x1, σ => b_X12_act_51 N ρ this (f_X12_act_51 N ρ this n) x1 σ
def f_X12_act_49 (N : Nat) (ρ : Nat → Nat → Nat) (this : Nat) (σ : St) : Option (Int32 × St) :=
  f_X12_act_51 N ρ this N 0 σ
def b_X12_act_11 (N : Nat) (ρ : Nat → Nat → Nat) (this : Nat) (rec11 : Int32 → St → Option (Int32 × St)) (x1 : Int32) (σ : St) : Option (Int32 × St) :=
  if 858 ≤ (x1 : Int32) then
    nmd (sI σ this 62 ((σ.1 this 62) - 1)) fun σ11 =>
    f_X12_act_49 N ρ this σ11
  else
    gd (ib (22 + x1) 880) <|
    gd (ib x1 880) <|
    nmd (sI σ (ρ this 61) x1.toNatClampNeg (σ.1 (ρ this 61) (22 + x1).toNatClampNeg)) fun σ14 =>
    rec11 (x1 + 1) σ14
def f_X12_act_11 (N : Nat) (ρ : Nat → Nat → Nat) (this : Nat) : Nat → Int32 → St → Option (Int32 × St)
  | 0, _, _ => none
  | n + 1, x1, σ => b_X12_act_11 N ρ this (f_X12_act_11 N ρ this n) x1 σ
def f_X12_act (N : Nat) (ρ : Nat → Nat → Nat) (this : Nat) (σ : St) : Option (Int32 × St) :=
  if (σ.1 this 62 : Int32) = 40 then
    f_X12_act_11 N ρ this N 0 σ
  else
    f_X12_act_49 N ρ this σ
set_option maxRecDepth 100000 in
set_option maxHeartbeats 4000000 in
theorem v_X12_act_51 {N : Nat} {Γ : SG} {ρ : Nat → Nat → Nat} (hs : Sh Γ ρ) {this : Nat} (h0 : Γ[this]? = some (0, 12)) {n0 : Nat} {r : Int32} {σr : St} (rec51 : Int32 → St → Option (Int32 × St)) (hrec51 : ∀ (x1 : Int32) (σ : St), rec51 x1 σ = some (r, σr) → Go mX12_act 1 0 0 n0 (Kv Γ ρ σr) 0 0 51 [some (.ref this), some (.int x1)] [] (hp Γ ρ σ)) (x1 : Int32) (σ : St) (hf : b_X12_act_51 N ρ this rec51 x1 σ = some (r, σr)) : Go mX12_act 1 0 0 n0 (Kv Γ ρ σr) 0 0 51 [some (.ref this), some (.int x1)] [] (hp Γ ρ σ) := by
  unfold b_X12_act_51 at hf
  refine go_iload_n 1 dX12_act_51 rfl rfl ?_
  refine go_bipush 22 dX12_act_52 (by decide) ?_
  refine go_icmp_ge 83 dX12_act_54 (by decide) (fun c1 => ?_) (fun c1 => ?_)
  · replace hf := (if_pos c1).symm.trans hf
    refine go_aload_n 0 dX12_act_83 rfl rfl ?_
    refine go_dup dX12_act_84 rfl ?_
    refine go_fI fl_X12_410 dX12_act_85 h0 (by decide) rfl ?_
    refine go_iconst 1 dX12_act_88 (by decide) ?_
    refine go_iadd dX12_act_89 ?_
    obtain ⟨σ2, eσ2, hf⟩ := nmd_some hf
    refine go_pI fl_X12_410 ft_12_62 (okv_i _) dX12_act_90 h0 (by decide) rfl ?_
    rw [eσ2]
    refine go_aload_n 0 dX12_act_93 rfl rfl ?_
    refine go_iconst 0 dX12_act_94 (by decide) ?_
    obtain ⟨σ3, eσ3, hf⟩ := nmd_some hf
    refine go_pI fl_X12_413 ft_12_63 (okv_i _) dX12_act_95 h0 (by decide) rfl ?_
    rw [eσ3]
    refine go_aload_n 0 dX12_act_98 rfl rfl ?_
    obtain ⟨r4, σ5, q6, hf⟩ := bnd_some hf
    refine go_Vv (av := []) (rest := []) (t_X12_fill hs h0 q6) ok_X12_fill ml_X12_451 dX12_act_99 h0 rfl rfl (by decide) (Nat.le_refl _) (Nat.le_refl _) (Nat.le_of_ble_eq_true rfl) ?_
    cases hf
    exact go_vret rfl dX12_act_102 (Nat.le_refl _) ⟨rfl, rfl⟩
  · replace hf := (if_neg c1).symm.trans hf
    refine go_aload_n 0 dX12_act_57 rfl rfl ?_
    refine go_fR fl_X12_118 dX12_act_58 h0 (by decide) rfl ?_
    refine go_bipush 22 dX12_act_61 (by decide) ?_
    refine go_aload_n 0 dX12_act_63 rfl rfl ?_
    refine go_fI fl_X12_410 dX12_act_64 h0 (by decide) rfl ?_
    refine go_imul dX12_act_67 ?_
    refine go_iload_n 1 dX12_act_68 rfl rfl ?_
    refine go_iadd dX12_act_69 ?_
    refine go_aload_n 0 dX12_act_70 rfl rfl ?_
    refine go_fR fl_X12_103 dX12_act_71 h0 (by decide) rfl ?_
    refine go_iload_n 1 dX12_act_74 rfl rfl ?_
    obtain ⟨g7, hf⟩ := gd_some hf
    refine go_rI dX12_act_75 (hs.1 _ 12 56 h0 rfl) (ib_in g7) ?_
    obtain ⟨g8, hf⟩ := gd_some hf
    obtain ⟨σ9, eσ9, hf⟩ := nmd_some hf
    refine go_wI dX12_act_76 (hs.1 _ 12 61 h0 rfl) (ib_in g8) ?_
    rw [eσ9]
    refine go_iinc (x1 + 1) [some (.ref this), some (.int (x1 + 1))] dX12_act_77 rfl rfl (by decide) rfl ?_
    refine go_goto 51 dX12_act_80 (by decide) ?_
    exact hrec51 (x1 + 1) σ9 hf
theorem w_X12_act_51 {N : Nat} {Γ : SG} {ρ : Nat → Nat → Nat} (hs : Sh Γ ρ) {this : Nat} (h0 : Γ[this]? = some (0, 12)) {n0 : Nat} {r : Int32} {σr : St} : ∀ (n : Nat) (x1 : Int32) (σ : St), f_X12_act_51 N ρ this n x1 σ = some (r, σr) → Go mX12_act 1 0 0 n0 (Kv Γ ρ σr) 0 0 51 [some (.ref this), some (.int x1)] [] (hp Γ ρ σ) := by
  intro n
  induction n with
  | zero => intro x1 σ hf; cases hf
  | succ n ih => intro x1 σ hf; exact v_X12_act_51 hs h0 _ ih x1 σ hf
set_option maxRecDepth 100000 in
set_option maxHeartbeats 4000000 in
theorem w_X12_act_49 {N : Nat} {Γ : SG} {ρ : Nat → Nat → Nat} (hs : Sh Γ ρ) {this : Nat} (h0 : Γ[this]? = some (0, 12)) {n0 : Nat} {r : Int32} {σr : St} (σ : St) (hf : f_X12_act_49 N ρ this σ = some (r, σr)) : Go mX12_act 1 0 0 n0 (Kv Γ ρ σr) 0 0 49 [some (.ref this), none] [] (hp Γ ρ σ) := by
  unfold f_X12_act_49 at hf
  refine go_iconst 0 dX12_act_49 (by decide) ?_
  refine go_istore_n 1 [some (.ref this), some (.int 0)] dX12_act_50 rfl (by decide) rfl ?_
  exact w_X12_act_51 hs h0 N 0 σ hf
set_option maxRecDepth 100000 in
set_option maxHeartbeats 4000000 in
theorem v_X12_act_11 {N : Nat} {Γ : SG} {ρ : Nat → Nat → Nat} (hs : Sh Γ ρ) {this : Nat} (h0 : Γ[this]? = some (0, 12)) {n0 : Nat} {r : Int32} {σr : St} (rec11 : Int32 → St → Option (Int32 × St)) (hrec11 : ∀ (x1 : Int32) (σ : St), rec11 x1 σ = some (r, σr) → Go mX12_act 1 0 0 n0 (Kv Γ ρ σr) 0 0 11 [some (.ref this), some (.int x1)] [] (hp Γ ρ σ)) (x1 : Int32) (σ : St) (hf : b_X12_act_11 N ρ this rec11 x1 σ = some (r, σr)) : Go mX12_act 1 0 0 n0 (Kv Γ ρ σr) 0 0 11 [some (.ref this), some (.int x1)] [] (hp Γ ρ σ) := by
  unfold b_X12_act_11 at hf
  refine go_iload_n 1 dX12_act_11 rfl rfl ?_
  refine go_sipush 858 dX12_act_12 (by decide) ?_
  refine go_icmp_ge 39 dX12_act_15 (by decide) (fun c10 => ?_) (fun c10 => ?_)
  · replace hf := (if_pos c10).symm.trans hf
    refine go_aload_n 0 dX12_act_39 rfl rfl ?_
    refine go_dup dX12_act_40 rfl ?_
    refine go_fI fl_X12_410 dX12_act_41 h0 (by decide) rfl ?_
    refine go_iconst 1 dX12_act_44 (by decide) ?_
    refine go_isub dX12_act_45 ?_
    obtain ⟨σ11, eσ11, hf⟩ := nmd_some hf
    refine go_pI fl_X12_410 ft_12_62 (okv_i _) dX12_act_46 h0 (by decide) rfl ?_
    rw [eσ11]
    refine go_msk [true, false] [some (.ref this), none] rfl ?_
    exact w_X12_act_49 hs h0 σ11 hf
  · replace hf := (if_neg c10).symm.trans hf
    refine go_aload_n 0 dX12_act_18 rfl rfl ?_
    refine go_fR fl_X12_118 dX12_act_19 h0 (by decide) rfl ?_
    refine go_iload_n 1 dX12_act_22 rfl rfl ?_
    refine go_aload_n 0 dX12_act_23 rfl rfl ?_
    refine go_fR fl_X12_118 dX12_act_24 h0 (by decide) rfl ?_
    refine go_bipush 22 dX12_act_27 (by decide) ?_
    refine go_iload_n 1 dX12_act_29 rfl rfl ?_
    refine go_iadd dX12_act_30 ?_
    obtain ⟨g12, hf⟩ := gd_some hf
    refine go_rI dX12_act_31 (hs.1 _ 12 61 h0 rfl) (ib_in g12) ?_
    obtain ⟨g13, hf⟩ := gd_some hf
    obtain ⟨σ14, eσ14, hf⟩ := nmd_some hf
    refine go_wI dX12_act_32 (hs.1 _ 12 61 h0 rfl) (ib_in g13) ?_
    rw [eσ14]
    refine go_iinc (x1 + 1) [some (.ref this), some (.int (x1 + 1))] dX12_act_33 rfl rfl (by decide) rfl ?_
    refine go_goto 11 dX12_act_36 (by decide) ?_
    exact hrec11 (x1 + 1) σ14 hf
theorem w_X12_act_11 {N : Nat} {Γ : SG} {ρ : Nat → Nat → Nat} (hs : Sh Γ ρ) {this : Nat} (h0 : Γ[this]? = some (0, 12)) {n0 : Nat} {r : Int32} {σr : St} : ∀ (n : Nat) (x1 : Int32) (σ : St), f_X12_act_11 N ρ this n x1 σ = some (r, σr) → Go mX12_act 1 0 0 n0 (Kv Γ ρ σr) 0 0 11 [some (.ref this), some (.int x1)] [] (hp Γ ρ σ) := by
  intro n
  induction n with
  | zero => intro x1 σ hf; cases hf
  | succ n ih => intro x1 σ hf; exact v_X12_act_11 hs h0 _ ih x1 σ hf
set_option maxRecDepth 100000 in
set_option maxHeartbeats 4000000 in
theorem t_X12_act {N : Nat} {Γ : SG} {ρ : Nat → Nat → Nat} (hs : Sh Γ ρ) {this : Nat} (h0 : Γ[this]? = some (0, 12)) {σ : St} {r : Int32} {σr : St} (hf : f_X12_act N ρ this σ = some (r, σr)) : Tri mX12_act 1 0 0 [.ref this] (hp Γ ρ σ) (Kv Γ ρ σr) := by
  unfold f_X12_act at hf
  refine tri_of [some (.ref this), none] (plainFor_of_name rfl) rfl (Nat.le_of_ble_eq_true rfl) ?_
  refine go_aload_n 0 dX12_act_0 rfl rfl ?_
  refine go_fI fl_X12_410 dX12_act_1 h0 (by decide) rfl ?_
  refine go_bipush 40 dX12_act_4 (by decide) ?_
  refine go_icmp_ne 49 dX12_act_6 (by decide) (fun c15 => ?_) (fun c15 => ?_)
  · replace hf := (if_neg c15).symm.trans hf
    exact w_X12_act_49 hs h0 σ hf
  · replace hf := (if_pos c15).symm.trans hf
    refine go_iconst 0 dX12_act_9 (by decide) ?_
    refine go_istore_n 1 [some (.ref this), some (.int 0)] dX12_act_10 rfl (by decide) rfl ?_
    exact w_X12_act_11 hs h0 N 0 σ hf
def b_X12_exchange_2 (N : Nat) (ρ : Nat → Nat → Nat) (this : Nat) (a1 : Int32) (rec2 : Int32 → St → Option (Int32 × St)) (x2 : Int32) (σ : St) : Option (Int32 × St) :=
  if 22 ≤ (x2 : Int32) then
    some (0, σ)
  else
    gd (ib (a1 + x2) 880) <|
    nmd (σ.1 (ρ this 61) (a1 + x2).toNatClampNeg) fun y3 =>
    gd (ib x2 22) <|
    gd (ib (a1 + x2) 880) <|
    nmd (sI σ (ρ this 61) (a1 + x2).toNatClampNeg (σ.1 (ρ this 56) x2.toNatClampNeg)) fun σ6 =>
    gd (ib x2 22) <|
    nmd (sI σ6 (ρ this 56) x2.toNatClampNeg y3) fun σ8 =>
    rec2 (x2 + 1) σ8
def f_X12_exchange_2 (N : Nat) (ρ : Nat → Nat → Nat) (this : Nat) (a1 : Int32) : Nat → Int32 → St → Option (Int32 × St)
  | 0, _, _ => none
  | n + 1, x2, σ => b_X12_exchange_2 N ρ this a1 (f_X12_exchange_2 N ρ this a1 n) x2 σ
def f_X12_exchange (N : Nat) (ρ : Nat → Nat → Nat) (this : Nat) (a1 : Int32) (σ : St) : Option (Int32 × St) :=
  f_X12_exchange_2 N ρ this a1 N 0 σ
set_option maxRecDepth 100000 in
set_option maxHeartbeats 4000000 in
theorem v_X12_exchange_2 {N : Nat} {Γ : SG} {ρ : Nat → Nat → Nat} (hs : Sh Γ ρ) {this : Nat} {a1 : Int32} (h0 : Γ[this]? = some (0, 12)) {n0 : Nat} {r : Int32} {σr : St} (rec2 : Int32 → St → Option (Int32 × St)) (hrec2 : ∀ (x2 : Int32) (σ : St), rec2 x2 σ = some (r, σr) → Go mX12_exchange 0 0 0 n0 (Kv Γ ρ σr) 0 0 2 [some (.ref this), some (.int a1), some (.int x2), none] [] (hp Γ ρ σ)) (x2 : Int32) (σ : St) (hf : b_X12_exchange_2 N ρ this a1 rec2 x2 σ = some (r, σr)) : Go mX12_exchange 0 0 0 n0 (Kv Γ ρ σr) 0 0 2 [some (.ref this), some (.int a1), some (.int x2), none] [] (hp Γ ρ σ) := by
  unfold b_X12_exchange_2 at hf
  refine go_iload_n 2 dX12_exchange_2 rfl rfl ?_
  refine go_bipush 22 dX12_exchange_3 (by decide) ?_
  refine go_icmp_ge 44 dX12_exchange_5 (by decide) (fun c1 => ?_) (fun c1 => ?_)
  · replace hf := (if_pos c1).symm.trans hf
    cases hf
    exact go_vret rfl dX12_exchange_44 (Nat.le_refl _) ⟨rfl, rfl⟩
  · replace hf := (if_neg c1).symm.trans hf
    refine go_aload_n 0 dX12_exchange_8 rfl rfl ?_
    refine go_fR fl_X12_118 dX12_exchange_9 h0 (by decide) rfl ?_
    refine go_iload_n 1 dX12_exchange_12 rfl rfl ?_
    refine go_iload_n 2 dX12_exchange_13 rfl rfl ?_
    refine go_iadd dX12_exchange_14 ?_
    obtain ⟨g2, hf⟩ := gd_some hf
    refine go_rI dX12_exchange_15 (hs.1 _ 12 61 h0 rfl) (ib_in g2) ?_
    obtain ⟨y3, ey3, hf⟩ := nmd_some hf
    refine go_nm ey3 ?_
    refine go_istore_n 3 [some (.ref this), some (.int a1), some (.int x2), some (.int y3)] dX12_exchange_16 rfl (by decide) rfl ?_
    refine go_aload_n 0 dX12_exchange_17 rfl rfl ?_
    refine go_fR fl_X12_118 dX12_exchange_18 h0 (by decide) rfl ?_
    refine go_iload_n 1 dX12_exchange_21 rfl rfl ?_
    refine go_iload_n 2 dX12_exchange_22 rfl rfl ?_
    refine go_iadd dX12_exchange_23 ?_
    refine go_aload_n 0 dX12_exchange_24 rfl rfl ?_
    refine go_fR fl_X12_103 dX12_exchange_25 h0 (by decide) rfl ?_
    refine go_iload_n 2 dX12_exchange_28 rfl rfl ?_
    obtain ⟨g4, hf⟩ := gd_some hf
    refine go_rI dX12_exchange_29 (hs.1 _ 12 56 h0 rfl) (ib_in g4) ?_
    obtain ⟨g5, hf⟩ := gd_some hf
    obtain ⟨σ6, eσ6, hf⟩ := nmd_some hf
    refine go_wI dX12_exchange_30 (hs.1 _ 12 61 h0 rfl) (ib_in g5) ?_
    rw [eσ6]
    refine go_aload_n 0 dX12_exchange_31 rfl rfl ?_
    refine go_fR fl_X12_103 dX12_exchange_32 h0 (by decide) rfl ?_
    refine go_iload_n 2 dX12_exchange_35 rfl rfl ?_
    refine go_iload_n 3 dX12_exchange_36 rfl rfl ?_
    obtain ⟨g7, hf⟩ := gd_some hf
    obtain ⟨σ8, eσ8, hf⟩ := nmd_some hf
    refine go_wI dX12_exchange_37 (hs.1 _ 12 56 h0 rfl) (ib_in g7) ?_
    rw [eσ8]
    refine go_iinc (x2 + 1) [some (.ref this), some (.int a1), some (.int (x2 + 1)), some (.int y3)] dX12_exchange_38 rfl rfl (by decide) rfl ?_
    refine go_goto 2 dX12_exchange_41 (by decide) ?_
    refine go_msk [true, true, true, false] [some (.ref this), some (.int a1), some (.int (x2 + 1)), none] rfl ?_
    exact hrec2 (x2 + 1) σ8 hf
theorem w_X12_exchange_2 {N : Nat} {Γ : SG} {ρ : Nat → Nat → Nat} (hs : Sh Γ ρ) {this : Nat} {a1 : Int32} (h0 : Γ[this]? = some (0, 12)) {n0 : Nat} {r : Int32} {σr : St} : ∀ (n : Nat) (x2 : Int32) (σ : St), f_X12_exchange_2 N ρ this a1 n x2 σ = some (r, σr) → Go mX12_exchange 0 0 0 n0 (Kv Γ ρ σr) 0 0 2 [some (.ref this), some (.int a1), some (.int x2), none] [] (hp Γ ρ σ) := by
  intro n
  induction n with
  | zero => intro x2 σ hf; cases hf
  | succ n ih => intro x2 σ hf; exact v_X12_exchange_2 hs h0 _ ih x2 σ hf
set_option maxRecDepth 100000 in
set_option maxHeartbeats 4000000 in
theorem t_X12_exchange {N : Nat} {Γ : SG} {ρ : Nat → Nat → Nat} (hs : Sh Γ ρ) {this : Nat} {a1 : Int32} (h0 : Γ[this]? = some (0, 12)) {σ : St} {r : Int32} {σr : St} (hf : f_X12_exchange N ρ this a1 σ = some (r, σr)) : Tri mX12_exchange 0 0 0 [.ref this, .int a1] (hp Γ ρ σ) (Kv Γ ρ σr) := by
  unfold f_X12_exchange at hf
  refine tri_of [some (.ref this), some (.int a1), none, none] (plainFor_of_name rfl) rfl (Nat.le_of_ble_eq_true rfl) ?_
  refine go_iconst 0 dX12_exchange_0 (by decide) ?_
  refine go_istore_n 2 [some (.ref this), some (.int a1), some (.int 0), none] dX12_exchange_1 rfl (by decide) rfl ?_
  exact w_X12_exchange_2 hs h0 N 0 σ hf
def f_X12_hasRoom_22 (N : Nat) (ρ : Nat → Nat → Nat) (this : Nat) (a1 : Int32) (s0 : Int32) (σ : St) : Option (Int32 × St) :=
  gd (bb s0) <|
  some (s0, σ)
def f_X12_hasRoom (N : Nat) (ρ : Nat → Nat → Nat) (this : Nat) (a1 : Int32) (σ : St) : Option (Int32 × St) :=
  bnd (f_X12_sentTo N ρ this a1 σ) fun r2 σ3 =>
  bnd (f_X12_members N ρ r2 σ3) fun r5 σ6 =>
  gd (ib a1 6) <|
  if (σ6.1 (ρ this 38) a1.toNatClampNeg) ≤ (r5 : Int32) then
    f_X12_hasRoom_22 N ρ this a1 0 σ6
  else
    f_X12_hasRoom_22 N ρ this a1 1 σ6
set_option maxRecDepth 100000 in
set_option maxHeartbeats 4000000 in
theorem w_X12_hasRoom_22 {N : Nat} {Γ : SG} {ρ : Nat → Nat → Nat} (hs : Sh Γ ρ) {this : Nat} {a1 : Int32} (h0 : Γ[this]? = some (0, 12)) {n0 : Nat} {r : Int32} {σr : St} (s0 : Int32) (σ : St) (hf : f_X12_hasRoom_22 N ρ this a1 s0 σ = some (r, σr)) : Go mX12_hasRoom 2 0 0 n0 (Ki Γ ρ r σr) 0 0 22 [none, none] [.int s0] (hp Γ ρ σ) := by
  unfold f_X12_hasRoom_22 at hf
  obtain ⟨g1, hf⟩ := gd_some hf
  cases hf
  exact go_zret rfl (bb_of g1) dX12_hasRoom_22 (Nat.le_refl _) ⟨rfl, rfl⟩
set_option maxRecDepth 100000 in
set_option maxHeartbeats 4000000 in
theorem t_X12_hasRoom {N : Nat} {Γ : SG} {ρ : Nat → Nat → Nat} (hs : Sh Γ ρ) {this : Nat} {a1 : Int32} (h0 : Γ[this]? = some (0, 12)) {σ : St} {r : Int32} {σr : St} (hf : f_X12_hasRoom N ρ this a1 σ = some (r, σr)) : Tri mX12_hasRoom 2 0 0 [.ref this, .int a1] (hp Γ ρ σ) (Ki Γ ρ r σr) := by
  unfold f_X12_hasRoom at hf
  refine tri_of [some (.ref this), some (.int a1)] (plainFor_of_name rfl) rfl (Nat.le_of_ble_eq_true rfl) ?_
  refine go_aload_n 0 dX12_hasRoom_0 rfl rfl ?_
  refine go_iload_n 1 dX12_hasRoom_1 rfl rfl ?_
  obtain ⟨r2, σ3, q4, hf⟩ := bnd_some hf
  refine go_Vi (av := [.int a1]) (rest := []) (t_X12_sentTo hs h0 q4) ok_X12_sentTo ml_X12_430 dX12_hasRoom_2 h0 rfl rfl (by decide) (Nat.le_refl _) (Nat.le_refl _) (Nat.le_of_ble_eq_true rfl) ?_
  obtain ⟨r5, σ6, q7, hf⟩ := bnd_some hf
  refine go_Si (av := [.int r2]) (rest := []) (t_X12_members hs  q7) ok_X12_members ml_X12_433 dX12_hasRoom_5 rfl rfl (by decide) (Nat.le_refl _) (Nat.le_refl _) (Nat.le_of_ble_eq_true rfl) ?_
  refine go_aload_n 0 dX12_hasRoom_8 rfl rfl ?_
  refine go_fR fl_X12_82 dX12_hasRoom_9 h0 (by decide) rfl ?_
  refine go_iload_n 1 dX12_hasRoom_12 rfl rfl ?_
  obtain ⟨g8, hf⟩ := gd_some hf
  refine go_rI dX12_hasRoom_13 (hs.1 _ 12 38 h0 rfl) (ib_in g8) ?_
  refine go_icmp_ge 21 dX12_hasRoom_14 (by decide) (fun c9 => ?_) (fun c9 => ?_)
  · replace hf := (if_pos c9).symm.trans hf
    refine go_iconst 0 dX12_hasRoom_21 (by decide) ?_
    refine go_msk [false, false] [none, none] rfl ?_
    exact w_X12_hasRoom_22 hs h0 0 σ6 hf
  · replace hf := (if_neg c9).symm.trans hf
    refine go_iconst 1 dX12_hasRoom_17 (by decide) ?_
    refine go_goto 22 dX12_hasRoom_18 (by decide) ?_
    refine go_msk [false, false] [none, none] rfl ?_
    exact w_X12_hasRoom_22 hs h0 1 σ6 hf
def f_X12_send_41 (N : Nat) (ρ : Nat → Nat → Nat) (this : Nat) (a1 : Int32) (a2 : Int32) (σ : St) : Option (Int32 × St) :=
  some ((-2), σ)
def f_X12_send (N : Nat) (ρ : Nat → Nat → Nat) (this : Nat) (a1 : Int32) (a2 : Int32) (σ : St) : Option (Int32 × St) :=
  bnd (f_X12_fill N ρ this σ) fun _ σ2 =>
  bnd (f_X12_isStool N ρ this a1 σ2) fun r4 σ5 =>
  if (r4 : Int32) = 0 then
    f_X12_send_41 N ρ this a1 a2 σ5
  else
    bnd (f_X12_isHearth N ρ this a2 σ5) fun r8 σ9 =>
    if (r8 : Int32) = 0 then
      f_X12_send_41 N ρ this a1 a2 σ9
    else
      gd (ib (15 + a1) 22) <|
      if (σ9.1 (ρ this 57) (15 + a1).toNatClampNeg : Int32) = a2 then
        f_X12_send_41 N ρ this a1 a2 σ9
      else
        bnd (f_X12_hasRoom N ρ this a2 σ9) fun r14 σ15 =>
        if (r14 : Int32) = 0 then
          f_X12_send_41 N ρ this a1 a2 σ15
        else
          bnd (f_X12_act N ρ this σ15) fun _ σ19 =>
          gd (ib (15 + a1) 22) <|
          nmd (σ19.1 (ρ this 56) (15 + a1).toNatClampNeg) fun y22 =>
          gd (ib (15 + a1) 22) <|
          nmd (sI σ19 (ρ this 56) (15 + a1).toNatClampNeg a2) fun σ24 =>
          some (y22, σ24)
set_option maxRecDepth 100000 in
set_option maxHeartbeats 4000000 in
theorem w_X12_send_41 {N : Nat} {Γ : SG} {ρ : Nat → Nat → Nat} (hs : Sh Γ ρ) {this : Nat} {a1 : Int32} {a2 : Int32} (h0 : Γ[this]? = some (0, 12)) {n0 : Nat} {r : Int32} {σr : St} (σ : St) (hf : f_X12_send_41 N ρ this a1 a2 σ = some (r, σr)) : Go mX12_send 3 0 0 n0 (Ki Γ ρ r σr) 0 0 41 [none, none, none, none] [] (hp Γ ρ σ) := by
  unfold f_X12_send_41 at hf
  refine go_bipush (-2) dX12_send_41 (by decide) ?_
  cases hf
  exact go_iret rfl dX12_send_43 (Nat.le_refl _) ⟨rfl, rfl⟩
set_option maxRecDepth 100000 in
set_option maxHeartbeats 4000000 in
theorem t_X12_send {N : Nat} {Γ : SG} {ρ : Nat → Nat → Nat} (hs : Sh Γ ρ) {this : Nat} {a1 : Int32} {a2 : Int32} (h0 : Γ[this]? = some (0, 12)) {σ : St} {r : Int32} {σr : St} (hf : f_X12_send N ρ this a1 a2 σ = some (r, σr)) : Tri mX12_send 3 0 0 [.ref this, .int a1, .int a2] (hp Γ ρ σ) (Ki Γ ρ r σr) := by
  unfold f_X12_send at hf
  refine tri_of [some (.ref this), some (.int a1), some (.int a2), none] (plainFor_of_name rfl) rfl (Nat.le_of_ble_eq_true rfl) ?_
  refine go_aload_n 0 dX12_send_0 rfl rfl ?_
  obtain ⟨r1, σ2, q3, hf⟩ := bnd_some hf
  refine go_Vv (av := []) (rest := []) (t_X12_fill hs h0 q3) ok_X12_fill ml_X12_451 dX12_send_1 h0 rfl rfl (by decide) (Nat.le_refl _) (Nat.le_refl _) (Nat.le_of_ble_eq_true rfl) ?_
  refine go_aload_n 0 dX12_send_4 rfl rfl ?_
  refine go_iload_n 1 dX12_send_5 rfl rfl ?_
  obtain ⟨r4, σ5, q6, hf⟩ := bnd_some hf
  refine go_Vi (av := [.int a1]) (rest := []) (t_X12_isStool hs h0 q6) ok_X12_isStool ml_X12_454 dX12_send_6 h0 rfl rfl (by decide) (Nat.le_refl _) (Nat.le_refl _) (Nat.le_of_ble_eq_true rfl) ?_
  refine go_if_eq 41 dX12_send_9 (by decide) (fun c7 => ?_) (fun c7 => ?_)
  · replace hf := (if_pos c7).symm.trans hf
    refine go_msk [false, false, false, false] [none, none, none, none] rfl ?_
    exact w_X12_send_41 hs h0 σ5 hf
  · replace hf := (if_neg c7).symm.trans hf
    refine go_aload_n 0 dX12_send_12 rfl rfl ?_
    refine go_iload_n 2 dX12_send_13 rfl rfl ?_
    obtain ⟨r8, σ9, q10, hf⟩ := bnd_some hf
    refine go_Vi (av := [.int a2]) (rest := []) (t_X12_isHearth hs h0 q10) ok_X12_isHearth ml_X12_448 dX12_send_14 h0 rfl rfl (by decide) (Nat.le_refl _) (Nat.le_refl _) (Nat.le_of_ble_eq_true rfl) ?_
    refine go_if_eq 41 dX12_send_17 (by decide) (fun c11 => ?_) (fun c11 => ?_)
    · replace hf := (if_pos c11).symm.trans hf
      refine go_msk [false, false, false, false] [none, none, none, none] rfl ?_
      exact w_X12_send_41 hs h0 σ9 hf
    · replace hf := (if_neg c11).symm.trans hf
      refine go_aload_n 0 dX12_send_20 rfl rfl ?_
      refine go_fR fl_X12_106 dX12_send_21 h0 (by decide) rfl ?_
      refine go_bipush 15 dX12_send_24 (by decide) ?_
      refine go_iload_n 1 dX12_send_26 rfl rfl ?_
      refine go_iadd dX12_send_27 ?_
      obtain ⟨g12, hf⟩ := gd_some hf
      refine go_rI dX12_send_28 (hs.1 _ 12 57 h0 rfl) (ib_in g12) ?_
      refine go_iload_n 2 dX12_send_29 rfl rfl ?_
      refine go_icmp_eq 41 dX12_send_30 (by decide) (fun c13 => ?_) (fun c13 => ?_)
      · replace hf := (if_pos c13).symm.trans hf
        refine go_msk [false, false, false, false] [none, none, none, none] rfl ?_
        exact w_X12_send_41 hs h0 σ9 hf
      · replace hf := (if_neg c13).symm.trans hf
        refine go_aload_n 0 dX12_send_33 rfl rfl ?_
        refine go_iload_n 2 dX12_send_34 rfl rfl ?_
        obtain ⟨r14, σ15, q16, hf⟩ := bnd_some hf
        refine go_Vi (av := [.int a2]) (rest := []) (t_X12_hasRoom hs h0 q16) ok_X12_hasRoom ml_X12_460 dX12_send_35 h0 rfl rfl (by decide) (Nat.le_refl _) (Nat.le_refl _) (Nat.le_of_ble_eq_true rfl) ?_
        refine go_if_ne 44 dX12_send_38 (by decide) (fun c17 => ?_) (fun c17 => ?_)
        · replace hf := (if_neg c17).symm.trans hf
          refine go_aload_n 0 dX12_send_44 rfl rfl ?_
          obtain ⟨r18, σ19, q20, hf⟩ := bnd_some hf
          refine go_Vv (av := []) (rest := []) (t_X12_act hs h0 q20) ok_X12_act ml_X12_463 dX12_send_45 h0 rfl rfl (by decide) (Nat.le_refl _) (Nat.le_refl _) (Nat.le_of_ble_eq_true rfl) ?_
          refine go_aload_n 0 dX12_send_48 rfl rfl ?_
          refine go_fR fl_X12_103 dX12_send_49 h0 (by decide) rfl ?_
          refine go_bipush 15 dX12_send_52 (by decide) ?_
          refine go_iload_n 1 dX12_send_54 rfl rfl ?_
          refine go_iadd dX12_send_55 ?_
          obtain ⟨g21, hf⟩ := gd_some hf
          refine go_rI dX12_send_56 (hs.1 _ 12 56 h0 rfl) (ib_in g21) ?_
          obtain ⟨y22, ey22, hf⟩ := nmd_some hf
          refine go_nm ey22 ?_
          refine go_istore_n 3 [some (.ref this), some (.int a1), some (.int a2), some (.int y22)] dX12_send_57 rfl (by decide) rfl ?_
          refine go_aload_n 0 dX12_send_58 rfl rfl ?_
          refine go_fR fl_X12_103 dX12_send_59 h0 (by decide) rfl ?_
          refine go_bipush 15 dX12_send_62 (by decide) ?_
          refine go_iload_n 1 dX12_send_64 rfl rfl ?_
          refine go_iadd dX12_send_65 ?_
          refine go_iload_n 2 dX12_send_66 rfl rfl ?_
          obtain ⟨g23, hf⟩ := gd_some hf
          obtain ⟨σ24, eσ24, hf⟩ := nmd_some hf
          refine go_wI dX12_send_67 (hs.1 _ 12 56 h0 rfl) (ib_in g23) ?_
          rw [eσ24]
          refine go_iload_n 3 dX12_send_68 rfl rfl ?_
          cases hf
          exact go_iret rfl dX12_send_69 (Nat.le_refl _) ⟨rfl, rfl⟩
        · replace hf := (if_pos c17).symm.trans hf
          refine go_msk [false, false, false, false] [none, none, none, none] rfl ?_
          exact w_X12_send_41 hs h0 σ15 hf
def f_X12_call_20 (N : Nat) (ρ : Nat → Nat → Nat) (this : Nat) (a1 : Int32) (σ : St) : Option (Int32 × St) :=
  some ((-1), σ)
def f_X12_call (N : Nat) (ρ : Nat → Nat → Nat) (this : Nat) (a1 : Int32) (σ : St) : Option (Int32 × St) :=
  bnd (f_X12_isStool N ρ this a1 σ) fun r1 σ2 =>
  if (r1 : Int32) = 0 then
    f_X12_call_20 N ρ this a1 σ2
  else
    gd (ib (15 + a1) 22) <|
    if 0 ≤ (σ2.1 (ρ this 56) (15 + a1).toNatClampNeg : Int32) then
      bnd (f_X12_act N ρ this σ2) fun _ σ8 =>
      gd (ib (15 + a1) 22) <|
      nmd (σ8.1 (ρ this 56) (15 + a1).toNatClampNeg) fun y11 =>
      gd (ib (15 + a1) 22) <|
      nmd (sI σ8 (ρ this 56) (15 + a1).toNatClampNeg (-1)) fun σ13 =>
      some (y11, σ13)
    else
      f_X12_call_20 N ρ this a1 σ2
set_option maxRecDepth 100000 in
set_option maxHeartbeats 4000000 in
theorem w_X12_call_20 {N : Nat} {Γ : SG} {ρ : Nat → Nat → Nat} (hs : Sh Γ ρ) {this : Nat} {a1 : Int32} (h0 : Γ[this]? = some (0, 12)) {n0 : Nat} {r : Int32} {σr : St} (σ : St) (hf : f_X12_call_20 N ρ this a1 σ = some (r, σr)) : Go mX12_call 2 0 0 n0 (Ki Γ ρ r σr) 0 0 20 [none, none, none] [] (hp Γ ρ σ) := by
  unfold f_X12_call_20 at hf
  refine go_iconst (-1) dX12_call_20 (by decide) ?_
  cases hf
  exact go_iret rfl dX12_call_21 (Nat.le_refl _) ⟨rfl, rfl⟩
set_option maxRecDepth 100000 in
set_option maxHeartbeats 4000000 in
theorem t_X12_call {N : Nat} {Γ : SG} {ρ : Nat → Nat → Nat} (hs : Sh Γ ρ) {this : Nat} {a1 : Int32} (h0 : Γ[this]? = some (0, 12)) {σ : St} {r : Int32} {σr : St} (hf : f_X12_call N ρ this a1 σ = some (r, σr)) : Tri mX12_call 2 0 0 [.ref this, .int a1] (hp Γ ρ σ) (Ki Γ ρ r σr) := by
  unfold f_X12_call at hf
  refine tri_of [some (.ref this), some (.int a1), none] (plainFor_of_name rfl) rfl (Nat.le_of_ble_eq_true rfl) ?_
  refine go_aload_n 0 dX12_call_0 rfl rfl ?_
  refine go_iload_n 1 dX12_call_1 rfl rfl ?_
  obtain ⟨r1, σ2, q3, hf⟩ := bnd_some hf
  refine go_Vi (av := [.int a1]) (rest := []) (t_X12_isStool hs h0 q3) ok_X12_isStool ml_X12_454 dX12_call_2 h0 rfl rfl (by decide) (Nat.le_refl _) (Nat.le_refl _) (Nat.le_of_ble_eq_true rfl) ?_
  refine go_if_eq 20 dX12_call_5 (by decide) (fun c4 => ?_) (fun c4 => ?_)
  · replace hf := (if_pos c4).symm.trans hf
    refine go_msk [false, false, false] [none, none, none] rfl ?_
    exact w_X12_call_20 hs h0 σ2 hf
  · replace hf := (if_neg c4).symm.trans hf
    refine go_aload_n 0 dX12_call_8 rfl rfl ?_
    refine go_fR fl_X12_103 dX12_call_9 h0 (by decide) rfl ?_
    refine go_bipush 15 dX12_call_12 (by decide) ?_
    refine go_iload_n 1 dX12_call_14 rfl rfl ?_
    refine go_iadd dX12_call_15 ?_
    obtain ⟨g5, hf⟩ := gd_some hf
    refine go_rI dX12_call_16 (hs.1 _ 12 56 h0 rfl) (ib_in g5) ?_
    refine go_if_ge 22 dX12_call_17 (by decide) (fun c6 => ?_) (fun c6 => ?_)
    · replace hf := (if_pos c6).symm.trans hf
      refine go_aload_n 0 dX12_call_22 rfl rfl ?_
      obtain ⟨r7, σ8, q9, hf⟩ := bnd_some hf
      refine go_Vv (av := []) (rest := []) (t_X12_act hs h0 q9) ok_X12_act ml_X12_463 dX12_call_23 h0 rfl rfl (by decide) (Nat.le_refl _) (Nat.le_refl _) (Nat.le_of_ble_eq_true rfl) ?_
      refine go_aload_n 0 dX12_call_26 rfl rfl ?_
      refine go_fR fl_X12_103 dX12_call_27 h0 (by decide) rfl ?_
      refine go_bipush 15 dX12_call_30 (by decide) ?_
      refine go_iload_n 1 dX12_call_32 rfl rfl ?_
      refine go_iadd dX12_call_33 ?_
      obtain ⟨g10, hf⟩ := gd_some hf
      refine go_rI dX12_call_34 (hs.1 _ 12 56 h0 rfl) (ib_in g10) ?_
      obtain ⟨y11, ey11, hf⟩ := nmd_some hf
      refine go_nm ey11 ?_
      refine go_istore_n 2 [some (.ref this), some (.int a1), some (.int y11)] dX12_call_35 rfl (by decide) rfl ?_
      refine go_aload_n 0 dX12_call_36 rfl rfl ?_
      refine go_fR fl_X12_103 dX12_call_37 h0 (by decide) rfl ?_
      refine go_bipush 15 dX12_call_40 (by decide) ?_
      refine go_iload_n 1 dX12_call_42 rfl rfl ?_
      refine go_iadd dX12_call_43 ?_
      refine go_iconst (-1) dX12_call_44 (by decide) ?_
      obtain ⟨g12, hf⟩ := gd_some hf
      obtain ⟨σ13, eσ13, hf⟩ := nmd_some hf
      refine go_wI dX12_call_45 (hs.1 _ 12 56 h0 rfl) (ib_in g12) ?_
      rw [eσ13]
      refine go_iload_n 2 dX12_call_46 rfl rfl ?_
      cases hf
      exact go_iret rfl dX12_call_47 (Nat.le_refl _) ⟨rfl, rfl⟩
    · replace hf := (if_neg c6).symm.trans hf
      refine go_msk [false, false, false] [none, none, none] rfl ?_
      exact w_X12_call_20 hs h0 σ2 hf
def f_X12_evening (N : Nat) (ρ : Nat → Nat → Nat) (this : Nat) (σ : St) : Option (Int32 × St) :=
  gd (ib 20 22) <|
  if (σ.1 (ρ this 56) (20 : Int32).toNatClampNeg : Int32) = 999 then
    some ((-1), σ)
  else
    bnd (f_X12_act N ρ this σ) fun _ σ4 =>
    bnd (f_X12_drawCold N ρ this σ4) fun r6 σ7 =>
    bnd (f_X12_goEvening N ρ this r6 σ7) fun _ σ10 =>
    bnd (f_X12_keepAir N ρ this σ10) fun _ σ13 =>
    some (r6, σ13)
set_option maxRecDepth 100000 in
set_option maxHeartbeats 4000000 in
theorem t_X12_evening {N : Nat} {Γ : SG} {ρ : Nat → Nat → Nat} (hs : Sh Γ ρ) {this : Nat} (h0 : Γ[this]? = some (0, 12)) {σ : St} {r : Int32} {σr : St} (hf : f_X12_evening N ρ this σ = some (r, σr)) : Tri mX12_evening 7 0 0 [.ref this] (hp Γ ρ σ) (Ki Γ ρ r σr) := by
  unfold f_X12_evening at hf
  refine tri_of [some (.ref this), none] (plainFor_of_name rfl) rfl (Nat.le_of_ble_eq_true rfl) ?_
  refine go_aload_n 0 dX12_evening_0 rfl rfl ?_
  refine go_fR fl_X12_103 dX12_evening_1 h0 (by decide) rfl ?_
  refine go_bipush 20 dX12_evening_4 (by decide) ?_
  obtain ⟨g1, hf⟩ := gd_some hf
  refine go_rI dX12_evening_6 (hs.1 _ 12 56 h0 rfl) (ib_in g1) ?_
  refine go_sipush 999 dX12_evening_7 (by decide) ?_
  refine go_icmp_ne 15 dX12_evening_10 (by decide) (fun c2 => ?_) (fun c2 => ?_)
  · replace hf := (if_neg c2).symm.trans hf
    refine go_aload_n 0 dX12_evening_15 rfl rfl ?_
    obtain ⟨r3, σ4, q5, hf⟩ := bnd_some hf
    refine go_Vv (av := []) (rest := []) (t_X12_act hs h0 q5) ok_X12_act ml_X12_463 dX12_evening_16 h0 rfl rfl (by decide) (Nat.le_refl _) (Nat.le_refl _) (Nat.le_of_ble_eq_true rfl) ?_
    refine go_aload_n 0 dX12_evening_19 rfl rfl ?_
    obtain ⟨r6, σ7, q8, hf⟩ := bnd_some hf
    refine go_Vi (av := []) (rest := []) (t_X12_drawCold hs h0 q8) ok_X12_drawCold ml_X12_466 dX12_evening_20 h0 rfl rfl (by decide) (Nat.le_refl _) (Nat.le_refl _) (Nat.le_of_ble_eq_true rfl) ?_
    refine go_istore_n 1 [some (.ref this), some (.int r6)] dX12_evening_23 rfl (by decide) rfl ?_
    refine go_aload_n 0 dX12_evening_24 rfl rfl ?_
    refine go_iload_n 1 dX12_evening_25 rfl rfl ?_
    obtain ⟨r9, σ10, q11, hf⟩ := bnd_some hf
    refine go_Vv (av := [.int r6]) (rest := []) (t_X12_goEvening hs h0 q11) ok_X12_goEvening ml_X12_469 dX12_evening_26 h0 rfl rfl (by decide) (Nat.le_refl _) (Nat.le_refl _) (Nat.le_of_ble_eq_true rfl) ?_
    refine go_aload_n 0 dX12_evening_29 rfl rfl ?_
    obtain ⟨r12, σ13, q14, hf⟩ := bnd_some hf
    refine go_Vv (av := []) (rest := []) (t_X12_keepAir hs h0 q14) ok_X12_keepAir ml_X12_407 dX12_evening_30 h0 rfl rfl (by decide) (Nat.le_refl _) (Nat.le_refl _) (Nat.le_of_ble_eq_true rfl) ?_
    refine go_iload_n 1 dX12_evening_33 rfl rfl ?_
    cases hf
    exact go_iret rfl dX12_evening_34 (Nat.le_refl _) ⟨rfl, rfl⟩
  · replace hf := (if_pos c2).symm.trans hf
    refine go_iconst (-1) dX12_evening_13 (by decide) ?_
    cases hf
    exact go_iret rfl dX12_evening_14 (Nat.le_refl _) ⟨rfl, rfl⟩
def f_X12_undo (N : Nat) (ρ : Nat → Nat → Nat) (this : Nat) (σ : St) : Option (Int32 × St) :=
  if (σ.1 this 62 : Int32) = 0 then
    some (0, σ)
  else
    nmd (sI σ this 62 ((σ.1 this 62) - 1)) fun σ2 =>
    nmd (sI σ2 this 63 ((σ2.1 this 63) + 1)) fun σ3 =>
    bnd (f_X12_exchange N ρ this (22 * (σ3.1 this 62)) σ3) fun _ σ5 =>
    some (1, σ5)
set_option maxRecDepth 100000 in
set_option maxHeartbeats 4000000 in
theorem t_X12_undo {N : Nat} {Γ : SG} {ρ : Nat → Nat → Nat} (hs : Sh Γ ρ) {this : Nat} (h0 : Γ[this]? = some (0, 12)) {σ : St} {r : Int32} {σr : St} (hf : f_X12_undo N ρ this σ = some (r, σr)) : Tri mX12_undo 1 0 0 [.ref this] (hp Γ ρ σ) (Ki Γ ρ r σr) := by
  unfold f_X12_undo at hf
  refine tri_of [some (.ref this)] (plainFor_of_name rfl) rfl (Nat.le_of_ble_eq_true rfl) ?_
  refine go_aload_n 0 dX12_undo_0 rfl rfl ?_
  refine go_fI fl_X12_410 dX12_undo_1 h0 (by decide) rfl ?_
  refine go_if_ne 9 dX12_undo_4 (by decide) (fun c1 => ?_) (fun c1 => ?_)
  · replace hf := (if_neg c1).symm.trans hf
    refine go_aload_n 0 dX12_undo_9 rfl rfl ?_
    refine go_dup dX12_undo_10 rfl ?_
    refine go_fI fl_X12_410 dX12_undo_11 h0 (by decide) rfl ?_
    refine go_iconst 1 dX12_undo_14 (by decide) ?_
    refine go_isub dX12_undo_15 ?_
    obtain ⟨σ2, eσ2, hf⟩ := nmd_some hf
    refine go_pI fl_X12_410 ft_12_62 (okv_i _) dX12_undo_16 h0 (by decide) rfl ?_
    rw [eσ2]
    refine go_aload_n 0 dX12_undo_19 rfl rfl ?_
    refine go_dup dX12_undo_20 rfl ?_
    refine go_fI fl_X12_413 dX12_undo_21 h0 (by decide) rfl ?_
    refine go_iconst 1 dX12_undo_24 (by decide) ?_
    refine go_iadd dX12_undo_25 ?_
    obtain ⟨σ3, eσ3, hf⟩ := nmd_some hf
    refine go_pI fl_X12_413 ft_12_63 (okv_i _) dX12_undo_26 h0 (by decide) rfl ?_
    rw [eσ3]
    refine go_aload_n 0 dX12_undo_29 rfl rfl ?_
    refine go_bipush 22 dX12_undo_30 (by decide) ?_
    refine go_aload_n 0 dX12_undo_32 rfl rfl ?_
    refine go_fI fl_X12_410 dX12_undo_33 h0 (by decide) rfl ?_
    refine go_imul dX12_undo_36 ?_
    obtain ⟨r4, σ5, q6, hf⟩ := bnd_some hf
    refine go_Vv (av := [.int (22 * (σ3.1 this 62))]) (rest := []) (t_X12_exchange hs h0 q6) ok_X12_exchange ml_X12_472 dX12_undo_37 h0 rfl rfl (by decide) (Nat.le_refl _) (Nat.le_refl _) (Nat.le_of_ble_eq_true rfl) ?_
    refine go_iconst 1 dX12_undo_40 (by decide) ?_
    cases hf
    exact go_zret rfl (by decide) dX12_undo_41 (Nat.le_refl _) ⟨rfl, rfl⟩
  · replace hf := (if_pos c1).symm.trans hf
    refine go_iconst 0 dX12_undo_7 (by decide) ?_
    cases hf
    exact go_zret rfl (by decide) dX12_undo_8 (Nat.le_refl _) ⟨rfl, rfl⟩
def f_X12_redo (N : Nat) (ρ : Nat → Nat → Nat) (this : Nat) (σ : St) : Option (Int32 × St) :=
  if (σ.1 this 63 : Int32) = 0 then
    some (0, σ)
  else
    bnd (f_X12_exchange N ρ this (22 * (σ.1 this 62)) σ) fun _ σ3 =>
    nmd (sI σ3 this 62 ((σ3.1 this 62) + 1)) fun σ5 =>
    nmd (sI σ5 this 63 ((σ5.1 this 63) - 1)) fun σ6 =>
    some (1, σ6)
set_option maxRecDepth 100000 in
set_option maxHeartbeats 4000000 in
theorem t_X12_redo {N : Nat} {Γ : SG} {ρ : Nat → Nat → Nat} (hs : Sh Γ ρ) {this : Nat} (h0 : Γ[this]? = some (0, 12)) {σ : St} {r : Int32} {σr : St} (hf : f_X12_redo N ρ this σ = some (r, σr)) : Tri mX12_redo 1 0 0 [.ref this] (hp Γ ρ σ) (Ki Γ ρ r σr) := by
  unfold f_X12_redo at hf
  refine tri_of [some (.ref this)] (plainFor_of_name rfl) rfl (Nat.le_of_ble_eq_true rfl) ?_
  refine go_aload_n 0 dX12_redo_0 rfl rfl ?_
  refine go_fI fl_X12_413 dX12_redo_1 h0 (by decide) rfl ?_
  refine go_if_ne 9 dX12_redo_4 (by decide) (fun c1 => ?_) (fun c1 => ?_)
  · replace hf := (if_neg c1).symm.trans hf
    refine go_aload_n 0 dX12_redo_9 rfl rfl ?_
    refine go_bipush 22 dX12_redo_10 (by decide) ?_
    refine go_aload_n 0 dX12_redo_12 rfl rfl ?_
    refine go_fI fl_X12_410 dX12_redo_13 h0 (by decide) rfl ?_
    refine go_imul dX12_redo_16 ?_
    obtain ⟨r2, σ3, q4, hf⟩ := bnd_some hf
    refine go_Vv (av := [.int (22 * (σ.1 this 62))]) (rest := []) (t_X12_exchange hs h0 q4) ok_X12_exchange ml_X12_472 dX12_redo_17 h0 rfl rfl (by decide) (Nat.le_refl _) (Nat.le_refl _) (Nat.le_of_ble_eq_true rfl) ?_
    refine go_aload_n 0 dX12_redo_20 rfl rfl ?_
    refine go_dup dX12_redo_21 rfl ?_
    refine go_fI fl_X12_410 dX12_redo_22 h0 (by decide) rfl ?_
    refine go_iconst 1 dX12_redo_25 (by decide) ?_
    refine go_iadd dX12_redo_26 ?_
    obtain ⟨σ5, eσ5, hf⟩ := nmd_some hf
    refine go_pI fl_X12_410 ft_12_62 (okv_i _) dX12_redo_27 h0 (by decide) rfl ?_
    rw [eσ5]
    refine go_aload_n 0 dX12_redo_30 rfl rfl ?_
    refine go_dup dX12_redo_31 rfl ?_
    refine go_fI fl_X12_413 dX12_redo_32 h0 (by decide) rfl ?_
    refine go_iconst 1 dX12_redo_35 (by decide) ?_
    refine go_isub dX12_redo_36 ?_
    obtain ⟨σ6, eσ6, hf⟩ := nmd_some hf
    refine go_pI fl_X12_413 ft_12_63 (okv_i _) dX12_redo_37 h0 (by decide) rfl ?_
    rw [eσ6]
    refine go_iconst 1 dX12_redo_40 (by decide) ?_
    cases hf
    exact go_zret rfl (by decide) dX12_redo_41 (Nat.le_refl _) ⟨rfl, rfl⟩
  · replace hf := (if_pos c1).symm.trans hf
    refine go_iconst 0 dX12_redo_7 (by decide) ?_
    cases hf
    exact go_zret rfl (by decide) dX12_redo_8 (Nat.le_refl _) ⟨rfl, rfl⟩
def f_X12_tonight (N : Nat) (ρ : Nat → Nat → Nat) (this : Nat) (a1 : Int32) (σ : St) : Option (Int32 × St) :=
  bnd (f_X12_isIn N ρ a1 0 2 σ) fun r1 σ2 =>
  if (r1 : Int32) = 0 then
    some ((-1), σ2)
  else
    bnd (f_X12_fill N ρ this σ2) fun _ σ6 =>
    bnd (f_X12_whoFares N ρ this (a1 + 1) σ6) fun r8 σ9 =>
    some (r8, σ9)
set_option maxRecDepth 100000 in
set_option maxHeartbeats 4000000 in
theorem t_X12_tonight {N : Nat} {Γ : SG} {ρ : Nat → Nat → Nat} (hs : Sh Γ ρ) {this : Nat} {a1 : Int32} (h0 : Γ[this]? = some (0, 12)) {σ : St} {r : Int32} {σr : St} (hf : f_X12_tonight N ρ this a1 σ = some (r, σr)) : Tri mX12_tonight 7 0 0 [.ref this, .int a1] (hp Γ ρ σ) (Ki Γ ρ r σr) := by
  unfold f_X12_tonight at hf
  refine tri_of [some (.ref this), some (.int a1)] (plainFor_of_name rfl) rfl (Nat.le_of_ble_eq_true rfl) ?_
  refine go_iload_n 1 dX12_tonight_0 rfl rfl ?_
  refine go_iconst 0 dX12_tonight_1 (by decide) ?_
  refine go_iconst 2 dX12_tonight_2 (by decide) ?_
  obtain ⟨r1, σ2, q3, hf⟩ := bnd_some hf
  refine go_Si (av := [.int a1, .int 0, .int 2]) (rest := []) (t_X12_isIn hs  q3) ok_X12_isIn ml_X12_422 dX12_tonight_3 rfl rfl (by decide) (Nat.le_refl _) (Nat.le_refl _) (Nat.le_of_ble_eq_true rfl) ?_
  refine go_if_ne 11 dX12_tonight_6 (by decide) (fun c4 => ?_) (fun c4 => ?_)
  · replace hf := (if_neg c4).symm.trans hf
    refine go_aload_n 0 dX12_tonight_11 rfl rfl ?_
    obtain ⟨r5, σ6, q7, hf⟩ := bnd_some hf
    refine go_Vv (av := []) (rest := []) (t_X12_fill hs h0 q7) ok_X12_fill ml_X12_451 dX12_tonight_12 h0 rfl rfl (by decide) (Nat.le_refl _) (Nat.le_refl _) (Nat.le_of_ble_eq_true rfl) ?_
    refine go_aload_n 0 dX12_tonight_15 rfl rfl ?_
    refine go_iload_n 1 dX12_tonight_16 rfl rfl ?_
    refine go_iconst 1 dX12_tonight_17 (by decide) ?_
    refine go_iadd dX12_tonight_18 ?_
    obtain ⟨r8, σ9, q10, hf⟩ := bnd_some hf
    refine go_Vi (av := [.int (a1 + 1)]) (rest := []) (t_X12_whoFares hs h0 q10) ok_X12_whoFares ml_X12_475 dX12_tonight_19 h0 rfl rfl (by decide) (Nat.le_refl _) (Nat.le_refl _) (Nat.le_of_ble_eq_true rfl) ?_
    cases hf
    exact go_iret rfl dX12_tonight_22 (Nat.le_refl _) ⟨rfl, rfl⟩
  · replace hf := (if_pos c4).symm.trans hf
    refine go_iconst (-1) dX12_tonight_9 (by decide) ?_
    cases hf
    exact go_iret rfl dX12_tonight_10 (Nat.le_refl _) ⟨rfl, rfl⟩
def f_X12_wayOf_24 (N : Nat) (ρ : Nat → Nat → Nat) (this : Nat) (a1 : Int32) (a2 : Int32) (s0 : Int32) (σ : St) : Option (Int32 × St) :=
  some (s0, σ)
def f_X12_wayOf (N : Nat) (ρ : Nat → Nat → Nat) (this : Nat) (a1 : Int32) (a2 : Int32) (σ : St) : Option (Int32 × St) :=
  if 0 ≤ (a2 : Int32) then
    gd (ib a1 5) <|
    gd (ib a2 6) <|
    bnd (f_X12_plain N ρ ((σ.1 (ρ this 40) a1.toNatClampNeg) - (σ.1 (ρ this 36) a2.toNatClampNeg)) σ) fun r4 σ5 =>
    f_X12_wayOf_24 N ρ this a1 a2 r4 σ5
  else
    f_X12_wayOf_24 N ρ this a1 a2 0 σ
set_option maxRecDepth 100000 in
set_option maxHeartbeats 4000000 in
theorem w_X12_wayOf_24 {N : Nat} {Γ : SG} {ρ : Nat → Nat → Nat} (hs : Sh Γ ρ) {this : Nat} {a1 : Int32} {a2 : Int32} (h0 : Γ[this]? = some (0, 12)) {n0 : Nat} {r : Int32} {σr : St} (s0 : Int32) (σ : St) (hf : f_X12_wayOf_24 N ρ this a1 a2 s0 σ = some (r, σr)) : Go mX12_wayOf 1 0 0 n0 (Ki Γ ρ r σr) 0 0 24 [none, none, none] [.int s0] (hp Γ ρ σ) := by
  unfold f_X12_wayOf_24 at hf
  cases hf
  exact go_iret rfl dX12_wayOf_24 (Nat.le_refl _) ⟨rfl, rfl⟩
set_option maxRecDepth 100000 in
set_option maxHeartbeats 4000000 in
theorem t_X12_wayOf {N : Nat} {Γ : SG} {ρ : Nat → Nat → Nat} (hs : Sh Γ ρ) {this : Nat} {a1 : Int32} {a2 : Int32} (h0 : Γ[this]? = some (0, 12)) {σ : St} {r : Int32} {σr : St} (hf : f_X12_wayOf N ρ this a1 a2 σ = some (r, σr)) : Tri mX12_wayOf 1 0 0 [.ref this, .int a1, .int a2] (hp Γ ρ σ) (Ki Γ ρ r σr) := by
  unfold f_X12_wayOf at hf
  refine tri_of [some (.ref this), some (.int a1), some (.int a2)] (plainFor_of_name rfl) rfl (Nat.le_of_ble_eq_true rfl) ?_
  refine go_iload_n 2 dX12_wayOf_0 rfl rfl ?_
  refine go_if_ge 8 dX12_wayOf_1 (by decide) (fun c1 => ?_) (fun c1 => ?_)
  · replace hf := (if_pos c1).symm.trans hf
    refine go_aload_n 0 dX12_wayOf_8 rfl rfl ?_
    refine go_fR fl_X12_88 dX12_wayOf_9 h0 (by decide) rfl ?_
    refine go_iload_n 1 dX12_wayOf_12 rfl rfl ?_
    obtain ⟨g2, hf⟩ := gd_some hf
    refine go_rI dX12_wayOf_13 (hs.1 _ 12 40 h0 rfl) (ib_in g2) ?_
    refine go_aload_n 0 dX12_wayOf_14 rfl rfl ?_
    refine go_fR fl_X12_76 dX12_wayOf_15 h0 (by decide) rfl ?_
    refine go_iload_n 2 dX12_wayOf_18 rfl rfl ?_
    obtain ⟨g3, hf⟩ := gd_some hf
    refine go_rI dX12_wayOf_19 (hs.1 _ 12 36 h0 rfl) (ib_in g3) ?_
    refine go_isub dX12_wayOf_20 ?_
    obtain ⟨r4, σ5, q6, hf⟩ := bnd_some hf
    refine go_Si (av := [.int ((σ.1 (ρ this 40) a1.toNatClampNeg) - (σ.1 (ρ this 36) a2.toNatClampNeg))]) (rest := []) (t_X12_plain hs  q6) ok_X12_plain ml_X12_478 dX12_wayOf_21 rfl rfl (by decide) (Nat.le_refl _) (Nat.le_refl _) (Nat.le_of_ble_eq_true rfl) ?_
    refine go_msk [false, false, false] [none, none, none] rfl ?_
    exact w_X12_wayOf_24 hs h0 r4 σ5 hf
  · replace hf := (if_neg c1).symm.trans hf
    refine go_iconst 0 dX12_wayOf_4 (by decide) ?_
    refine go_goto 24 dX12_wayOf_5 (by decide) ?_
    refine go_msk [false, false, false] [none, none, none] rfl ?_
    exact w_X12_wayOf_24 hs h0 0 σ hf
def b_X12_walkOf_4 (N : Nat) (ρ : Nat → Nat → Nat) (this : Nat) (rec4 : Int32 → Int32 → St → Option (Int32 × St)) (x1 : Int32) (x2 : Int32) (σ : St) : Option (Int32 × St) :=
  if (σ.1 this 50) ≤ (x2 : Int32) then
    some (x1, σ)
  else
    gd (ib (15 + x2) 22) <|
    bnd (f_X12_wayOf N ρ this x2 (σ.1 (ρ this 57) (15 + x2).toNatClampNeg) σ) fun r3 σ4 =>
    nmd (x1 + r3) fun y6 =>
    rec4 y6 (x2 + 1) σ4
def f_X12_walkOf_4 (N : Nat) (ρ : Nat → Nat → Nat) (this : Nat) : Nat → Int32 → Int32 → St → Option (Int32 × St)
  | 0, _, _, _ => none
  | n + 1, x1, x2, σ => b_X12_walkOf_4 N ρ this (f_X12_walkOf_4 N ρ this n) x1 x2 σ
def f_X12_walkOf (N : Nat) (ρ : Nat → Nat → Nat) (this : Nat) (σ : St) : Option (Int32 × St) :=
  f_X12_walkOf_4 N ρ this N 0 0 σ
set_option maxRecDepth 100000 in
set_option maxHeartbeats 4000000 in
theorem v_X12_walkOf_4 {N : Nat} {Γ : SG} {ρ : Nat → Nat → Nat} (hs : Sh Γ ρ) {this : Nat} (h0 : Γ[this]? = some (0, 12)) {n0 : Nat} {r : Int32} {σr : St} (rec4 : Int32 → Int32 → St → Option (Int32 × St)) (hrec4 : ∀ (x1 : Int32) (x2 : Int32) (σ : St), rec4 x1 x2 σ = some (r, σr) → Go mX12_walkOf 2 0 0 n0 (Ki Γ ρ r σr) 0 0 4 [some (.ref this), some (.int x1), some (.int x2)] [] (hp Γ ρ σ)) (x1 : Int32) (x2 : Int32) (σ : St) (hf : b_X12_walkOf_4 N ρ this rec4 x1 x2 σ = some (r, σr)) : Go mX12_walkOf 2 0 0 n0 (Ki Γ ρ r σr) 0 0 4 [some (.ref this), some (.int x1), some (.int x2)] [] (hp Γ ρ σ) := by
  unfold b_X12_walkOf_4 at hf
  refine go_iload_n 2 dX12_walkOf_4 rfl rfl ?_
  refine go_aload_n 0 dX12_walkOf_5 rfl rfl ?_
  refine go_fI fl_X12_395 dX12_walkOf_6 h0 (by decide) rfl ?_
  refine go_icmp_ge 35 dX12_walkOf_9 (by decide) (fun c1 => ?_) (fun c1 => ?_)
  · replace hf := (if_pos c1).symm.trans hf
    refine go_iload_n 1 dX12_walkOf_35 rfl rfl ?_
    cases hf
    exact go_iret rfl dX12_walkOf_36 (Nat.le_refl _) ⟨rfl, rfl⟩
  · replace hf := (if_neg c1).symm.trans hf
    refine go_iload_n 1 dX12_walkOf_12 rfl rfl ?_
    refine go_aload_n 0 dX12_walkOf_13 rfl rfl ?_
    refine go_iload_n 2 dX12_walkOf_14 rfl rfl ?_
    refine go_aload_n 0 dX12_walkOf_15 rfl rfl ?_
    refine go_fR fl_X12_106 dX12_walkOf_16 h0 (by decide) rfl ?_
    refine go_bipush 15 dX12_walkOf_19 (by decide) ?_
    refine go_iload_n 2 dX12_walkOf_21 rfl rfl ?_
    refine go_iadd dX12_walkOf_22 ?_
    obtain ⟨g2, hf⟩ := gd_some hf
    refine go_rI dX12_walkOf_23 (hs.1 _ 12 57 h0 rfl) (ib_in g2) ?_
    obtain ⟨r3, σ4, q5, hf⟩ := bnd_some hf
    refine go_Vi (av := [.int x2, .int (σ.1 (ρ this 57) (15 + x2).toNatClampNeg)]) (rest := [.int x1]) (t_X12_wayOf hs h0 q5) ok_X12_wayOf ml_X12_481 dX12_walkOf_24 h0 rfl rfl (by decide) (Nat.le_refl _) (Nat.le_refl _) (Nat.le_of_ble_eq_true rfl) ?_
    refine go_iadd dX12_walkOf_27 ?_
    obtain ⟨y6, ey6, hf⟩ := nmd_some hf
    refine go_nm ey6 ?_
    refine go_istore_n 1 [some (.ref this), some (.int y6), some (.int x2)] dX12_walkOf_28 rfl (by decide) rfl ?_
    refine go_iinc (x2 + 1) [some (.ref this), some (.int y6), some (.int (x2 + 1))] dX12_walkOf_29 rfl rfl (by decide) rfl ?_
    refine go_goto 4 dX12_walkOf_32 (by decide) ?_
    exact hrec4 y6 (x2 + 1) σ4 hf
theorem w_X12_walkOf_4 {N : Nat} {Γ : SG} {ρ : Nat → Nat → Nat} (hs : Sh Γ ρ) {this : Nat} (h0 : Γ[this]? = some (0, 12)) {n0 : Nat} {r : Int32} {σr : St} : ∀ (n : Nat) (x1 : Int32) (x2 : Int32) (σ : St), f_X12_walkOf_4 N ρ this n x1 x2 σ = some (r, σr) → Go mX12_walkOf 2 0 0 n0 (Ki Γ ρ r σr) 0 0 4 [some (.ref this), some (.int x1), some (.int x2)] [] (hp Γ ρ σ) := by
  intro n
  induction n with
  | zero => intro x1 x2 σ hf; cases hf
  | succ n ih => intro x1 x2 σ hf; exact v_X12_walkOf_4 hs h0 _ ih x1 x2 σ hf
set_option maxRecDepth 100000 in
set_option maxHeartbeats 4000000 in
theorem t_X12_walkOf {N : Nat} {Γ : SG} {ρ : Nat → Nat → Nat} (hs : Sh Γ ρ) {this : Nat} (h0 : Γ[this]? = some (0, 12)) {σ : St} {r : Int32} {σr : St} (hf : f_X12_walkOf N ρ this σ = some (r, σr)) : Tri mX12_walkOf 2 0 0 [.ref this] (hp Γ ρ σ) (Ki Γ ρ r σr) := by
  unfold f_X12_walkOf at hf
  refine tri_of [some (.ref this), none, none] (plainFor_of_name rfl) rfl (Nat.le_of_ble_eq_true rfl) ?_
  refine go_iconst 0 dX12_walkOf_0 (by decide) ?_
  refine go_istore_n 1 [some (.ref this), some (.int 0), none] dX12_walkOf_1 rfl (by decide) rfl ?_
  refine go_iconst 0 dX12_walkOf_2 (by decide) ?_
  refine go_istore_n 2 [some (.ref this), some (.int 0), some (.int 0)] dX12_walkOf_3 rfl (by decide) rfl ?_
  exact w_X12_walkOf_4 hs h0 N 0 0 σ hf
def f_X12_walk (N : Nat) (ρ : Nat → Nat → Nat) (this : Nat) (σ : St) : Option (Int32 × St) :=
  bnd (f_X12_fill N ρ this σ) fun _ σ2 =>
  bnd (f_X12_walkOf N ρ this σ2) fun r4 σ5 =>
  some (r4, σ5)
set_option maxRecDepth 100000 in
set_option maxHeartbeats 4000000 in
theorem t_X12_walk {N : Nat} {Γ : SG} {ρ : Nat → Nat → Nat} (hs : Sh Γ ρ) {this : Nat} (h0 : Γ[this]? = some (0, 12)) {σ : St} {r : Int32} {σr : St} (hf : f_X12_walk N ρ this σ = some (r, σr)) : Tri mX12_walk 3 0 0 [.ref this] (hp Γ ρ σ) (Ki Γ ρ r σr) := by
  unfold f_X12_walk at hf
  refine tri_of [some (.ref this)] (plainFor_of_name rfl) rfl (Nat.le_of_ble_eq_true rfl) ?_
  refine go_aload_n 0 dX12_walk_0 rfl rfl ?_
  obtain ⟨r1, σ2, q3, hf⟩ := bnd_some hf
  refine go_Vv (av := []) (rest := []) (t_X12_fill hs h0 q3) ok_X12_fill ml_X12_451 dX12_walk_1 h0 rfl rfl (by decide) (Nat.le_refl _) (Nat.le_refl _) (Nat.le_of_ble_eq_true rfl) ?_
  refine go_aload_n 0 dX12_walk_4 rfl rfl ?_
  obtain ⟨r4, σ5, q6, hf⟩ := bnd_some hf
  refine go_Vi (av := []) (rest := []) (t_X12_walkOf hs h0 q6) ok_X12_walkOf ml_X12_484 dX12_walk_5 h0 rfl rfl (by decide) (Nat.le_refl _) (Nat.le_refl _) (Nat.le_of_ble_eq_true rfl) ?_
  cases hf
  exact go_iret rfl dX12_walk_8 (Nat.le_refl _) ⟨rfl, rfl⟩
def b_X12_power_4 (N : Nat) (ρ : Nat → Nat → Nat) (a1 : Int32) (a2 : Int32) (rec4 : Int32 → Int32 → St → Option (Int32 × St)) (x2 : Int32) (x3 : Int32) (σ : St) : Option (Int32 × St) :=
  if a2 ≤ (x3 : Int32) then
    some (x2, σ)
  else
    nmd (x2 * a1) fun y2 =>
    rec4 y2 (x3 + 1) σ
def f_X12_power_4 (N : Nat) (ρ : Nat → Nat → Nat) (a1 : Int32) (a2 : Int32) : Nat → Int32 → Int32 → St → Option (Int32 × St)
  | 0, _, _, _ => none
  | n + 1, x2, x3, σ => b_X12_power_4 N ρ a1 a2 (f_X12_power_4 N ρ a1 a2 n) x2 x3 σ
def f_X12_power (N : Nat) (ρ : Nat → Nat → Nat) (a1 : Int32) (a2 : Int32) (σ : St) : Option (Int32 × St) :=
  f_X12_power_4 N ρ a1 a2 N 1 0 σ
set_option maxRecDepth 100000 in
set_option maxHeartbeats 4000000 in
theorem v_X12_power_4 {N : Nat} {Γ : SG} {ρ : Nat → Nat → Nat} (hs : Sh Γ ρ) {a1 : Int32} {a2 : Int32} {n0 : Nat} {r : Int32} {σr : St} (rec4 : Int32 → Int32 → St → Option (Int32 × St)) (hrec4 : ∀ (x2 : Int32) (x3 : Int32) (σ : St), rec4 x2 x3 σ = some (r, σr) → Go mX12_power 0 0 0 n0 (Ki Γ ρ r σr) 0 0 4 [some (.int a1), some (.int a2), some (.int x2), some (.int x3)] [] (hp Γ ρ σ)) (x2 : Int32) (x3 : Int32) (σ : St) (hf : b_X12_power_4 N ρ a1 a2 rec4 x2 x3 σ = some (r, σr)) : Go mX12_power 0 0 0 n0 (Ki Γ ρ r σr) 0 0 4 [some (.int a1), some (.int a2), some (.int x2), some (.int x3)] [] (hp Γ ρ σ) := by
  unfold b_X12_power_4 at hf
  refine go_iload_n 3 dX12_power_4 rfl rfl ?_
  refine go_iload_n 1 dX12_power_5 rfl rfl ?_
  refine go_icmp_ge 19 dX12_power_6 (by decide) (fun c1 => ?_) (fun c1 => ?_)
  · replace hf := (if_pos c1).symm.trans hf
    refine go_iload_n 2 dX12_power_19 rfl rfl ?_
    cases hf
    exact go_iret rfl dX12_power_20 (Nat.le_refl _) ⟨rfl, rfl⟩
  · replace hf := (if_neg c1).symm.trans hf
    refine go_iload_n 2 dX12_power_9 rfl rfl ?_
    refine go_iload_n 0 dX12_power_10 rfl rfl ?_
    refine go_imul dX12_power_11 ?_
    obtain ⟨y2, ey2, hf⟩ := nmd_some hf
    refine go_nm ey2 ?_
    refine go_istore_n 2 [some (.int a1), some (.int a2), some (.int y2), some (.int x3)] dX12_power_12 rfl (by decide) rfl ?_
    refine go_iinc (x3 + 1) [some (.int a1), some (.int a2), some (.int y2), some (.int (x3 + 1))] dX12_power_13 rfl rfl (by decide) rfl ?_
    refine go_goto 4 dX12_power_16 (by decide) ?_
    exact hrec4 y2 (x3 + 1) σ hf
theorem w_X12_power_4 {N : Nat} {Γ : SG} {ρ : Nat → Nat → Nat} (hs : Sh Γ ρ) {a1 : Int32} {a2 : Int32} {n0 : Nat} {r : Int32} {σr : St} : ∀ (n : Nat) (x2 : Int32) (x3 : Int32) (σ : St), f_X12_power_4 N ρ a1 a2 n x2 x3 σ = some (r, σr) → Go mX12_power 0 0 0 n0 (Ki Γ ρ r σr) 0 0 4 [some (.int a1), some (.int a2), some (.int x2), some (.int x3)] [] (hp Γ ρ σ) := by
  intro n
  induction n with
  | zero => intro x2 x3 σ hf; cases hf
  | succ n ih => intro x2 x3 σ hf; exact v_X12_power_4 hs _ ih x2 x3 σ hf
set_option maxRecDepth 100000 in
set_option maxHeartbeats 4000000 in
theorem t_X12_power {N : Nat} {Γ : SG} {ρ : Nat → Nat → Nat} (hs : Sh Γ ρ) {a1 : Int32} {a2 : Int32} {σ : St} {r : Int32} {σr : St} (hf : f_X12_power N ρ a1 a2 σ = some (r, σr)) : Tri mX12_power 0 0 0 [.int a1, .int a2] (hp Γ ρ σ) (Ki Γ ρ r σr) := by
  unfold f_X12_power at hf
  refine tri_of [some (.int a1), some (.int a2), none, none] (plainFor_of_name rfl) rfl (Nat.le_of_ble_eq_true rfl) ?_
  refine go_iconst 1 dX12_power_0 (by decide) ?_
  refine go_istore_n 2 [some (.int a1), some (.int a2), some (.int 1), none] dX12_power_1 rfl (by decide) rfl ?_
  refine go_iconst 0 dX12_power_2 (by decide) ?_
  refine go_istore_n 3 [some (.int a1), some (.int a2), some (.int 1), some (.int 0)] dX12_power_3 rfl (by decide) rfl ?_
  exact w_X12_power_4 hs N 1 0 σ hf
def f_X12_laySending_46 (N : Nat) (ρ : Nat → Nat → Nat) (this : Nat) (a1 : Int32) (rec9 : Int32 → Int32 → St → Option (Int32 × St)) (x2 : Int32) (x3 : Int32) (s0 : Int32) (s1 : Int32) (σ : St) : Option (Int32 × St) :=
  gd (ib s1 22) <|
  nmd (sI σ (ρ this 57) s1.toNatClampNeg s0) fun σ2 =>
  gd (nz ((σ2.1 this 49) + 1)) <|
  nmd (x2 / ((σ2.1 this 49) + 1)) fun y4 =>
  rec9 y4 (x3 + (-1)) σ2
def f_X12_laySending_104 (N : Nat) (ρ : Nat → Nat → Nat) (this : Nat) (a1 : Int32) (rec67 : Int32 → Int32 → St → Option (Int32 × St)) (x4 : Int32) (s0 : Int32) (σ : St) : Option (Int32 × St) :=
  rec67 s0 (x4 + 1) σ
def f_X12_laySending_103 (N : Nat) (ρ : Nat → Nat → Nat) (this : Nat) (a1 : Int32) (rec67 : Int32 → Int32 → St → Option (Int32 × St)) (x4 : Int32) (σ : St) : Option (Int32 × St) :=
  f_X12_laySending_104 N ρ this a1 rec67 x4 0 σ
def b_X12_laySending_67 (N : Nat) (ρ : Nat → Nat → Nat) (this : Nat) (a1 : Int32) (rec67 : Int32 → Int32 → St → Option (Int32 × St)) (x3 : Int32) (x4 : Int32) (σ : St) : Option (Int32 × St) :=
  if (σ.1 this 49) ≤ (x4 : Int32) then
    gd (bb x3) <|
    some (x3, σ)
  else
    if (x3 : Int32) = 0 then
      f_X12_laySending_103 N ρ this a1 rec67 x4 σ
    else
      bnd (f_X12_sentTo N ρ this x4 σ) fun r8 σ9 =>
      bnd (f_X12_members N ρ r8 σ9) fun r11 σ12 =>
      gd (ib x4 6) <|
      if (σ12.1 (ρ this 38) x4.toNatClampNeg) < (r11 : Int32) then
        f_X12_laySending_103 N ρ this a1 rec67 x4 σ12
      else
        f_X12_laySending_104 N ρ this a1 rec67 x4 1 σ12
def f_X12_laySending_67 (N : Nat) (ρ : Nat → Nat → Nat) (this : Nat) (a1 : Int32) : Nat → Int32 → Int32 → St → Option (Int32 × St)
  | 0, _, _, _ => none
  | n + 1, x3, x4, σ => b_X12_laySending_67 N ρ this a1 (f_X12_laySending_67 N ρ this a1 n) x3 x4 σ
def b_X12_laySending_9 (N : Nat) (ρ : Nat → Nat → Nat) (this : Nat) (a1 : Int32) (rec9 : Int32 → Int32 → St → Option (Int32 × St)) (x2 : Int32) (x3 : Int32) (σ : St) : Option (Int32 × St) :=
  if (x3 : Int32) < 0 then
    f_X12_laySending_67 N ρ this a1 N 1 0 σ
  else
    gd (nz ((σ.1 this 49) + 1)) <|
    nmd (irem x2 ((σ.1 this 49) + 1)) fun y18 =>
    if (y18 : Int32) = (σ.1 this 49) then
      f_X12_laySending_46 N ρ this a1 rec9 x2 x3 (-1) (15 + x3) σ
    else
      f_X12_laySending_46 N ρ this a1 rec9 x2 x3 y18 (15 + x3) σ
def f_X12_laySending_9 (N : Nat) (ρ : Nat → Nat → Nat) (this : Nat) (a1 : Int32) : Nat → Int32 → Int32 → St → Option (Int32 × St)
  | 0, _, _, _ => none
  | n + 1, x2, x3, σ => b_X12_laySending_9 N ρ this a1 (f_X12_laySending_9 N ρ this a1 n) x2 x3 σ
def f_X12_laySending (N : Nat) (ρ : Nat → Nat → Nat) (this : Nat) (a1 : Int32) (σ : St) : Option (Int32 × St) :=
  nmd ((σ.1 this 50) - 1) fun y20 =>
  f_X12_laySending_9 N ρ this a1 N a1 y20 σ
set_option maxRecDepth 100000 in
set_option maxHeartbeats 4000000 in
theorem w_X12_laySending_46 {N : Nat} {Γ : SG} {ρ : Nat → Nat → Nat} (hs : Sh Γ ρ) {this : Nat} {a1 : Int32} (h0 : Γ[this]? = some (0, 12)) {n0 : Nat} {r : Int32} {σr : St} (rec9 : Int32 → Int32 → St → Option (Int32 × St)) (hrec9 : ∀ (x2 : Int32) (x3 : Int32) (σ : St), rec9 x2 x3 σ = some (r, σr) → Go mX12_laySending 2 0 0 n0 (Ki Γ ρ r σr) 0 0 9 [some (.ref this), none, some (.int x2), some (.int x3), none] [] (hp Γ ρ σ)) (x2 : Int32) (x3 : Int32) (s0 : Int32) (s1 : Int32) (σ : St) (hf : f_X12_laySending_46 N ρ this a1 rec9 x2 x3 s0 s1 σ = some (r, σr)) : Go mX12_laySending 2 0 0 n0 (Ki Γ ρ r σr) 0 0 46 [some (.ref this), none, some (.int x2), some (.int x3), none] [.int s0, .int s1, .ref (ρ this 57)] (hp Γ ρ σ) := by
  unfold f_X12_laySending_46 at hf
  obtain ⟨g1, hf⟩ := gd_some hf
  obtain ⟨σ2, eσ2, hf⟩ := nmd_some hf
  refine go_wI dX12_laySending_46 (hs.1 _ 12 57 h0 rfl) (ib_in g1) ?_
  rw [eσ2]
  refine go_iload_n 2 dX12_laySending_47 rfl rfl ?_
  refine go_aload_n 0 dX12_laySending_48 rfl rfl ?_
  refine go_fI fl_X12_392 dX12_laySending_49 h0 (by decide) rfl ?_
  refine go_iconst 1 dX12_laySending_52 (by decide) ?_
  refine go_iadd dX12_laySending_53 ?_
  obtain ⟨g3, hf⟩ := gd_some hf
  refine go_idiv dX12_laySending_54 (nz_of g3) ?_
  obtain ⟨y4, ey4, hf⟩ := nmd_some hf
  refine go_nm ey4 ?_
  refine go_istore_n 2 [some (.ref this), none, some (.int y4), some (.int x3), none] dX12_laySending_55 rfl (by decide) rfl ?_
  refine go_iinc (x3 + (-1)) [some (.ref this), none, some (.int y4), some (.int (x3 + (-1))), none] dX12_laySending_56 rfl rfl (by decide) rfl ?_
  refine go_goto 9 dX12_laySending_59 (by decide) ?_
  exact hrec9 y4 (x3 + (-1)) σ2 hf
set_option maxRecDepth 100000 in
set_option maxHeartbeats 4000000 in
theorem w_X12_laySending_104 {N : Nat} {Γ : SG} {ρ : Nat → Nat → Nat} (hs : Sh Γ ρ) {this : Nat} {a1 : Int32} (h0 : Γ[this]? = some (0, 12)) {n0 : Nat} {r : Int32} {σr : St} (rec67 : Int32 → Int32 → St → Option (Int32 × St)) (hrec67 : ∀ (x3 : Int32) (x4 : Int32) (σ : St), rec67 x3 x4 σ = some (r, σr) → Go mX12_laySending 2 0 0 n0 (Ki Γ ρ r σr) 0 0 67 [some (.ref this), none, none, some (.int x3), some (.int x4)] [] (hp Γ ρ σ)) (x4 : Int32) (s0 : Int32) (σ : St) (hf : f_X12_laySending_104 N ρ this a1 rec67 x4 s0 σ = some (r, σr)) : Go mX12_laySending 2 0 0 n0 (Ki Γ ρ r σr) 0 0 104 [some (.ref this), none, none, none, some (.int x4)] [.int s0] (hp Γ ρ σ) := by
  unfold f_X12_laySending_104 at hf
  refine go_istore_n 3 [some (.ref this), none, none, some (.int s0), some (.int x4)] dX12_laySending_104 rfl (by decide) rfl ?_
  refine go_iinc (x4 + 1) [some (.ref this), none, none, some (.int s0), some (.int (x4 + 1))] dX12_laySending_105 rfl rfl (by decide) rfl ?_
  refine go_goto 67 dX12_laySending_108 (by decide) ?_
  exact hrec67 s0 (x4 + 1) σ hf
set_option maxRecDepth 100000 in
set_option maxHeartbeats 4000000 in
theorem w_X12_laySending_103 {N : Nat} {Γ : SG} {ρ : Nat → Nat → Nat} (hs : Sh Γ ρ) {this : Nat} {a1 : Int32} (h0 : Γ[this]? = some (0, 12)) {n0 : Nat} {r : Int32} {σr : St} (rec67 : Int32 → Int32 → St → Option (Int32 × St)) (hrec67 : ∀ (x3 : Int32) (x4 : Int32) (σ : St), rec67 x3 x4 σ = some (r, σr) → Go mX12_laySending 2 0 0 n0 (Ki Γ ρ r σr) 0 0 67 [some (.ref this), none, none, some (.int x3), some (.int x4)] [] (hp Γ ρ σ)) (x4 : Int32) (σ : St) (hf : f_X12_laySending_103 N ρ this a1 rec67 x4 σ = some (r, σr)) : Go mX12_laySending 2 0 0 n0 (Ki Γ ρ r σr) 0 0 103 [some (.ref this), none, none, none, some (.int x4)] [] (hp Γ ρ σ) := by
  unfold f_X12_laySending_103 at hf
  refine go_iconst 0 dX12_laySending_103 (by decide) ?_
  exact w_X12_laySending_104 hs h0 rec67 hrec67 x4 0 σ hf
set_option maxRecDepth 100000 in
set_option maxHeartbeats 4000000 in
theorem v_X12_laySending_67 {N : Nat} {Γ : SG} {ρ : Nat → Nat → Nat} (hs : Sh Γ ρ) {this : Nat} {a1 : Int32} (h0 : Γ[this]? = some (0, 12)) {n0 : Nat} {r : Int32} {σr : St} (rec67 : Int32 → Int32 → St → Option (Int32 × St)) (hrec67 : ∀ (x3 : Int32) (x4 : Int32) (σ : St), rec67 x3 x4 σ = some (r, σr) → Go mX12_laySending 2 0 0 n0 (Ki Γ ρ r σr) 0 0 67 [some (.ref this), none, none, some (.int x3), some (.int x4)] [] (hp Γ ρ σ)) (x3 : Int32) (x4 : Int32) (σ : St) (hf : b_X12_laySending_67 N ρ this a1 rec67 x3 x4 σ = some (r, σr)) : Go mX12_laySending 2 0 0 n0 (Ki Γ ρ r σr) 0 0 67 [some (.ref this), none, none, some (.int x3), some (.int x4)] [] (hp Γ ρ σ) := by
  unfold b_X12_laySending_67 at hf
  refine go_iload dX12_laySending_67 rfl ?_
  refine go_aload_n 0 dX12_laySending_69 rfl rfl ?_
  refine go_fI fl_X12_392 dX12_laySending_70 h0 (by decide) rfl ?_
  refine go_icmp_ge 111 dX12_laySending_73 (by decide) (fun c5 => ?_) (fun c5 => ?_)
  · replace hf := (if_pos c5).symm.trans hf
    refine go_iload_n 3 dX12_laySending_111 rfl rfl ?_
    obtain ⟨g6, hf⟩ := gd_some hf
    cases hf
    exact go_zret rfl (bb_of g6) dX12_laySending_112 (Nat.le_refl _) ⟨rfl, rfl⟩
  · replace hf := (if_neg c5).symm.trans hf
    refine go_iload_n 3 dX12_laySending_76 rfl rfl ?_
    refine go_if_eq 103 dX12_laySending_77 (by decide) (fun c7 => ?_) (fun c7 => ?_)
    · replace hf := (if_pos c7).symm.trans hf
      refine go_msk [true, false, false, false, true] [some (.ref this), none, none, none, some (.int x4)] rfl ?_
      exact w_X12_laySending_103 hs h0 rec67 hrec67 x4 σ hf
    · replace hf := (if_neg c7).symm.trans hf
      refine go_aload_n 0 dX12_laySending_80 rfl rfl ?_
      refine go_iload dX12_laySending_81 rfl ?_
      obtain ⟨r8, σ9, q10, hf⟩ := bnd_some hf
      refine go_Vi (av := [.int x4]) (rest := []) (t_X12_sentTo hs h0 q10) ok_X12_sentTo ml_X12_430 dX12_laySending_83 h0 rfl rfl (by decide) (Nat.le_refl _) (Nat.le_refl _) (Nat.le_of_ble_eq_true rfl) ?_
      obtain ⟨r11, σ12, q13, hf⟩ := bnd_some hf
      refine go_Si (av := [.int r8]) (rest := []) (t_X12_members hs  q13) ok_X12_members ml_X12_433 dX12_laySending_86 rfl rfl (by decide) (Nat.le_refl _) (Nat.le_refl _) (Nat.le_of_ble_eq_true rfl) ?_
      refine go_aload_n 0 dX12_laySending_89 rfl rfl ?_
      refine go_fR fl_X12_82 dX12_laySending_90 h0 (by decide) rfl ?_
      refine go_iload dX12_laySending_93 rfl ?_
      obtain ⟨g14, hf⟩ := gd_some hf
      refine go_rI dX12_laySending_95 (hs.1 _ 12 38 h0 rfl) (ib_in g14) ?_
      refine go_icmp_gt 103 dX12_laySending_96 (by decide) (fun c15 => ?_) (fun c15 => ?_)
      · replace hf := (if_pos c15).symm.trans hf
        refine go_msk [true, false, false, false, true] [some (.ref this), none, none, none, some (.int x4)] rfl ?_
        exact w_X12_laySending_103 hs h0 rec67 hrec67 x4 σ12 hf
      · replace hf := (if_neg c15).symm.trans hf
        refine go_iconst 1 dX12_laySending_99 (by decide) ?_
        refine go_goto 104 dX12_laySending_100 (by decide) ?_
        refine go_msk [true, false, false, false, true] [some (.ref this), none, none, none, some (.int x4)] rfl ?_
        exact w_X12_laySending_104 hs h0 rec67 hrec67 x4 1 σ12 hf
theorem w_X12_laySending_67 {N : Nat} {Γ : SG} {ρ : Nat → Nat → Nat} (hs : Sh Γ ρ) {this : Nat} {a1 : Int32} (h0 : Γ[this]? = some (0, 12)) {n0 : Nat} {r : Int32} {σr : St} : ∀ (n : Nat) (x3 : Int32) (x4 : Int32) (σ : St), f_X12_laySending_67 N ρ this a1 n x3 x4 σ = some (r, σr) → Go mX12_laySending 2 0 0 n0 (Ki Γ ρ r σr) 0 0 67 [some (.ref this), none, none, some (.int x3), some (.int x4)] [] (hp Γ ρ σ) := by
  intro n
  induction n with
  | zero => intro x3 x4 σ hf; cases hf
  | succ n ih => intro x3 x4 σ hf; exact v_X12_laySending_67 hs h0 _ ih x3 x4 σ hf
set_option maxRecDepth 100000 in
set_option maxHeartbeats 4000000 in
theorem v_X12_laySending_9 {N : Nat} {Γ : SG} {ρ : Nat → Nat → Nat} (hs : Sh Γ ρ) {this : Nat} {a1 : Int32} (h0 : Γ[this]? = some (0, 12)) {n0 : Nat} {r : Int32} {σr : St} (rec9 : Int32 → Int32 → St → Option (Int32 × St)) (hrec9 : ∀ (x2 : Int32) (x3 : Int32) (σ : St), rec9 x2 x3 σ = some (r, σr) → Go mX12_laySending 2 0 0 n0 (Ki Γ ρ r σr) 0 0 9 [some (.ref this), none, some (.int x2), some (.int x3), none] [] (hp Γ ρ σ)) (x2 : Int32) (x3 : Int32) (σ : St) (hf : b_X12_laySending_9 N ρ this a1 rec9 x2 x3 σ = some (r, σr)) : Go mX12_laySending 2 0 0 n0 (Ki Γ ρ r σr) 0 0 9 [some (.ref this), none, some (.int x2), some (.int x3), none] [] (hp Γ ρ σ) := by
  unfold b_X12_laySending_9 at hf
  refine go_iload_n 3 dX12_laySending_9 rfl rfl ?_
  refine go_if_lt 62 dX12_laySending_10 (by decide) (fun c16 => ?_) (fun c16 => ?_)
  · replace hf := (if_pos c16).symm.trans hf
    refine go_iconst 1 dX12_laySending_62 (by decide) ?_
    refine go_istore_n 3 [some (.ref this), none, some (.int x2), some (.int 1), none] dX12_laySending_63 rfl (by decide) rfl ?_
    refine go_iconst 0 dX12_laySending_64 (by decide) ?_
    refine go_istore [some (.ref this), none, some (.int x2), some (.int 1), some (.int 0)] dX12_laySending_65 (by decide) rfl ?_
    refine go_msk [true, false, false, true, true] [some (.ref this), none, none, some (.int 1), some (.int 0)] rfl ?_
    exact w_X12_laySending_67 hs h0 N 1 0 σ hf
  · replace hf := (if_neg c16).symm.trans hf
    refine go_iload_n 2 dX12_laySending_13 rfl rfl ?_
    refine go_aload_n 0 dX12_laySending_14 rfl rfl ?_
    refine go_fI fl_X12_392 dX12_laySending_15 h0 (by decide) rfl ?_
    refine go_iconst 1 dX12_laySending_18 (by decide) ?_
    refine go_iadd dX12_laySending_19 ?_
    obtain ⟨g17, hf⟩ := gd_some hf
    refine go_irem dX12_laySending_20 (nz_of g17) ?_
    obtain ⟨y18, ey18, hf⟩ := nmd_some hf
    refine go_nm ey18 ?_
    refine go_istore [some (.ref this), none, some (.int x2), some (.int x3), some (.int y18)] dX12_laySending_21 (by decide) rfl ?_
    refine go_aload_n 0 dX12_laySending_23 rfl rfl ?_
    refine go_fR fl_X12_106 dX12_laySending_24 h0 (by decide) rfl ?_
    refine go_bipush 15 dX12_laySending_27 (by decide) ?_
    refine go_iload_n 3 dX12_laySending_29 rfl rfl ?_
    refine go_iadd dX12_laySending_30 ?_
    refine go_iload dX12_laySending_31 rfl ?_
    refine go_aload_n 0 dX12_laySending_33 rfl rfl ?_
    refine go_fI fl_X12_392 dX12_laySending_34 h0 (by decide) rfl ?_
    refine go_icmp_ne 44 dX12_laySending_37 (by decide) (fun c19 => ?_) (fun c19 => ?_)
    · replace hf := (if_neg c19).symm.trans hf
      refine go_iload dX12_laySending_44 rfl ?_
      refine go_msk [true, false, true, true, false] [some (.ref this), none, some (.int x2), some (.int x3), none] rfl ?_
      exact w_X12_laySending_46 hs h0 rec9 hrec9 x2 x3 y18 (15 + x3) σ hf
    · replace hf := (if_pos c19).symm.trans hf
      refine go_iconst (-1) dX12_laySending_40 (by decide) ?_
      refine go_goto 46 dX12_laySending_41 (by decide) ?_
      refine go_msk [true, false, true, true, false] [some (.ref this), none, some (.int x2), some (.int x3), none] rfl ?_
      exact w_X12_laySending_46 hs h0 rec9 hrec9 x2 x3 (-1) (15 + x3) σ hf
theorem w_X12_laySending_9 {N : Nat} {Γ : SG} {ρ : Nat → Nat → Nat} (hs : Sh Γ ρ) {this : Nat} {a1 : Int32} (h0 : Γ[this]? = some (0, 12)) {n0 : Nat} {r : Int32} {σr : St} : ∀ (n : Nat) (x2 : Int32) (x3 : Int32) (σ : St), f_X12_laySending_9 N ρ this a1 n x2 x3 σ = some (r, σr) → Go mX12_laySending 2 0 0 n0 (Ki Γ ρ r σr) 0 0 9 [some (.ref this), none, some (.int x2), some (.int x3), none] [] (hp Γ ρ σ) := by
  intro n
  induction n with
  | zero => intro x2 x3 σ hf; cases hf
  | succ n ih => intro x2 x3 σ hf; exact v_X12_laySending_9 hs h0 _ ih x2 x3 σ hf
set_option maxRecDepth 100000 in
set_option maxHeartbeats 4000000 in
theorem t_X12_laySending {N : Nat} {Γ : SG} {ρ : Nat → Nat → Nat} (hs : Sh Γ ρ) {this : Nat} {a1 : Int32} (h0 : Γ[this]? = some (0, 12)) {σ : St} {r : Int32} {σr : St} (hf : f_X12_laySending N ρ this a1 σ = some (r, σr)) : Tri mX12_laySending 2 0 0 [.ref this, .int a1] (hp Γ ρ σ) (Ki Γ ρ r σr) := by
  unfold f_X12_laySending at hf
  refine tri_of [some (.ref this), some (.int a1), none, none, none] (plainFor_of_name rfl) rfl (Nat.le_of_ble_eq_true rfl) ?_
  refine go_iload_n 1 dX12_laySending_0 rfl rfl ?_
  refine go_istore_n 2 [some (.ref this), some (.int a1), some (.int a1), none, none] dX12_laySending_1 rfl (by decide) rfl ?_
  refine go_aload_n 0 dX12_laySending_2 rfl rfl ?_
  refine go_fI fl_X12_395 dX12_laySending_3 h0 (by decide) rfl ?_
  refine go_iconst 1 dX12_laySending_6 (by decide) ?_
  refine go_isub dX12_laySending_7 ?_
  obtain ⟨y20, ey20, hf⟩ := nmd_some hf
  refine go_nm ey20 ?_
  refine go_istore_n 3 [some (.ref this), some (.int a1), some (.int a1), some (.int y20), none] dX12_laySending_8 rfl (by decide) rfl ?_
  refine go_msk [true, false, true, true, false] [some (.ref this), none, some (.int a1), some (.int y20), none] rfl ?_
  exact w_X12_laySending_9 hs h0 N a1 y20 σ hf
def b_X12_putSending_2 (N : Nat) (ρ : Nat → Nat → Nat) (this : Nat) (rec2 : Int32 → St → Option (Int32 × St)) (x1 : Int32) (σ : St) : Option (Int32 × St) :=
  if (σ.1 this 50) ≤ (x1 : Int32) then
    nmd (sI σ this 65 (σ.1 this 50)) fun σ2 =>
    some (0, σ2)
  else
    gd (ib (15 + x1) 22) <|
    gd (ib x1 5) <|
    nmd (sI σ (ρ this 64) x1.toNatClampNeg (σ.1 (ρ this 57) (15 + x1).toNatClampNeg)) fun σ5 =>
    rec2 (x1 + 1) σ5
def f_X12_putSending_2 (N : Nat) (ρ : Nat → Nat → Nat) (this : Nat) : Nat → Int32 → St → Option (Int32 × St)
  | 0, _, _ => none
  | n + 1, x1, σ => b_X12_putSending_2 N ρ this (f_X12_putSending_2 N ρ this n) x1 σ
def f_X12_putSending (N : Nat) (ρ : Nat → Nat → Nat) (this : Nat) (σ : St) : Option (Int32 × St) :=
  f_X12_putSending_2 N ρ this N 0 σ
set_option maxRecDepth 100000 in
set_option maxHeartbeats 4000000 in
theorem v_X12_putSending_2 {N : Nat} {Γ : SG} {ρ : Nat → Nat → Nat} (hs : Sh Γ ρ) {this : Nat} (h0 : Γ[this]? = some (0, 12)) {n0 : Nat} {r : Int32} {σr : St} (rec2 : Int32 → St → Option (Int32 × St)) (hrec2 : ∀ (x1 : Int32) (σ : St), rec2 x1 σ = some (r, σr) → Go mX12_putSending 0 0 0 n0 (Kv Γ ρ σr) 0 0 2 [some (.ref this), some (.int x1)] [] (hp Γ ρ σ)) (x1 : Int32) (σ : St) (hf : b_X12_putSending_2 N ρ this rec2 x1 σ = some (r, σr)) : Go mX12_putSending 0 0 0 n0 (Kv Γ ρ σr) 0 0 2 [some (.ref this), some (.int x1)] [] (hp Γ ρ σ) := by
  unfold b_X12_putSending_2 at hf
  refine go_iload_n 1 dX12_putSending_2 rfl rfl ?_
  refine go_aload_n 0 dX12_putSending_3 rfl rfl ?_
  refine go_fI fl_X12_395 dX12_putSending_4 h0 (by decide) rfl ?_
  refine go_icmp_ge 31 dX12_putSending_7 (by decide) (fun c1 => ?_) (fun c1 => ?_)
  · replace hf := (if_pos c1).symm.trans hf
    refine go_aload_n 0 dX12_putSending_31 rfl rfl ?_
    refine go_aload_n 0 dX12_putSending_32 rfl rfl ?_
    refine go_fI fl_X12_395 dX12_putSending_33 h0 (by decide) rfl ?_
    obtain ⟨σ2, eσ2, hf⟩ := nmd_some hf
    refine go_pI fl_X12_419 ft_12_65 (okv_i _) dX12_putSending_36 h0 (by decide) rfl ?_
    rw [eσ2]
    cases hf
    exact go_vret rfl dX12_putSending_39 (Nat.le_refl _) ⟨rfl, rfl⟩
  · replace hf := (if_neg c1).symm.trans hf
    refine go_aload_n 0 dX12_putSending_10 rfl rfl ?_
    refine go_fR fl_X12_121 dX12_putSending_11 h0 (by decide) rfl ?_
    refine go_iload_n 1 dX12_putSending_14 rfl rfl ?_
    refine go_aload_n 0 dX12_putSending_15 rfl rfl ?_
    refine go_fR fl_X12_106 dX12_putSending_16 h0 (by decide) rfl ?_
    refine go_bipush 15 dX12_putSending_19 (by decide) ?_
    refine go_iload_n 1 dX12_putSending_21 rfl rfl ?_
    refine go_iadd dX12_putSending_22 ?_
    obtain ⟨g3, hf⟩ := gd_some hf
    refine go_rI dX12_putSending_23 (hs.1 _ 12 57 h0 rfl) (ib_in g3) ?_
    obtain ⟨g4, hf⟩ := gd_some hf
    obtain ⟨σ5, eσ5, hf⟩ := nmd_some hf
    refine go_wI dX12_putSending_24 (hs.1 _ 12 64 h0 rfl) (ib_in g4) ?_
    rw [eσ5]
    refine go_iinc (x1 + 1) [some (.ref this), some (.int (x1 + 1))] dX12_putSending_25 rfl rfl (by decide) rfl ?_
    refine go_goto 2 dX12_putSending_28 (by decide) ?_
    exact hrec2 (x1 + 1) σ5 hf
theorem w_X12_putSending_2 {N : Nat} {Γ : SG} {ρ : Nat → Nat → Nat} (hs : Sh Γ ρ) {this : Nat} (h0 : Γ[this]? = some (0, 12)) {n0 : Nat} {r : Int32} {σr : St} : ∀ (n : Nat) (x1 : Int32) (σ : St), f_X12_putSending_2 N ρ this n x1 σ = some (r, σr) → Go mX12_putSending 0 0 0 n0 (Kv Γ ρ σr) 0 0 2 [some (.ref this), some (.int x1)] [] (hp Γ ρ σ) := by
  intro n
  induction n with
  | zero => intro x1 σ hf; cases hf
  | succ n ih => intro x1 σ hf; exact v_X12_putSending_2 hs h0 _ ih x1 σ hf
set_option maxRecDepth 100000 in
set_option maxHeartbeats 4000000 in
theorem t_X12_putSending {N : Nat} {Γ : SG} {ρ : Nat → Nat → Nat} (hs : Sh Γ ρ) {this : Nat} (h0 : Γ[this]? = some (0, 12)) {σ : St} {r : Int32} {σr : St} (hf : f_X12_putSending N ρ this σ = some (r, σr)) : Tri mX12_putSending 0 0 0 [.ref this] (hp Γ ρ σ) (Kv Γ ρ σr) := by
  unfold f_X12_putSending at hf
  refine tri_of [some (.ref this), none] (plainFor_of_name rfl) rfl (Nat.le_of_ble_eq_true rfl) ?_
  refine go_iconst 0 dX12_putSending_0 (by decide) ?_
  refine go_istore_n 1 [some (.ref this), some (.int 0)] dX12_putSending_1 rfl (by decide) rfl ?_
  exact w_X12_putSending_2 hs h0 N 0 σ hf
def f_X12_round_97 (N : Nat) (ρ : Nat → Nat → Nat) (this : Nat) (a1 : Int32) (rec22 : Int32 → Int32 → Int32 → St → Option (Int32 × St)) (x2 : Int32) (x3 : Int32) (x4 : Int32) (σ : St) : Option (Int32 × St) :=
  rec22 x2 x3 (x4 + 1) σ
def f_X12_round_85 (N : Nat) (ρ : Nat → Nat → Nat) (this : Nat) (a1 : Int32) (rec22 : Int32 → Int32 → Int32 → St → Option (Int32 × St)) (x4 : Int32) (x5 : Int32) (σ : St) : Option (Int32 × St) :=
  bnd (f_X12_walkOf N ρ this σ) fun r1 σ2 =>
  bnd (f_X12_putSending N ρ this σ2) fun _ σ5 =>
  f_X12_round_97 N ρ this a1 rec22 x5 r1 x4 σ5
def f_X12_round_112 (N : Nat) (ρ : Nat → Nat → Nat) (this : Nat) (a1 : Int32) (s0 : Int32) (σ : St) : Option (Int32 × St) :=
  some (s0, σ)
def b_X12_round_22 (N : Nat) (ρ : Nat → Nat → Nat) (this : Nat) (a1 : Int32) (rec22 : Int32 → Int32 → Int32 → St → Option (Int32 × St)) (x2 : Int32) (x3 : Int32) (x4 : Int32) (σ : St) : Option (Int32 × St) :=
  bnd (f_X12_power N ρ ((σ.1 this 49) + 1) (σ.1 this 50) σ) fun r7 σ8 =>
  if r7 ≤ (x4 : Int32) then
    if (a1 : Int32) = 0 then
      f_X12_round_112 N ρ this a1 x2 σ8
    else
      f_X12_round_112 N ρ this a1 x3 σ8
  else
    bnd (f_X12_laySending N ρ this x4 σ8) fun r12 σ13 =>
    if (r12 : Int32) = 0 then
      f_X12_round_97 N ρ this a1 rec22 x2 x3 x4 σ13
    else
      bnd (f_X12_whoFares N ρ this 1 σ13) fun r16 σ17 =>
      bnd (f_X12_members N ρ r16 σ17) fun r19 σ20 =>
      if (r19 : Int32) < x2 then
        f_X12_round_97 N ρ this a1 rec22 x2 x3 x4 σ20
      else
        if (r19 : Int32) = x2 then
          bnd (f_X12_walkOf N ρ this σ20) fun r24 σ25 =>
          if (r24 : Int32) < x3 then
            f_X12_round_85 N ρ this a1 rec22 x4 r19 σ25
          else
            f_X12_round_97 N ρ this a1 rec22 x2 x3 x4 σ25
        else
          f_X12_round_85 N ρ this a1 rec22 x4 r19 σ20
def f_X12_round_22 (N : Nat) (ρ : Nat → Nat → Nat) (this : Nat) (a1 : Int32) : Nat → Int32 → Int32 → Int32 → St → Option (Int32 × St)
  | 0, _, _, _, _ => none
  | n + 1, x2, x3, x4, σ => b_X12_round_22 N ρ this a1 (f_X12_round_22 N ρ this a1 n) x2 x3 x4 σ
def f_X12_round (N : Nat) (ρ : Nat → Nat → Nat) (this : Nat) (a1 : Int32) (σ : St) : Option (Int32 × St) :=
  bnd (f_X12_isIn N ρ a1 0 1 σ) fun r28 σ29 =>
  if (r28 : Int32) = 0 then
    some ((-1), σ29)
  else
    bnd (f_X12_fill N ρ this σ29) fun _ σ33 =>
    f_X12_round_22 N ρ this a1 N (-1) 0 0 σ33
set_option maxRecDepth 100000 in
set_option maxHeartbeats 4000000 in
theorem w_X12_round_97 {N : Nat} {Γ : SG} {ρ : Nat → Nat → Nat} (hs : Sh Γ ρ) {this : Nat} {a1 : Int32} (h0 : Γ[this]? = some (0, 12)) {n0 : Nat} {r : Int32} {σr : St} (rec22 : Int32 → Int32 → Int32 → St → Option (Int32 × St)) (hrec22 : ∀ (x2 : Int32) (x3 : Int32) (x4 : Int32) (σ : St), rec22 x2 x3 x4 σ = some (r, σr) → Go mX12_round 7 0 0 n0 (Ki Γ ρ r σr) 0 0 22 [some (.ref this), some (.int a1), some (.int x2), some (.int x3), some (.int x4), none] [] (hp Γ ρ σ)) (x2 : Int32) (x3 : Int32) (x4 : Int32) (σ : St) (hf : f_X12_round_97 N ρ this a1 rec22 x2 x3 x4 σ = some (r, σr)) : Go mX12_round 7 0 0 n0 (Ki Γ ρ r σr) 0 0 97 [some (.ref this), some (.int a1), some (.int x2), some (.int x3), some (.int x4), none] [] (hp Γ ρ σ) := by
  unfold f_X12_round_97 at hf
  refine go_iinc (x4 + 1) [some (.ref this), some (.int a1), some (.int x2), some (.int x3), some (.int (x4 + 1)), none] dX12_round_97 rfl rfl (by decide) rfl ?_
  refine go_goto 22 dX12_round_100 (by decide) ?_
  exact hrec22 x2 x3 (x4 + 1) σ hf
set_option maxRecDepth 100000 in
set_option maxHeartbeats 4000000 in
theorem w_X12_round_85 {N : Nat} {Γ : SG} {ρ : Nat → Nat → Nat} (hs : Sh Γ ρ) {this : Nat} {a1 : Int32} (h0 : Γ[this]? = some (0, 12)) {n0 : Nat} {r : Int32} {σr : St} (rec22 : Int32 → Int32 → Int32 → St → Option (Int32 × St)) (hrec22 : ∀ (x2 : Int32) (x3 : Int32) (x4 : Int32) (σ : St), rec22 x2 x3 x4 σ = some (r, σr) → Go mX12_round 7 0 0 n0 (Ki Γ ρ r σr) 0 0 22 [some (.ref this), some (.int a1), some (.int x2), some (.int x3), some (.int x4), none] [] (hp Γ ρ σ)) (x4 : Int32) (x5 : Int32) (σ : St) (hf : f_X12_round_85 N ρ this a1 rec22 x4 x5 σ = some (r, σr)) : Go mX12_round 7 0 0 n0 (Ki Γ ρ r σr) 0 0 85 [some (.ref this), some (.int a1), none, none, some (.int x4), some (.int x5)] [] (hp Γ ρ σ) := by
  unfold f_X12_round_85 at hf
  refine go_iload dX12_round_85 rfl ?_
  refine go_istore_n 2 [some (.ref this), some (.int a1), some (.int x5), none, some (.int x4), some (.int x5)] dX12_round_87 rfl (by decide) rfl ?_
  refine go_aload_n 0 dX12_round_88 rfl rfl ?_
  obtain ⟨r1, σ2, q3, hf⟩ := bnd_some hf
  refine go_Vi (av := []) (rest := []) (t_X12_walkOf hs h0 q3) ok_X12_walkOf ml_X12_484 dX12_round_89 h0 rfl rfl (by decide) (Nat.le_refl _) (Nat.le_refl _) (Nat.le_of_ble_eq_true rfl) ?_
  refine go_istore_n 3 [some (.ref this), some (.int a1), some (.int x5), some (.int r1), some (.int x4), some (.int x5)] dX12_round_92 rfl (by decide) rfl ?_
  refine go_aload_n 0 dX12_round_93 rfl rfl ?_
  obtain ⟨r4, σ5, q6, hf⟩ := bnd_some hf
  refine go_Vv (av := []) (rest := []) (t_X12_putSending hs h0 q6) ok_X12_putSending ml_X12_493 dX12_round_94 h0 rfl rfl (by decide) (Nat.le_refl _) (Nat.le_refl _) (Nat.le_of_ble_eq_true rfl) ?_
  refine go_msk [true, true, true, true, true, false] [some (.ref this), some (.int a1), some (.int x5), some (.int r1), some (.int x4), none] rfl ?_
  exact w_X12_round_97 hs h0 rec22 hrec22 x5 r1 x4 σ5 hf
set_option maxRecDepth 100000 in
set_option maxHeartbeats 4000000 in
theorem w_X12_round_112 {N : Nat} {Γ : SG} {ρ : Nat → Nat → Nat} (hs : Sh Γ ρ) {this : Nat} {a1 : Int32} (h0 : Γ[this]? = some (0, 12)) {n0 : Nat} {r : Int32} {σr : St} (s0 : Int32) (σ : St) (hf : f_X12_round_112 N ρ this a1 s0 σ = some (r, σr)) : Go mX12_round 7 0 0 n0 (Ki Γ ρ r σr) 0 0 112 [none, none, none, none, none, none] [.int s0] (hp Γ ρ σ) := by
  unfold f_X12_round_112 at hf
  cases hf
  exact go_iret rfl dX12_round_112 (Nat.le_refl _) ⟨rfl, rfl⟩
set_option maxRecDepth 100000 in
set_option maxHeartbeats 4000000 in
theorem v_X12_round_22 {N : Nat} {Γ : SG} {ρ : Nat → Nat → Nat} (hs : Sh Γ ρ) {this : Nat} {a1 : Int32} (h0 : Γ[this]? = some (0, 12)) {n0 : Nat} {r : Int32} {σr : St} (rec22 : Int32 → Int32 → Int32 → St → Option (Int32 × St)) (hrec22 : ∀ (x2 : Int32) (x3 : Int32) (x4 : Int32) (σ : St), rec22 x2 x3 x4 σ = some (r, σr) → Go mX12_round 7 0 0 n0 (Ki Γ ρ r σr) 0 0 22 [some (.ref this), some (.int a1), some (.int x2), some (.int x3), some (.int x4), none] [] (hp Γ ρ σ)) (x2 : Int32) (x3 : Int32) (x4 : Int32) (σ : St) (hf : b_X12_round_22 N ρ this a1 rec22 x2 x3 x4 σ = some (r, σr)) : Go mX12_round 7 0 0 n0 (Ki Γ ρ r σr) 0 0 22 [some (.ref this), some (.int a1), some (.int x2), some (.int x3), some (.int x4), none] [] (hp Γ ρ σ) := by
  unfold b_X12_round_22 at hf
  refine go_iload dX12_round_22 rfl ?_
  refine go_aload_n 0 dX12_round_24 rfl rfl ?_
  refine go_fI fl_X12_392 dX12_round_25 h0 (by decide) rfl ?_
  refine go_iconst 1 dX12_round_28 (by decide) ?_
  refine go_iadd dX12_round_29 ?_
  refine go_aload_n 0 dX12_round_30 rfl rfl ?_
  refine go_fI fl_X12_395 dX12_round_31 h0 (by decide) rfl ?_
  obtain ⟨r7, σ8, q9, hf⟩ := bnd_some hf
  refine go_Si (av := [.int ((σ.1 this 49) + 1), .int (σ.1 this 50)]) (rest := [.int x4]) (t_X12_power hs  q9) ok_X12_power ml_X12_487 dX12_round_34 rfl rfl (by decide) (Nat.le_refl _) (Nat.le_refl _) (Nat.le_of_ble_eq_true rfl) ?_
  refine go_icmp_ge 103 dX12_round_37 (by decide) (fun c10 => ?_) (fun c10 => ?_)
  · replace hf := (if_pos c10).symm.trans hf
    refine go_iload_n 1 dX12_round_103 rfl rfl ?_
    refine go_if_ne 111 dX12_round_104 (by decide) (fun c11 => ?_) (fun c11 => ?_)
    · replace hf := (if_neg c11).symm.trans hf
      refine go_iload_n 3 dX12_round_111 rfl rfl ?_
      refine go_msk [false, false, false, false, false, false] [none, none, none, none, none, none] rfl ?_
      exact w_X12_round_112 hs h0 x3 σ8 hf
    · replace hf := (if_pos c11).symm.trans hf
      refine go_iload_n 2 dX12_round_107 rfl rfl ?_
      refine go_goto 112 dX12_round_108 (by decide) ?_
      refine go_msk [false, false, false, false, false, false] [none, none, none, none, none, none] rfl ?_
      exact w_X12_round_112 hs h0 x2 σ8 hf
  · replace hf := (if_neg c10).symm.trans hf
    refine go_aload_n 0 dX12_round_40 rfl rfl ?_
    refine go_iload dX12_round_41 rfl ?_
    obtain ⟨r12, σ13, q14, hf⟩ := bnd_some hf
    refine go_Vi (av := [.int x4]) (rest := []) (t_X12_laySending hs h0 q14) ok_X12_laySending ml_X12_490 dX12_round_43 h0 rfl rfl (by decide) (Nat.le_refl _) (Nat.le_refl _) (Nat.le_of_ble_eq_true rfl) ?_
    refine go_if_ne 52 dX12_round_46 (by decide) (fun c15 => ?_) (fun c15 => ?_)
    · replace hf := (if_neg c15).symm.trans hf
      refine go_aload_n 0 dX12_round_52 rfl rfl ?_
      refine go_iconst 1 dX12_round_53 (by decide) ?_
      obtain ⟨r16, σ17, q18, hf⟩ := bnd_some hf
      refine go_Vi (av := [.int 1]) (rest := []) (t_X12_whoFares hs h0 q18) ok_X12_whoFares ml_X12_475 dX12_round_54 h0 rfl rfl (by decide) (Nat.le_refl _) (Nat.le_refl _) (Nat.le_of_ble_eq_true rfl) ?_
      obtain ⟨r19, σ20, q21, hf⟩ := bnd_some hf
      refine go_Si (av := [.int r16]) (rest := []) (t_X12_members hs  q21) ok_X12_members ml_X12_433 dX12_round_57 rfl rfl (by decide) (Nat.le_refl _) (Nat.le_refl _) (Nat.le_of_ble_eq_true rfl) ?_
      refine go_istore [some (.ref this), some (.int a1), some (.int x2), some (.int x3), some (.int x4), some (.int r19)] dX12_round_60 (by decide) rfl ?_
      refine go_iload dX12_round_62 rfl ?_
      refine go_iload_n 2 dX12_round_64 rfl rfl ?_
      refine go_icmp_lt 97 dX12_round_65 (by decide) (fun c22 => ?_) (fun c22 => ?_)
      · replace hf := (if_pos c22).symm.trans hf
        refine go_msk [true, true, true, true, true, false] [some (.ref this), some (.int a1), some (.int x2), some (.int x3), some (.int x4), none] rfl ?_
        exact w_X12_round_97 hs h0 rec22 hrec22 x2 x3 x4 σ20 hf
      · replace hf := (if_neg c22).symm.trans hf
        refine go_iload dX12_round_68 rfl ?_
        refine go_iload_n 2 dX12_round_70 rfl rfl ?_
        refine go_icmp_ne 85 dX12_round_71 (by decide) (fun c23 => ?_) (fun c23 => ?_)
        · replace hf := (if_neg c23).symm.trans hf
          refine go_msk [true, true, false, false, true, true] [some (.ref this), some (.int a1), none, none, some (.int x4), some (.int r19)] rfl ?_
          exact w_X12_round_85 hs h0 rec22 hrec22 x4 r19 σ20 hf
        · replace hf := (if_pos c23).symm.trans hf
          refine go_aload_n 0 dX12_round_74 rfl rfl ?_
          obtain ⟨r24, σ25, q26, hf⟩ := bnd_some hf
          refine go_Vi (av := []) (rest := []) (t_X12_walkOf hs h0 q26) ok_X12_walkOf ml_X12_484 dX12_round_75 h0 rfl rfl (by decide) (Nat.le_refl _) (Nat.le_refl _) (Nat.le_of_ble_eq_true rfl) ?_
          refine go_iload_n 3 dX12_round_78 rfl rfl ?_
          refine go_icmp_lt 85 dX12_round_79 (by decide) (fun c27 => ?_) (fun c27 => ?_)
          · replace hf := (if_pos c27).symm.trans hf
            refine go_msk [true, true, false, false, true, true] [some (.ref this), some (.int a1), none, none, some (.int x4), some (.int r19)] rfl ?_
            exact w_X12_round_85 hs h0 rec22 hrec22 x4 r19 σ25 hf
          · replace hf := (if_neg c27).symm.trans hf
            refine go_goto 97 dX12_round_82 (by decide) ?_
            refine go_msk [true, true, true, true, true, false] [some (.ref this), some (.int a1), some (.int x2), some (.int x3), some (.int x4), none] rfl ?_
            exact w_X12_round_97 hs h0 rec22 hrec22 x2 x3 x4 σ25 hf
    · replace hf := (if_pos c15).symm.trans hf
      refine go_goto 97 dX12_round_49 (by decide) ?_
      exact w_X12_round_97 hs h0 rec22 hrec22 x2 x3 x4 σ13 hf
theorem w_X12_round_22 {N : Nat} {Γ : SG} {ρ : Nat → Nat → Nat} (hs : Sh Γ ρ) {this : Nat} {a1 : Int32} (h0 : Γ[this]? = some (0, 12)) {n0 : Nat} {r : Int32} {σr : St} : ∀ (n : Nat) (x2 : Int32) (x3 : Int32) (x4 : Int32) (σ : St), f_X12_round_22 N ρ this a1 n x2 x3 x4 σ = some (r, σr) → Go mX12_round 7 0 0 n0 (Ki Γ ρ r σr) 0 0 22 [some (.ref this), some (.int a1), some (.int x2), some (.int x3), some (.int x4), none] [] (hp Γ ρ σ) := by
  intro n
  induction n with
  | zero => intro x2 x3 x4 σ hf; cases hf
  | succ n ih => intro x2 x3 x4 σ hf; exact v_X12_round_22 hs h0 _ ih x2 x3 x4 σ hf
set_option maxRecDepth 100000 in
set_option maxHeartbeats 4000000 in
theorem t_X12_round {N : Nat} {Γ : SG} {ρ : Nat → Nat → Nat} (hs : Sh Γ ρ) {this : Nat} {a1 : Int32} (h0 : Γ[this]? = some (0, 12)) {σ : St} {r : Int32} {σr : St} (hf : f_X12_round N ρ this a1 σ = some (r, σr)) : Tri mX12_round 7 0 0 [.ref this, .int a1] (hp Γ ρ σ) (Ki Γ ρ r σr) := by
  unfold f_X12_round at hf
  refine tri_of [some (.ref this), some (.int a1), none, none, none, none] (plainFor_of_name rfl) rfl (Nat.le_of_ble_eq_true rfl) ?_
  refine go_iload_n 1 dX12_round_0 rfl rfl ?_
  refine go_iconst 0 dX12_round_1 (by decide) ?_
  refine go_iconst 1 dX12_round_2 (by decide) ?_
  obtain ⟨r28, σ29, q30, hf⟩ := bnd_some hf
  refine go_Si (av := [.int a1, .int 0, .int 1]) (rest := []) (t_X12_isIn hs  q30) ok_X12_isIn ml_X12_422 dX12_round_3 rfl rfl (by decide) (Nat.le_refl _) (Nat.le_refl _) (Nat.le_of_ble_eq_true rfl) ?_
  refine go_if_ne 11 dX12_round_6 (by decide) (fun c31 => ?_) (fun c31 => ?_)
  · replace hf := (if_neg c31).symm.trans hf
    refine go_aload_n 0 dX12_round_11 rfl rfl ?_
    obtain ⟨r32, σ33, q34, hf⟩ := bnd_some hf
    refine go_Vv (av := []) (rest := []) (t_X12_fill hs h0 q34) ok_X12_fill ml_X12_451 dX12_round_12 h0 rfl rfl (by decide) (Nat.le_refl _) (Nat.le_refl _) (Nat.le_of_ble_eq_true rfl) ?_
    refine go_iconst (-1) dX12_round_15 (by decide) ?_
    refine go_istore_n 2 [some (.ref this), some (.int a1), some (.int (-1)), none, none, none] dX12_round_16 rfl (by decide) rfl ?_
    refine go_iconst 0 dX12_round_17 (by decide) ?_
    refine go_istore_n 3 [some (.ref this), some (.int a1), some (.int (-1)), some (.int 0), none, none] dX12_round_18 rfl (by decide) rfl ?_
    refine go_iconst 0 dX12_round_19 (by decide) ?_
    refine go_istore [some (.ref this), some (.int a1), some (.int (-1)), some (.int 0), some (.int 0), none] dX12_round_20 (by decide) rfl ?_
    exact w_X12_round_22 hs h0 N (-1) 0 0 σ33 hf
  · replace hf := (if_pos c31).symm.trans hf
    refine go_iconst (-1) dX12_round_9 (by decide) ?_
    cases hf
    exact go_iret rfl dX12_round_10 (Nat.le_refl _) ⟨rfl, rfl⟩
def f_X12_serves_57 (N : Nat) (ρ : Nat → Nat → Nat) (this : Nat) (rec30 : Int32 → Int32 → Int32 → St → Option (Int32 × St)) (x1 : Int32) (x3 : Int32) (s0 : Int32) (σ : St) : Option (Int32 × St) :=
  rec30 x1 s0 (x3 + 1) σ
def f_X12_serves_56 (N : Nat) (ρ : Nat → Nat → Nat) (this : Nat) (rec30 : Int32 → Int32 → Int32 → St → Option (Int32 × St)) (x1 : Int32) (x3 : Int32) (σ : St) : Option (Int32 × St) :=
  f_X12_serves_57 N ρ this rec30 x1 x3 0 σ
def b_X12_serves_30 (N : Nat) (ρ : Nat → Nat → Nat) (this : Nat) (rec30 : Int32 → Int32 → Int32 → St → Option (Int32 × St)) (x1 : Int32) (x2 : Int32) (x3 : Int32) (σ : St) : Option (Int32 × St) :=
  if (σ.1 this 49) ≤ (x3 : Int32) then
    gd (bb x2) <|
    some (x2, σ)
  else
    if (x2 : Int32) = 0 then
      f_X12_serves_56 N ρ this rec30 x1 x3 σ
    else
      bnd (f_X12_sentTo N ρ this x3 σ) fun r4 σ5 =>
      if (r4 &&& x1 : Int32) = 0 then
        f_X12_serves_56 N ρ this rec30 x1 x3 σ5
      else
        f_X12_serves_57 N ρ this rec30 x1 x3 1 σ5
def f_X12_serves_30 (N : Nat) (ρ : Nat → Nat → Nat) (this : Nat) : Nat → Int32 → Int32 → Int32 → St → Option (Int32 × St)
  | 0, _, _, _, _ => none
  | n + 1, x1, x2, x3, σ => b_X12_serves_30 N ρ this (f_X12_serves_30 N ρ this n) x1 x2 x3 σ
def f_X12_serves_27 (N : Nat) (ρ : Nat → Nat → Nat) (this : Nat) (x1 : Int32) (s0 : Int32) (σ : St) : Option (Int32 × St) :=
  f_X12_serves_30 N ρ this N x1 s0 0 σ
def f_X12_serves_26 (N : Nat) (ρ : Nat → Nat → Nat) (this : Nat) (x1 : Int32) (σ : St) : Option (Int32 × St) :=
  f_X12_serves_27 N ρ this x1 0 σ
def f_X12_serves (N : Nat) (ρ : Nat → Nat → Nat) (this : Nat) (σ : St) : Option (Int32 × St) :=
  bnd (f_X12_whoFares N ρ this 1 σ) fun r8 σ9 =>
  bnd (f_X12_whoFares N ρ this 2 σ9) fun r11 σ12 =>
  if (r11 : Int32) = 0 then
    bnd (f_X12_whoFares N ρ this 3 σ12) fun r15 σ16 =>
    if (r15 : Int32) = 0 then
      f_X12_serves_27 N ρ this r8 1 σ16
    else
      f_X12_serves_26 N ρ this r8 σ16
  else
    f_X12_serves_26 N ρ this r8 σ12
set_option maxRecDepth 100000 in
set_option maxHeartbeats 4000000 in
theorem w_X12_serves_57 {N : Nat} {Γ : SG} {ρ : Nat → Nat → Nat} (hs : Sh Γ ρ) {this : Nat} (h0 : Γ[this]? = some (0, 12)) {n0 : Nat} {r : Int32} {σr : St} (rec30 : Int32 → Int32 → Int32 → St → Option (Int32 × St)) (hrec30 : ∀ (x1 : Int32) (x2 : Int32) (x3 : Int32) (σ : St), rec30 x1 x2 x3 σ = some (r, σr) → Go mX12_serves 7 0 0 n0 (Ki Γ ρ r σr) 0 0 30 [some (.ref this), some (.int x1), some (.int x2), some (.int x3)] [] (hp Γ ρ σ)) (x1 : Int32) (x3 : Int32) (s0 : Int32) (σ : St) (hf : f_X12_serves_57 N ρ this rec30 x1 x3 s0 σ = some (r, σr)) : Go mX12_serves 7 0 0 n0 (Ki Γ ρ r σr) 0 0 57 [some (.ref this), some (.int x1), none, some (.int x3)] [.int s0] (hp Γ ρ σ) := by
  unfold f_X12_serves_57 at hf
  refine go_istore_n 2 [some (.ref this), some (.int x1), some (.int s0), some (.int x3)] dX12_serves_57 rfl (by decide) rfl ?_
  refine go_iinc (x3 + 1) [some (.ref this), some (.int x1), some (.int s0), some (.int (x3 + 1))] dX12_serves_58 rfl rfl (by decide) rfl ?_
  refine go_goto 30 dX12_serves_61 (by decide) ?_
  exact hrec30 x1 s0 (x3 + 1) σ hf
set_option maxRecDepth 100000 in
set_option maxHeartbeats 4000000 in
theorem w_X12_serves_56 {N : Nat} {Γ : SG} {ρ : Nat → Nat → Nat} (hs : Sh Γ ρ) {this : Nat} (h0 : Γ[this]? = some (0, 12)) {n0 : Nat} {r : Int32} {σr : St} (rec30 : Int32 → Int32 → Int32 → St → Option (Int32 × St)) (hrec30 : ∀ (x1 : Int32) (x2 : Int32) (x3 : Int32) (σ : St), rec30 x1 x2 x3 σ = some (r, σr) → Go mX12_serves 7 0 0 n0 (Ki Γ ρ r σr) 0 0 30 [some (.ref this), some (.int x1), some (.int x2), some (.int x3)] [] (hp Γ ρ σ)) (x1 : Int32) (x3 : Int32) (σ : St) (hf : f_X12_serves_56 N ρ this rec30 x1 x3 σ = some (r, σr)) : Go mX12_serves 7 0 0 n0 (Ki Γ ρ r σr) 0 0 56 [some (.ref this), some (.int x1), none, some (.int x3)] [] (hp Γ ρ σ) := by
  unfold f_X12_serves_56 at hf
  refine go_iconst 0 dX12_serves_56 (by decide) ?_
  exact w_X12_serves_57 hs h0 rec30 hrec30 x1 x3 0 σ hf
set_option maxRecDepth 100000 in
set_option maxHeartbeats 4000000 in
theorem v_X12_serves_30 {N : Nat} {Γ : SG} {ρ : Nat → Nat → Nat} (hs : Sh Γ ρ) {this : Nat} (h0 : Γ[this]? = some (0, 12)) {n0 : Nat} {r : Int32} {σr : St} (rec30 : Int32 → Int32 → Int32 → St → Option (Int32 × St)) (hrec30 : ∀ (x1 : Int32) (x2 : Int32) (x3 : Int32) (σ : St), rec30 x1 x2 x3 σ = some (r, σr) → Go mX12_serves 7 0 0 n0 (Ki Γ ρ r σr) 0 0 30 [some (.ref this), some (.int x1), some (.int x2), some (.int x3)] [] (hp Γ ρ σ)) (x1 : Int32) (x2 : Int32) (x3 : Int32) (σ : St) (hf : b_X12_serves_30 N ρ this rec30 x1 x2 x3 σ = some (r, σr)) : Go mX12_serves 7 0 0 n0 (Ki Γ ρ r σr) 0 0 30 [some (.ref this), some (.int x1), some (.int x2), some (.int x3)] [] (hp Γ ρ σ) := by
  unfold b_X12_serves_30 at hf
  refine go_iload_n 3 dX12_serves_30 rfl rfl ?_
  refine go_aload_n 0 dX12_serves_31 rfl rfl ?_
  refine go_fI fl_X12_392 dX12_serves_32 h0 (by decide) rfl ?_
  refine go_icmp_ge 64 dX12_serves_35 (by decide) (fun c1 => ?_) (fun c1 => ?_)
  · replace hf := (if_pos c1).symm.trans hf
    refine go_iload_n 2 dX12_serves_64 rfl rfl ?_
    obtain ⟨g2, hf⟩ := gd_some hf
    cases hf
    exact go_zret rfl (bb_of g2) dX12_serves_65 (Nat.le_refl _) ⟨rfl, rfl⟩
  · replace hf := (if_neg c1).symm.trans hf
    refine go_iload_n 2 dX12_serves_38 rfl rfl ?_
    refine go_if_eq 56 dX12_serves_39 (by decide) (fun c3 => ?_) (fun c3 => ?_)
    · replace hf := (if_pos c3).symm.trans hf
      refine go_msk [true, true, false, true] [some (.ref this), some (.int x1), none, some (.int x3)] rfl ?_
      exact w_X12_serves_56 hs h0 rec30 hrec30 x1 x3 σ hf
    · replace hf := (if_neg c3).symm.trans hf
      refine go_aload_n 0 dX12_serves_42 rfl rfl ?_
      refine go_iload_n 3 dX12_serves_43 rfl rfl ?_
      obtain ⟨r4, σ5, q6, hf⟩ := bnd_some hf
      refine go_Vi (av := [.int x3]) (rest := []) (t_X12_sentTo hs h0 q6) ok_X12_sentTo ml_X12_430 dX12_serves_44 h0 rfl rfl (by decide) (Nat.le_refl _) (Nat.le_refl _) (Nat.le_of_ble_eq_true rfl) ?_
      refine go_iload_n 1 dX12_serves_47 rfl rfl ?_
      refine go_iand dX12_serves_48 ?_
      refine go_if_eq 56 dX12_serves_49 (by decide) (fun c7 => ?_) (fun c7 => ?_)
      · replace hf := (if_pos c7).symm.trans hf
        refine go_msk [true, true, false, true] [some (.ref this), some (.int x1), none, some (.int x3)] rfl ?_
        exact w_X12_serves_56 hs h0 rec30 hrec30 x1 x3 σ5 hf
      · replace hf := (if_neg c7).symm.trans hf
        refine go_iconst 1 dX12_serves_52 (by decide) ?_
        refine go_goto 57 dX12_serves_53 (by decide) ?_
        refine go_msk [true, true, false, true] [some (.ref this), some (.int x1), none, some (.int x3)] rfl ?_
        exact w_X12_serves_57 hs h0 rec30 hrec30 x1 x3 1 σ5 hf
theorem w_X12_serves_30 {N : Nat} {Γ : SG} {ρ : Nat → Nat → Nat} (hs : Sh Γ ρ) {this : Nat} (h0 : Γ[this]? = some (0, 12)) {n0 : Nat} {r : Int32} {σr : St} : ∀ (n : Nat) (x1 : Int32) (x2 : Int32) (x3 : Int32) (σ : St), f_X12_serves_30 N ρ this n x1 x2 x3 σ = some (r, σr) → Go mX12_serves 7 0 0 n0 (Ki Γ ρ r σr) 0 0 30 [some (.ref this), some (.int x1), some (.int x2), some (.int x3)] [] (hp Γ ρ σ) := by
  intro n
  induction n with
  | zero => intro x1 x2 x3 σ hf; cases hf
  | succ n ih => intro x1 x2 x3 σ hf; exact v_X12_serves_30 hs h0 _ ih x1 x2 x3 σ hf
set_option maxRecDepth 100000 in
set_option maxHeartbeats 4000000 in
theorem w_X12_serves_27 {N : Nat} {Γ : SG} {ρ : Nat → Nat → Nat} (hs : Sh Γ ρ) {this : Nat} (h0 : Γ[this]? = some (0, 12)) {n0 : Nat} {r : Int32} {σr : St} (x1 : Int32) (s0 : Int32) (σ : St) (hf : f_X12_serves_27 N ρ this x1 s0 σ = some (r, σr)) : Go mX12_serves 7 0 0 n0 (Ki Γ ρ r σr) 0 0 27 [some (.ref this), some (.int x1), none, none] [.int s0] (hp Γ ρ σ) := by
  unfold f_X12_serves_27 at hf
  refine go_istore_n 2 [some (.ref this), some (.int x1), some (.int s0), none] dX12_serves_27 rfl (by decide) rfl ?_
  refine go_iconst 0 dX12_serves_28 (by decide) ?_
  refine go_istore_n 3 [some (.ref this), some (.int x1), some (.int s0), some (.int 0)] dX12_serves_29 rfl (by decide) rfl ?_
  exact w_X12_serves_30 hs h0 N x1 s0 0 σ hf
set_option maxRecDepth 100000 in
set_option maxHeartbeats 4000000 in
theorem w_X12_serves_26 {N : Nat} {Γ : SG} {ρ : Nat → Nat → Nat} (hs : Sh Γ ρ) {this : Nat} (h0 : Γ[this]? = some (0, 12)) {n0 : Nat} {r : Int32} {σr : St} (x1 : Int32) (σ : St) (hf : f_X12_serves_26 N ρ this x1 σ = some (r, σr)) : Go mX12_serves 7 0 0 n0 (Ki Γ ρ r σr) 0 0 26 [some (.ref this), some (.int x1), none, none] [] (hp Γ ρ σ) := by
  unfold f_X12_serves_26 at hf
  refine go_iconst 0 dX12_serves_26 (by decide) ?_
  exact w_X12_serves_27 hs h0 x1 0 σ hf
set_option maxRecDepth 100000 in
set_option maxHeartbeats 4000000 in
theorem t_X12_serves {N : Nat} {Γ : SG} {ρ : Nat → Nat → Nat} (hs : Sh Γ ρ) {this : Nat} (h0 : Γ[this]? = some (0, 12)) {σ : St} {r : Int32} {σr : St} (hf : f_X12_serves N ρ this σ = some (r, σr)) : Tri mX12_serves 7 0 0 [.ref this] (hp Γ ρ σ) (Ki Γ ρ r σr) := by
  unfold f_X12_serves at hf
  refine tri_of [some (.ref this), none, none, none] (plainFor_of_name rfl) rfl (Nat.le_of_ble_eq_true rfl) ?_
  refine go_aload_n 0 dX12_serves_0 rfl rfl ?_
  refine go_iconst 1 dX12_serves_1 (by decide) ?_
  obtain ⟨r8, σ9, q10, hf⟩ := bnd_some hf
  refine go_Vi (av := [.int 1]) (rest := []) (t_X12_whoFares hs h0 q10) ok_X12_whoFares ml_X12_475 dX12_serves_2 h0 rfl rfl (by decide) (Nat.le_refl _) (Nat.le_refl _) (Nat.le_of_ble_eq_true rfl) ?_
  refine go_istore_n 1 [some (.ref this), some (.int r8), none, none] dX12_serves_5 rfl (by decide) rfl ?_
  refine go_aload_n 0 dX12_serves_6 rfl rfl ?_
  refine go_iconst 2 dX12_serves_7 (by decide) ?_
  obtain ⟨r11, σ12, q13, hf⟩ := bnd_some hf
  refine go_Vi (av := [.int 2]) (rest := []) (t_X12_whoFares hs h0 q13) ok_X12_whoFares ml_X12_475 dX12_serves_8 h0 rfl rfl (by decide) (Nat.le_refl _) (Nat.le_refl _) (Nat.le_of_ble_eq_true rfl) ?_
  refine go_if_ne 26 dX12_serves_11 (by decide) (fun c14 => ?_) (fun c14 => ?_)
  · replace hf := (if_neg c14).symm.trans hf
    exact w_X12_serves_26 hs h0 r8 σ12 hf
  · replace hf := (if_pos c14).symm.trans hf
    refine go_aload_n 0 dX12_serves_14 rfl rfl ?_
    refine go_iconst 3 dX12_serves_15 (by decide) ?_
    obtain ⟨r15, σ16, q17, hf⟩ := bnd_some hf
    refine go_Vi (av := [.int 3]) (rest := []) (t_X12_whoFares hs h0 q17) ok_X12_whoFares ml_X12_475 dX12_serves_16 h0 rfl rfl (by decide) (Nat.le_refl _) (Nat.le_refl _) (Nat.le_of_ble_eq_true rfl) ?_
    refine go_if_ne 26 dX12_serves_19 (by decide) (fun c18 => ?_) (fun c18 => ?_)
    · replace hf := (if_neg c18).symm.trans hf
      exact w_X12_serves_26 hs h0 r8 σ16 hf
    · replace hf := (if_pos c18).symm.trans hf
      refine go_iconst 1 dX12_serves_22 (by decide) ?_
      refine go_goto 27 dX12_serves_23 (by decide) ?_
      exact w_X12_serves_27 hs h0 r8 1 σ16 hf
def f_X12_service_67 (N : Nat) (ρ : Nat → Nat → Nat) (this : Nat) (rec15 : Int32 → Int32 → St → Option (Int32 × St)) (x1 : Int32) (x2 : Int32) (σ : St) : Option (Int32 × St) :=
  rec15 x1 (x2 + 1) σ
def f_X12_service_85 (N : Nat) (ρ : Nat → Nat → Nat) (this : Nat) (s0 : Int32) (σ : St) : Option (Int32 × St) :=
  some (s0, σ)
def b_X12_service_15 (N : Nat) (ρ : Nat → Nat → Nat) (this : Nat) (rec15 : Int32 → Int32 → St → Option (Int32 × St)) (x1 : Int32) (x2 : Int32) (σ : St) : Option (Int32 × St) :=
  bnd (f_X12_power N ρ ((σ.1 this 49) + 1) (σ.1 this 50) σ) fun r1 σ2 =>
  if r1 ≤ (x2 : Int32) then
    if (x1 : Int32) = (1000000) then
      f_X12_service_85 N ρ this (-1) σ2
    else
      f_X12_service_85 N ρ this x1 σ2
  else
    bnd (f_X12_laySending N ρ this x2 σ2) fun r6 σ7 =>
    if (r6 : Int32) = 0 then
      f_X12_service_67 N ρ this rec15 x1 x2 σ7
    else
      bnd (f_X12_walkOf N ρ this σ7) fun r10 σ11 =>
      if x1 ≤ (r10 : Int32) then
        f_X12_service_67 N ρ this rec15 x1 x2 σ11
      else
        bnd (f_X12_serves N ρ this σ11) fun r14 σ15 =>
        if (r14 : Int32) = 0 then
          f_X12_service_67 N ρ this rec15 x1 x2 σ15
        else
          bnd (f_X12_walkOf N ρ this σ15) fun r18 σ19 =>
          bnd (f_X12_putSending N ρ this σ19) fun _ σ22 =>
          f_X12_service_67 N ρ this rec15 r18 x2 σ22
def f_X12_service_15 (N : Nat) (ρ : Nat → Nat → Nat) (this : Nat) : Nat → Int32 → Int32 → St → Option (Int32 × St)
  | 0, _, _, _ => none
  | n + 1, x1, x2, σ => b_X12_service_15 N ρ this (f_X12_service_15 N ρ this n) x1 x2 σ
def f_X12_service (N : Nat) (ρ : Nat → Nat → Nat) (this : Nat) (σ : St) : Option (Int32 × St) :=
  bnd (f_X12_fill N ρ this σ) fun _ σ25 =>
  nmd (sI σ25 this 65 0) fun σ27 =>
  f_X12_service_15 N ρ this N (1000000) 0 σ27
set_option maxRecDepth 100000 in
set_option maxHeartbeats 4000000 in
theorem w_X12_service_67 {N : Nat} {Γ : SG} {ρ : Nat → Nat → Nat} (hs : Sh Γ ρ) {this : Nat} (h0 : Γ[this]? = some (0, 12)) {n0 : Nat} {r : Int32} {σr : St} (rec15 : Int32 → Int32 → St → Option (Int32 × St)) (hrec15 : ∀ (x1 : Int32) (x2 : Int32) (σ : St), rec15 x1 x2 σ = some (r, σr) → Go mX12_service 8 0 0 n0 (Ki Γ ρ r σr) 0 0 15 [some (.ref this), some (.int x1), some (.int x2)] [] (hp Γ ρ σ)) (x1 : Int32) (x2 : Int32) (σ : St) (hf : f_X12_service_67 N ρ this rec15 x1 x2 σ = some (r, σr)) : Go mX12_service 8 0 0 n0 (Ki Γ ρ r σr) 0 0 67 [some (.ref this), some (.int x1), some (.int x2)] [] (hp Γ ρ σ) := by
  unfold f_X12_service_67 at hf
  refine go_iinc (x2 + 1) [some (.ref this), some (.int x1), some (.int (x2 + 1))] dX12_service_67 rfl rfl (by decide) rfl ?_
  refine go_goto 15 dX12_service_70 (by decide) ?_
  exact hrec15 x1 (x2 + 1) σ hf
set_option maxRecDepth 100000 in
set_option maxHeartbeats 4000000 in
theorem w_X12_service_85 {N : Nat} {Γ : SG} {ρ : Nat → Nat → Nat} (hs : Sh Γ ρ) {this : Nat} (h0 : Γ[this]? = some (0, 12)) {n0 : Nat} {r : Int32} {σr : St} (s0 : Int32) (σ : St) (hf : f_X12_service_85 N ρ this s0 σ = some (r, σr)) : Go mX12_service 8 0 0 n0 (Ki Γ ρ r σr) 0 0 85 [none, none, none] [.int s0] (hp Γ ρ σ) := by
  unfold f_X12_service_85 at hf
  cases hf
  exact go_iret rfl dX12_service_85 (Nat.le_refl _) ⟨rfl, rfl⟩
set_option maxRecDepth 100000 in
set_option maxHeartbeats 4000000 in
theorem v_X12_service_15 {N : Nat} {Γ : SG} {ρ : Nat → Nat → Nat} (hs : Sh Γ ρ) {this : Nat} (h0 : Γ[this]? = some (0, 12)) {n0 : Nat} {r : Int32} {σr : St} (rec15 : Int32 → Int32 → St → Option (Int32 × St)) (hrec15 : ∀ (x1 : Int32) (x2 : Int32) (σ : St), rec15 x1 x2 σ = some (r, σr) → Go mX12_service 8 0 0 n0 (Ki Γ ρ r σr) 0 0 15 [some (.ref this), some (.int x1), some (.int x2)] [] (hp Γ ρ σ)) (x1 : Int32) (x2 : Int32) (σ : St) (hf : b_X12_service_15 N ρ this rec15 x1 x2 σ = some (r, σr)) : Go mX12_service 8 0 0 n0 (Ki Γ ρ r σr) 0 0 15 [some (.ref this), some (.int x1), some (.int x2)] [] (hp Γ ρ σ) := by
  unfold b_X12_service_15 at hf
  refine go_iload_n 2 dX12_service_15 rfl rfl ?_
  refine go_aload_n 0 dX12_service_16 rfl rfl ?_
  refine go_fI fl_X12_392 dX12_service_17 h0 (by decide) rfl ?_
  refine go_iconst 1 dX12_service_20 (by decide) ?_
  refine go_iadd dX12_service_21 ?_
  refine go_aload_n 0 dX12_service_22 rfl rfl ?_
  refine go_fI fl_X12_395 dX12_service_23 h0 (by decide) rfl ?_
  obtain ⟨r1, σ2, q3, hf⟩ := bnd_some hf
  refine go_Si (av := [.int ((σ.1 this 49) + 1), .int (σ.1 this 50)]) (rest := [.int x2]) (t_X12_power hs  q3) ok_X12_power ml_X12_487 dX12_service_26 rfl rfl (by decide) (Nat.le_refl _) (Nat.le_refl _) (Nat.le_of_ble_eq_true rfl) ?_
  refine go_icmp_ge 73 dX12_service_29 (by decide) (fun c4 => ?_) (fun c4 => ?_)
  · replace hf := (if_pos c4).symm.trans hf
    refine go_iload_n 1 dX12_service_73 rfl rfl ?_
    refine go_ldcw (1000000) dX12_service_74 cn_X12_496 ?_
    refine go_icmp_ne 84 dX12_service_77 (by decide) (fun c5 => ?_) (fun c5 => ?_)
    · replace hf := (if_neg c5).symm.trans hf
      refine go_iload_n 1 dX12_service_84 rfl rfl ?_
      refine go_msk [false, false, false] [none, none, none] rfl ?_
      exact w_X12_service_85 hs h0 x1 σ2 hf
    · replace hf := (if_pos c5).symm.trans hf
      refine go_iconst (-1) dX12_service_80 (by decide) ?_
      refine go_goto 85 dX12_service_81 (by decide) ?_
      refine go_msk [false, false, false] [none, none, none] rfl ?_
      exact w_X12_service_85 hs h0 (-1) σ2 hf
  · replace hf := (if_neg c4).symm.trans hf
    refine go_aload_n 0 dX12_service_32 rfl rfl ?_
    refine go_iload_n 2 dX12_service_33 rfl rfl ?_
    obtain ⟨r6, σ7, q8, hf⟩ := bnd_some hf
    refine go_Vi (av := [.int x2]) (rest := []) (t_X12_laySending hs h0 q8) ok_X12_laySending ml_X12_490 dX12_service_34 h0 rfl rfl (by decide) (Nat.le_refl _) (Nat.le_refl _) (Nat.le_of_ble_eq_true rfl) ?_
    refine go_if_eq 67 dX12_service_37 (by decide) (fun c9 => ?_) (fun c9 => ?_)
    · replace hf := (if_pos c9).symm.trans hf
      exact w_X12_service_67 hs h0 rec15 hrec15 x1 x2 σ7 hf
    · replace hf := (if_neg c9).symm.trans hf
      refine go_aload_n 0 dX12_service_40 rfl rfl ?_
      obtain ⟨r10, σ11, q12, hf⟩ := bnd_some hf
      refine go_Vi (av := []) (rest := []) (t_X12_walkOf hs h0 q12) ok_X12_walkOf ml_X12_484 dX12_service_41 h0 rfl rfl (by decide) (Nat.le_refl _) (Nat.le_refl _) (Nat.le_of_ble_eq_true rfl) ?_
      refine go_iload_n 1 dX12_service_44 rfl rfl ?_
      refine go_icmp_ge 67 dX12_service_45 (by decide) (fun c13 => ?_) (fun c13 => ?_)
      · replace hf := (if_pos c13).symm.trans hf
        exact w_X12_service_67 hs h0 rec15 hrec15 x1 x2 σ11 hf
      · replace hf := (if_neg c13).symm.trans hf
        refine go_aload_n 0 dX12_service_48 rfl rfl ?_
        obtain ⟨r14, σ15, q16, hf⟩ := bnd_some hf
        refine go_Vi (av := []) (rest := []) (t_X12_serves hs h0 q16) ok_X12_serves ml_X12_497 dX12_service_49 h0 rfl rfl (by decide) (Nat.le_refl _) (Nat.le_refl _) (Nat.le_of_ble_eq_true rfl) ?_
        refine go_if_ne 58 dX12_service_52 (by decide) (fun c17 => ?_) (fun c17 => ?_)
        · replace hf := (if_neg c17).symm.trans hf
          refine go_aload_n 0 dX12_service_58 rfl rfl ?_
          obtain ⟨r18, σ19, q20, hf⟩ := bnd_some hf
          refine go_Vi (av := []) (rest := []) (t_X12_walkOf hs h0 q20) ok_X12_walkOf ml_X12_484 dX12_service_59 h0 rfl rfl (by decide) (Nat.le_refl _) (Nat.le_refl _) (Nat.le_of_ble_eq_true rfl) ?_
          refine go_istore_n 1 [some (.ref this), some (.int r18), some (.int x2)] dX12_service_62 rfl (by decide) rfl ?_
          refine go_aload_n 0 dX12_service_63 rfl rfl ?_
          obtain ⟨r21, σ22, q23, hf⟩ := bnd_some hf
          refine go_Vv (av := []) (rest := []) (t_X12_putSending hs h0 q23) ok_X12_putSending ml_X12_493 dX12_service_64 h0 rfl rfl (by decide) (Nat.le_refl _) (Nat.le_refl _) (Nat.le_of_ble_eq_true rfl) ?_
          exact w_X12_service_67 hs h0 rec15 hrec15 r18 x2 σ22 hf
        · replace hf := (if_pos c17).symm.trans hf
          refine go_goto 67 dX12_service_55 (by decide) ?_
          exact w_X12_service_67 hs h0 rec15 hrec15 x1 x2 σ15 hf
theorem w_X12_service_15 {N : Nat} {Γ : SG} {ρ : Nat → Nat → Nat} (hs : Sh Γ ρ) {this : Nat} (h0 : Γ[this]? = some (0, 12)) {n0 : Nat} {r : Int32} {σr : St} : ∀ (n : Nat) (x1 : Int32) (x2 : Int32) (σ : St), f_X12_service_15 N ρ this n x1 x2 σ = some (r, σr) → Go mX12_service 8 0 0 n0 (Ki Γ ρ r σr) 0 0 15 [some (.ref this), some (.int x1), some (.int x2)] [] (hp Γ ρ σ) := by
  intro n
  induction n with
  | zero => intro x1 x2 σ hf; cases hf
  | succ n ih => intro x1 x2 σ hf; exact v_X12_service_15 hs h0 _ ih x1 x2 σ hf
set_option maxRecDepth 100000 in
set_option maxHeartbeats 4000000 in
theorem t_X12_service {N : Nat} {Γ : SG} {ρ : Nat → Nat → Nat} (hs : Sh Γ ρ) {this : Nat} (h0 : Γ[this]? = some (0, 12)) {σ : St} {r : Int32} {σr : St} (hf : f_X12_service N ρ this σ = some (r, σr)) : Tri mX12_service 8 0 0 [.ref this] (hp Γ ρ σ) (Ki Γ ρ r σr) := by
  unfold f_X12_service at hf
  refine tri_of [some (.ref this), none, none] (plainFor_of_name rfl) rfl (Nat.le_of_ble_eq_true rfl) ?_
  refine go_aload_n 0 dX12_service_0 rfl rfl ?_
  obtain ⟨r24, σ25, q26, hf⟩ := bnd_some hf
  refine go_Vv (av := []) (rest := []) (t_X12_fill hs h0 q26) ok_X12_fill ml_X12_451 dX12_service_1 h0 rfl rfl (by decide) (Nat.le_refl _) (Nat.le_refl _) (Nat.le_of_ble_eq_true rfl) ?_
  refine go_aload_n 0 dX12_service_4 rfl rfl ?_
  refine go_iconst 0 dX12_service_5 (by decide) ?_
  obtain ⟨σ27, eσ27, hf⟩ := nmd_some hf
  refine go_pI fl_X12_419 ft_12_65 (okv_i _) dX12_service_6 h0 (by decide) rfl ?_
  rw [eσ27]
  refine go_ldcw (1000000) dX12_service_9 cn_X12_496 ?_
  refine go_istore_n 1 [some (.ref this), some (.int (1000000)), none] dX12_service_12 rfl (by decide) rfl ?_
  refine go_iconst 0 dX12_service_13 (by decide) ?_
  refine go_istore_n 2 [some (.ref this), some (.int (1000000)), some (.int 0)] dX12_service_14 rfl (by decide) rfl ?_
  exact w_X12_service_15 hs h0 N (1000000) 0 σ27 hf
def f_X12_sendJust_32 (N : Nat) (ρ : Nat → Nat → Nat) (this : Nat) (a1 : Int32) (a2 : Int32) (rec2 : Int32 → St → Option (Int32 × St)) (x3 : Int32) (s0 : Int32) (s1 : Int32) (σ : St) : Option (Int32 × St) :=
  gd (ib s1 22) <|
  nmd (sI σ (ρ this 57) s1.toNatClampNeg s0) fun σ2 =>
  rec2 (x3 + 1) σ2
def b_X12_sendJust_2 (N : Nat) (ρ : Nat → Nat → Nat) (this : Nat) (a1 : Int32) (a2 : Int32) (rec2 : Int32 → St → Option (Int32 × St)) (x3 : Int32) (σ : St) : Option (Int32 × St) :=
  if (σ.1 this 50) ≤ (x3 : Int32) then
    some (0, σ)
  else
    if ((a1 >>> (x3 &&& 31)) &&& 1 : Int32) = 1 then
      f_X12_sendJust_32 N ρ this a1 a2 rec2 x3 a2 (15 + x3) σ
    else
      f_X12_sendJust_32 N ρ this a1 a2 rec2 x3 (-1) (15 + x3) σ
def f_X12_sendJust_2 (N : Nat) (ρ : Nat → Nat → Nat) (this : Nat) (a1 : Int32) (a2 : Int32) : Nat → Int32 → St → Option (Int32 × St)
  | 0, _, _ => none
  | n + 1, x3, σ => b_X12_sendJust_2 N ρ this a1 a2 (f_X12_sendJust_2 N ρ this a1 a2 n) x3 σ
def f_X12_sendJust (N : Nat) (ρ : Nat → Nat → Nat) (this : Nat) (a1 : Int32) (a2 : Int32) (σ : St) : Option (Int32 × St) :=
  f_X12_sendJust_2 N ρ this a1 a2 N 0 σ
set_option maxRecDepth 100000 in
set_option maxHeartbeats 4000000 in
theorem w_X12_sendJust_32 {N : Nat} {Γ : SG} {ρ : Nat → Nat → Nat} (hs : Sh Γ ρ) {this : Nat} {a1 : Int32} {a2 : Int32} (h0 : Γ[this]? = some (0, 12)) {n0 : Nat} {r : Int32} {σr : St} (rec2 : Int32 → St → Option (Int32 × St)) (hrec2 : ∀ (x3 : Int32) (σ : St), rec2 x3 σ = some (r, σr) → Go mX12_sendJust 0 0 0 n0 (Kv Γ ρ σr) 0 0 2 [some (.ref this), some (.int a1), some (.int a2), some (.int x3)] [] (hp Γ ρ σ)) (x3 : Int32) (s0 : Int32) (s1 : Int32) (σ : St) (hf : f_X12_sendJust_32 N ρ this a1 a2 rec2 x3 s0 s1 σ = some (r, σr)) : Go mX12_sendJust 0 0 0 n0 (Kv Γ ρ σr) 0 0 32 [some (.ref this), some (.int a1), some (.int a2), some (.int x3)] [.int s0, .int s1, .ref (ρ this 57)] (hp Γ ρ σ) := by
  unfold f_X12_sendJust_32 at hf
  obtain ⟨g1, hf⟩ := gd_some hf
  obtain ⟨σ2, eσ2, hf⟩ := nmd_some hf
  refine go_wI dX12_sendJust_32 (hs.1 _ 12 57 h0 rfl) (ib_in g1) ?_
  rw [eσ2]
  refine go_iinc (x3 + 1) [some (.ref this), some (.int a1), some (.int a2), some (.int (x3 + 1))] dX12_sendJust_33 rfl rfl (by decide) rfl ?_
  refine go_goto 2 dX12_sendJust_36 (by decide) ?_
  exact hrec2 (x3 + 1) σ2 hf
set_option maxRecDepth 100000 in
set_option maxHeartbeats 4000000 in
theorem v_X12_sendJust_2 {N : Nat} {Γ : SG} {ρ : Nat → Nat → Nat} (hs : Sh Γ ρ) {this : Nat} {a1 : Int32} {a2 : Int32} (h0 : Γ[this]? = some (0, 12)) {n0 : Nat} {r : Int32} {σr : St} (rec2 : Int32 → St → Option (Int32 × St)) (hrec2 : ∀ (x3 : Int32) (σ : St), rec2 x3 σ = some (r, σr) → Go mX12_sendJust 0 0 0 n0 (Kv Γ ρ σr) 0 0 2 [some (.ref this), some (.int a1), some (.int a2), some (.int x3)] [] (hp Γ ρ σ)) (x3 : Int32) (σ : St) (hf : b_X12_sendJust_2 N ρ this a1 a2 rec2 x3 σ = some (r, σr)) : Go mX12_sendJust 0 0 0 n0 (Kv Γ ρ σr) 0 0 2 [some (.ref this), some (.int a1), some (.int a2), some (.int x3)] [] (hp Γ ρ σ) := by
  unfold b_X12_sendJust_2 at hf
  refine go_iload_n 3 dX12_sendJust_2 rfl rfl ?_
  refine go_aload_n 0 dX12_sendJust_3 rfl rfl ?_
  refine go_fI fl_X12_395 dX12_sendJust_4 h0 (by decide) rfl ?_
  refine go_icmp_ge 39 dX12_sendJust_7 (by decide) (fun c3 => ?_) (fun c3 => ?_)
  · replace hf := (if_pos c3).symm.trans hf
    cases hf
    exact go_vret rfl dX12_sendJust_39 (Nat.le_refl _) ⟨rfl, rfl⟩
  · replace hf := (if_neg c3).symm.trans hf
    refine go_aload_n 0 dX12_sendJust_10 rfl rfl ?_
    refine go_fR fl_X12_106 dX12_sendJust_11 h0 (by decide) rfl ?_
    refine go_bipush 15 dX12_sendJust_14 (by decide) ?_
    refine go_iload_n 3 dX12_sendJust_16 rfl rfl ?_
    refine go_iadd dX12_sendJust_17 ?_
    refine go_iload_n 1 dX12_sendJust_18 rfl rfl ?_
    refine go_iload_n 3 dX12_sendJust_19 rfl rfl ?_
    refine go_ishr dX12_sendJust_20 ?_
    refine go_iconst 1 dX12_sendJust_21 (by decide) ?_
    refine go_iand dX12_sendJust_22 ?_
    refine go_iconst 1 dX12_sendJust_23 (by decide) ?_
    refine go_icmp_ne 31 dX12_sendJust_24 (by decide) (fun c4 => ?_) (fun c4 => ?_)
    · replace hf := (if_neg c4).symm.trans hf
      refine go_iconst (-1) dX12_sendJust_31 (by decide) ?_
      exact w_X12_sendJust_32 hs h0 rec2 hrec2 x3 (-1) (15 + x3) σ hf
    · replace hf := (if_pos c4).symm.trans hf
      refine go_iload_n 2 dX12_sendJust_27 rfl rfl ?_
      refine go_goto 32 dX12_sendJust_28 (by decide) ?_
      exact w_X12_sendJust_32 hs h0 rec2 hrec2 x3 a2 (15 + x3) σ hf
theorem w_X12_sendJust_2 {N : Nat} {Γ : SG} {ρ : Nat → Nat → Nat} (hs : Sh Γ ρ) {this : Nat} {a1 : Int32} {a2 : Int32} (h0 : Γ[this]? = some (0, 12)) {n0 : Nat} {r : Int32} {σr : St} : ∀ (n : Nat) (x3 : Int32) (σ : St), f_X12_sendJust_2 N ρ this a1 a2 n x3 σ = some (r, σr) → Go mX12_sendJust 0 0 0 n0 (Kv Γ ρ σr) 0 0 2 [some (.ref this), some (.int a1), some (.int a2), some (.int x3)] [] (hp Γ ρ σ) := by
  intro n
  induction n with
  | zero => intro x3 σ hf; cases hf
  | succ n ih => intro x3 σ hf; exact v_X12_sendJust_2 hs h0 _ ih x3 σ hf
set_option maxRecDepth 100000 in
set_option maxHeartbeats 4000000 in
theorem t_X12_sendJust {N : Nat} {Γ : SG} {ρ : Nat → Nat → Nat} (hs : Sh Γ ρ) {this : Nat} {a1 : Int32} {a2 : Int32} (h0 : Γ[this]? = some (0, 12)) {σ : St} {r : Int32} {σr : St} (hf : f_X12_sendJust N ρ this a1 a2 σ = some (r, σr)) : Tri mX12_sendJust 0 0 0 [.ref this, .int a1, .int a2] (hp Γ ρ σ) (Kv Γ ρ σr) := by
  unfold f_X12_sendJust at hf
  refine tri_of [some (.ref this), some (.int a1), some (.int a2), none] (plainFor_of_name rfl) rfl (Nat.le_of_ble_eq_true rfl) ?_
  refine go_iconst 0 dX12_sendJust_0 (by decide) ?_
  refine go_istore_n 3 [some (.ref this), some (.int a1), some (.int a2), some (.int 0)] dX12_sendJust_1 rfl (by decide) rfl ?_
  exact w_X12_sendJust_2 hs h0 N 0 σ hf
def f_X12_team_17 (N : Nat) (ρ : Nat → Nat → Nat) (this : Nat) (a1 : Int32) (a2 : Int32) (σ : St) : Option (Int32 × St) :=
  some ((-1), σ)
def f_X12_team_92 (N : Nat) (ρ : Nat → Nat → Nat) (this : Nat) (a1 : Int32) (a2 : Int32) (rec28 : Int32 → Int32 → St → Option (Int32 × St)) (x3 : Int32) (x4 : Int32) (σ : St) : Option (Int32 × St) :=
  rec28 x3 (x4 + 1) σ
def f_X12_team_72 (N : Nat) (ρ : Nat → Nat → Nat) (this : Nat) (a1 : Int32) (a2 : Int32) (rec28 : Int32 → Int32 → St → Option (Int32 × St)) (x3 : Int32) (x4 : Int32) (σ : St) : Option (Int32 × St) :=
  bnd (f_X12_sendJust N ρ this x4 a1 σ) fun _ σ2 =>
  bnd (f_X12_whoFares N ρ this 1 σ2) fun r4 σ5 =>
  if (r4 : Int32) = x4 then
    f_X12_team_92 N ρ this a1 a2 rec28 x4 x4 σ5
  else
    f_X12_team_92 N ρ this a1 a2 rec28 x3 x4 σ5
def f_X12_team_118 (N : Nat) (ρ : Nat → Nat → Nat) (this : Nat) (a1 : Int32) (a2 : Int32) (s0 : Int32) (σ : St) : Option (Int32 × St) :=
  some (s0, σ)
def b_X12_team_28 (N : Nat) (ρ : Nat → Nat → Nat) (this : Nat) (a1 : Int32) (a2 : Int32) (rec28 : Int32 → Int32 → St → Option (Int32 × St)) (x3 : Int32) (x4 : Int32) (σ : St) : Option (Int32 × St) :=
  if (1 <<< ((σ.1 this 50) &&& 31)) ≤ (x4 : Int32) then
    if 0 ≤ (x3 : Int32) then
      if (a2 : Int32) = 0 then
        bnd (f_X12_members N ρ x3 σ) fun r11 σ12 =>
        f_X12_team_118 N ρ this a1 a2 r11 σ12
      else
        f_X12_team_118 N ρ this a1 a2 x3 σ
    else
      f_X12_team_118 N ρ this a1 a2 (-1) σ
  else
    bnd (f_X12_members N ρ x4 σ) fun r14 σ15 =>
    gd (ib a1 6) <|
    if (σ15.1 (ρ this 38) a1.toNatClampNeg) < (r14 : Int32) then
      f_X12_team_92 N ρ this a1 a2 rec28 x3 x4 σ15
    else
      if (x3 : Int32) < 0 then
        f_X12_team_72 N ρ this a1 a2 rec28 x3 x4 σ15
      else
        bnd (f_X12_members N ρ x4 σ15) fun r20 σ21 =>
        bnd (f_X12_members N ρ x3 σ21) fun r23 σ24 =>
        if (r20 : Int32) < r23 then
          f_X12_team_72 N ρ this a1 a2 rec28 x3 x4 σ24
        else
          f_X12_team_92 N ρ this a1 a2 rec28 x3 x4 σ24
def f_X12_team_28 (N : Nat) (ρ : Nat → Nat → Nat) (this : Nat) (a1 : Int32) (a2 : Int32) : Nat → Int32 → Int32 → St → Option (Int32 × St)
  | 0, _, _, _ => none
  | n + 1, x3, x4, σ => b_X12_team_28 N ρ this a1 a2 (f_X12_team_28 N ρ this a1 a2 n) x3 x4 σ
def f_X12_team (N : Nat) (ρ : Nat → Nat → Nat) (this : Nat) (a1 : Int32) (a2 : Int32) (σ : St) : Option (Int32 × St) :=
  bnd (f_X12_isHearth N ρ this a1 σ) fun r27 σ28 =>
  if (r27 : Int32) = 0 then
    f_X12_team_17 N ρ this a1 a2 σ28
  else
    bnd (f_X12_isIn N ρ a2 0 1 σ28) fun r31 σ32 =>
    if (r31 : Int32) = 0 then
      f_X12_team_17 N ρ this a1 a2 σ32
    else
      bnd (f_X12_fill N ρ this σ32) fun _ σ36 =>
      f_X12_team_28 N ρ this a1 a2 N (-1) 1 σ36
set_option maxRecDepth 100000 in
set_option maxHeartbeats 4000000 in
theorem w_X12_team_17 {N : Nat} {Γ : SG} {ρ : Nat → Nat → Nat} (hs : Sh Γ ρ) {this : Nat} {a1 : Int32} {a2 : Int32} (h0 : Γ[this]? = some (0, 12)) {n0 : Nat} {r : Int32} {σr : St} (σ : St) (hf : f_X12_team_17 N ρ this a1 a2 σ = some (r, σr)) : Go mX12_team 7 0 0 n0 (Ki Γ ρ r σr) 0 0 17 [none, none, none, none, none] [] (hp Γ ρ σ) := by
  unfold f_X12_team_17 at hf
  refine go_iconst (-1) dX12_team_17 (by decide) ?_
  cases hf
  exact go_iret rfl dX12_team_18 (Nat.le_refl _) ⟨rfl, rfl⟩
set_option maxRecDepth 100000 in
set_option maxHeartbeats 4000000 in
theorem w_X12_team_92 {N : Nat} {Γ : SG} {ρ : Nat → Nat → Nat} (hs : Sh Γ ρ) {this : Nat} {a1 : Int32} {a2 : Int32} (h0 : Γ[this]? = some (0, 12)) {n0 : Nat} {r : Int32} {σr : St} (rec28 : Int32 → Int32 → St → Option (Int32 × St)) (hrec28 : ∀ (x3 : Int32) (x4 : Int32) (σ : St), rec28 x3 x4 σ = some (r, σr) → Go mX12_team 7 0 0 n0 (Ki Γ ρ r σr) 0 0 28 [some (.ref this), some (.int a1), some (.int a2), some (.int x3), some (.int x4)] [] (hp Γ ρ σ)) (x3 : Int32) (x4 : Int32) (σ : St) (hf : f_X12_team_92 N ρ this a1 a2 rec28 x3 x4 σ = some (r, σr)) : Go mX12_team 7 0 0 n0 (Ki Γ ρ r σr) 0 0 92 [some (.ref this), some (.int a1), some (.int a2), some (.int x3), some (.int x4)] [] (hp Γ ρ σ) := by
  unfold f_X12_team_92 at hf
  refine go_iinc (x4 + 1) [some (.ref this), some (.int a1), some (.int a2), some (.int x3), some (.int (x4 + 1))] dX12_team_92 rfl rfl (by decide) rfl ?_
  refine go_goto 28 dX12_team_95 (by decide) ?_
  exact hrec28 x3 (x4 + 1) σ hf
set_option maxRecDepth 100000 in
set_option maxHeartbeats 4000000 in
theorem w_X12_team_72 {N : Nat} {Γ : SG} {ρ : Nat → Nat → Nat} (hs : Sh Γ ρ) {this : Nat} {a1 : Int32} {a2 : Int32} (h0 : Γ[this]? = some (0, 12)) {n0 : Nat} {r : Int32} {σr : St} (rec28 : Int32 → Int32 → St → Option (Int32 × St)) (hrec28 : ∀ (x3 : Int32) (x4 : Int32) (σ : St), rec28 x3 x4 σ = some (r, σr) → Go mX12_team 7 0 0 n0 (Ki Γ ρ r σr) 0 0 28 [some (.ref this), some (.int a1), some (.int a2), some (.int x3), some (.int x4)] [] (hp Γ ρ σ)) (x3 : Int32) (x4 : Int32) (σ : St) (hf : f_X12_team_72 N ρ this a1 a2 rec28 x3 x4 σ = some (r, σr)) : Go mX12_team 7 0 0 n0 (Ki Γ ρ r σr) 0 0 72 [some (.ref this), some (.int a1), some (.int a2), some (.int x3), some (.int x4)] [] (hp Γ ρ σ) := by
  unfold f_X12_team_72 at hf
  refine go_aload_n 0 dX12_team_72 rfl rfl ?_
  refine go_iload dX12_team_73 rfl ?_
  refine go_iload_n 1 dX12_team_75 rfl rfl ?_
  obtain ⟨r1, σ2, q3, hf⟩ := bnd_some hf
  refine go_Vv (av := [.int x4, .int a1]) (rest := []) (t_X12_sendJust hs h0 q3) ok_X12_sendJust ml_X12_500 dX12_team_76 h0 rfl rfl (by decide) (Nat.le_refl _) (Nat.le_refl _) (Nat.le_of_ble_eq_true rfl) ?_
  refine go_aload_n 0 dX12_team_79 rfl rfl ?_
  refine go_iconst 1 dX12_team_80 (by decide) ?_
  obtain ⟨r4, σ5, q6, hf⟩ := bnd_some hf
  refine go_Vi (av := [.int 1]) (rest := []) (t_X12_whoFares hs h0 q6) ok_X12_whoFares ml_X12_475 dX12_team_81 h0 rfl rfl (by decide) (Nat.le_refl _) (Nat.le_refl _) (Nat.le_of_ble_eq_true rfl) ?_
  refine go_iload dX12_team_84 rfl ?_
  refine go_icmp_ne 92 dX12_team_86 (by decide) (fun c7 => ?_) (fun c7 => ?_)
  · replace hf := (if_neg c7).symm.trans hf
    exact w_X12_team_92 hs h0 rec28 hrec28 x3 x4 σ5 hf
  · replace hf := (if_pos c7).symm.trans hf
    refine go_iload dX12_team_89 rfl ?_
    refine go_istore_n 3 [some (.ref this), some (.int a1), some (.int a2), some (.int x4), some (.int x4)] dX12_team_91 rfl (by decide) rfl ?_
    exact w_X12_team_92 hs h0 rec28 hrec28 x4 x4 σ5 hf
set_option maxRecDepth 100000 in
set_option maxHeartbeats 4000000 in
theorem w_X12_team_118 {N : Nat} {Γ : SG} {ρ : Nat → Nat → Nat} (hs : Sh Γ ρ) {this : Nat} {a1 : Int32} {a2 : Int32} (h0 : Γ[this]? = some (0, 12)) {n0 : Nat} {r : Int32} {σr : St} (s0 : Int32) (σ : St) (hf : f_X12_team_118 N ρ this a1 a2 s0 σ = some (r, σr)) : Go mX12_team 7 0 0 n0 (Ki Γ ρ r σr) 0 0 118 [none, none, none, none, none] [.int s0] (hp Γ ρ σ) := by
  unfold f_X12_team_118 at hf
  cases hf
  exact go_iret rfl dX12_team_118 (Nat.le_refl _) ⟨rfl, rfl⟩
set_option maxRecDepth 100000 in
set_option maxHeartbeats 4000000 in
theorem v_X12_team_28 {N : Nat} {Γ : SG} {ρ : Nat → Nat → Nat} (hs : Sh Γ ρ) {this : Nat} {a1 : Int32} {a2 : Int32} (h0 : Γ[this]? = some (0, 12)) {n0 : Nat} {r : Int32} {σr : St} (rec28 : Int32 → Int32 → St → Option (Int32 × St)) (hrec28 : ∀ (x3 : Int32) (x4 : Int32) (σ : St), rec28 x3 x4 σ = some (r, σr) → Go mX12_team 7 0 0 n0 (Ki Γ ρ r σr) 0 0 28 [some (.ref this), some (.int a1), some (.int a2), some (.int x3), some (.int x4)] [] (hp Γ ρ σ)) (x3 : Int32) (x4 : Int32) (σ : St) (hf : b_X12_team_28 N ρ this a1 a2 rec28 x3 x4 σ = some (r, σr)) : Go mX12_team 7 0 0 n0 (Ki Γ ρ r σr) 0 0 28 [some (.ref this), some (.int a1), some (.int a2), some (.int x3), some (.int x4)] [] (hp Γ ρ σ) := by
  unfold b_X12_team_28 at hf
  refine go_iload dX12_team_28 rfl ?_
  refine go_iconst 1 dX12_team_30 (by decide) ?_
  refine go_aload_n 0 dX12_team_31 rfl rfl ?_
  refine go_fI fl_X12_395 dX12_team_32 h0 (by decide) rfl ?_
  refine go_ishl dX12_team_35 ?_
  refine go_icmp_ge 98 dX12_team_36 (by decide) (fun c8 => ?_) (fun c8 => ?_)
  · replace hf := (if_pos c8).symm.trans hf
    refine go_iload_n 3 dX12_team_98 rfl rfl ?_
    refine go_if_ge 106 dX12_team_99 (by decide) (fun c9 => ?_) (fun c9 => ?_)
    · replace hf := (if_pos c9).symm.trans hf
      refine go_iload_n 2 dX12_team_106 rfl rfl ?_
      refine go_if_ne 117 dX12_team_107 (by decide) (fun c10 => ?_) (fun c10 => ?_)
      · replace hf := (if_neg c10).symm.trans hf
        refine go_iload_n 3 dX12_team_117 rfl rfl ?_
        refine go_msk [false, false, false, false, false] [none, none, none, none, none] rfl ?_
        exact w_X12_team_118 hs h0 x3 σ hf
      · replace hf := (if_pos c10).symm.trans hf
        refine go_iload_n 3 dX12_team_110 rfl rfl ?_
        obtain ⟨r11, σ12, q13, hf⟩ := bnd_some hf
        refine go_Si (av := [.int x3]) (rest := []) (t_X12_members hs  q13) ok_X12_members ml_X12_433 dX12_team_111 rfl rfl (by decide) (Nat.le_refl _) (Nat.le_refl _) (Nat.le_of_ble_eq_true rfl) ?_
        refine go_goto 118 dX12_team_114 (by decide) ?_
        refine go_msk [false, false, false, false, false] [none, none, none, none, none] rfl ?_
        exact w_X12_team_118 hs h0 r11 σ12 hf
    · replace hf := (if_neg c9).symm.trans hf
      refine go_iconst (-1) dX12_team_102 (by decide) ?_
      refine go_goto 118 dX12_team_103 (by decide) ?_
      refine go_msk [false, false, false, false, false] [none, none, none, none, none] rfl ?_
      exact w_X12_team_118 hs h0 (-1) σ hf
  · replace hf := (if_neg c8).symm.trans hf
    refine go_iload dX12_team_39 rfl ?_
    obtain ⟨r14, σ15, q16, hf⟩ := bnd_some hf
    refine go_Si (av := [.int x4]) (rest := []) (t_X12_members hs  q16) ok_X12_members ml_X12_433 dX12_team_41 rfl rfl (by decide) (Nat.le_refl _) (Nat.le_refl _) (Nat.le_of_ble_eq_true rfl) ?_
    refine go_aload_n 0 dX12_team_44 rfl rfl ?_
    refine go_fR fl_X12_82 dX12_team_45 h0 (by decide) rfl ?_
    refine go_iload_n 1 dX12_team_48 rfl rfl ?_
    obtain ⟨g17, hf⟩ := gd_some hf
    refine go_rI dX12_team_49 (hs.1 _ 12 38 h0 rfl) (ib_in g17) ?_
    refine go_icmp_gt 92 dX12_team_50 (by decide) (fun c18 => ?_) (fun c18 => ?_)
    · replace hf := (if_pos c18).symm.trans hf
      exact w_X12_team_92 hs h0 rec28 hrec28 x3 x4 σ15 hf
    · replace hf := (if_neg c18).symm.trans hf
      refine go_iload_n 3 dX12_team_53 rfl rfl ?_
      refine go_if_lt 72 dX12_team_54 (by decide) (fun c19 => ?_) (fun c19 => ?_)
      · replace hf := (if_pos c19).symm.trans hf
        exact w_X12_team_72 hs h0 rec28 hrec28 x3 x4 σ15 hf
      · replace hf := (if_neg c19).symm.trans hf
        refine go_iload dX12_team_57 rfl ?_
        obtain ⟨r20, σ21, q22, hf⟩ := bnd_some hf
        refine go_Si (av := [.int x4]) (rest := []) (t_X12_members hs  q22) ok_X12_members ml_X12_433 dX12_team_59 rfl rfl (by decide) (Nat.le_refl _) (Nat.le_refl _) (Nat.le_of_ble_eq_true rfl) ?_
        refine go_iload_n 3 dX12_team_62 rfl rfl ?_
        obtain ⟨r23, σ24, q25, hf⟩ := bnd_some hf
        refine go_Si (av := [.int x3]) (rest := [.int r20]) (t_X12_members hs  q25) ok_X12_members ml_X12_433 dX12_team_63 rfl rfl (by decide) (Nat.le_refl _) (Nat.le_refl _) (Nat.le_of_ble_eq_true rfl) ?_
        refine go_icmp_lt 72 dX12_team_66 (by decide) (fun c26 => ?_) (fun c26 => ?_)
        · replace hf := (if_pos c26).symm.trans hf
          exact w_X12_team_72 hs h0 rec28 hrec28 x3 x4 σ24 hf
        · replace hf := (if_neg c26).symm.trans hf
          refine go_goto 92 dX12_team_69 (by decide) ?_
          exact w_X12_team_92 hs h0 rec28 hrec28 x3 x4 σ24 hf
theorem w_X12_team_28 {N : Nat} {Γ : SG} {ρ : Nat → Nat → Nat} (hs : Sh Γ ρ) {this : Nat} {a1 : Int32} {a2 : Int32} (h0 : Γ[this]? = some (0, 12)) {n0 : Nat} {r : Int32} {σr : St} : ∀ (n : Nat) (x3 : Int32) (x4 : Int32) (σ : St), f_X12_team_28 N ρ this a1 a2 n x3 x4 σ = some (r, σr) → Go mX12_team 7 0 0 n0 (Ki Γ ρ r σr) 0 0 28 [some (.ref this), some (.int a1), some (.int a2), some (.int x3), some (.int x4)] [] (hp Γ ρ σ) := by
  intro n
  induction n with
  | zero => intro x3 x4 σ hf; cases hf
  | succ n ih => intro x3 x4 σ hf; exact v_X12_team_28 hs h0 _ ih x3 x4 σ hf
set_option maxRecDepth 100000 in
set_option maxHeartbeats 4000000 in
theorem t_X12_team {N : Nat} {Γ : SG} {ρ : Nat → Nat → Nat} (hs : Sh Γ ρ) {this : Nat} {a1 : Int32} {a2 : Int32} (h0 : Γ[this]? = some (0, 12)) {σ : St} {r : Int32} {σr : St} (hf : f_X12_team N ρ this a1 a2 σ = some (r, σr)) : Tri mX12_team 7 0 0 [.ref this, .int a1, .int a2] (hp Γ ρ σ) (Ki Γ ρ r σr) := by
  unfold f_X12_team at hf
  refine tri_of [some (.ref this), some (.int a1), some (.int a2), none, none] (plainFor_of_name rfl) rfl (Nat.le_of_ble_eq_true rfl) ?_
  refine go_aload_n 0 dX12_team_0 rfl rfl ?_
  refine go_iload_n 1 dX12_team_1 rfl rfl ?_
  obtain ⟨r27, σ28, q29, hf⟩ := bnd_some hf
  refine go_Vi (av := [.int a1]) (rest := []) (t_X12_isHearth hs h0 q29) ok_X12_isHearth ml_X12_448 dX12_team_2 h0 rfl rfl (by decide) (Nat.le_refl _) (Nat.le_refl _) (Nat.le_of_ble_eq_true rfl) ?_
  refine go_if_eq 17 dX12_team_5 (by decide) (fun c30 => ?_) (fun c30 => ?_)
  · replace hf := (if_pos c30).symm.trans hf
    refine go_msk [false, false, false, false, false] [none, none, none, none, none] rfl ?_
    exact w_X12_team_17 hs h0 σ28 hf
  · replace hf := (if_neg c30).symm.trans hf
    refine go_iload_n 2 dX12_team_8 rfl rfl ?_
    refine go_iconst 0 dX12_team_9 (by decide) ?_
    refine go_iconst 1 dX12_team_10 (by decide) ?_
    obtain ⟨r31, σ32, q33, hf⟩ := bnd_some hf
    refine go_Si (av := [.int a2, .int 0, .int 1]) (rest := []) (t_X12_isIn hs  q33) ok_X12_isIn ml_X12_422 dX12_team_11 rfl rfl (by decide) (Nat.le_refl _) (Nat.le_refl _) (Nat.le_of_ble_eq_true rfl) ?_
    refine go_if_ne 19 dX12_team_14 (by decide) (fun c34 => ?_) (fun c34 => ?_)
    · replace hf := (if_neg c34).symm.trans hf
      refine go_aload_n 0 dX12_team_19 rfl rfl ?_
      obtain ⟨r35, σ36, q37, hf⟩ := bnd_some hf
      refine go_Vv (av := []) (rest := []) (t_X12_fill hs h0 q37) ok_X12_fill ml_X12_451 dX12_team_20 h0 rfl rfl (by decide) (Nat.le_refl _) (Nat.le_refl _) (Nat.le_of_ble_eq_true rfl) ?_
      refine go_iconst (-1) dX12_team_23 (by decide) ?_
      refine go_istore_n 3 [some (.ref this), some (.int a1), some (.int a2), some (.int (-1)), none] dX12_team_24 rfl (by decide) rfl ?_
      refine go_iconst 1 dX12_team_25 (by decide) ?_
      refine go_istore [some (.ref this), some (.int a1), some (.int a2), some (.int (-1)), some (.int 1)] dX12_team_26 (by decide) rfl ?_
      exact w_X12_team_28 hs h0 N (-1) 1 σ36 hf
    · replace hf := (if_pos c34).symm.trans hf
      refine go_msk [false, false, false, false, false] [none, none, none, none, none] rfl ?_
      exact w_X12_team_17 hs h0 σ32 hf
def f_X12_countsAlone_22 (N : Nat) (ρ : Nat → Nat → Nat) (this : Nat) (a1 : Int32) (a2 : Int32) (s0 : Int32) (σ : St) : Option (Int32 × St) :=
  gd (bb s0) <|
  some (s0, σ)
def f_X12_countsAlone (N : Nat) (ρ : Nat → Nat → Nat) (this : Nat) (a1 : Int32) (a2 : Int32) (σ : St) : Option (Int32 × St) :=
  bnd (f_X12_sendJust N ρ this (1 <<< (a1 &&& 31)) a2 σ) fun _ σ3 =>
  bnd (f_X12_fareOf N ρ this a1 σ3) fun r5 σ6 =>
  if (r5 : Int32) = 1 then
    f_X12_countsAlone_22 N ρ this a1 a2 1 σ6
  else
    f_X12_countsAlone_22 N ρ this a1 a2 0 σ6
set_option maxRecDepth 100000 in
set_option maxHeartbeats 4000000 in
theorem w_X12_countsAlone_22 {N : Nat} {Γ : SG} {ρ : Nat → Nat → Nat} (hs : Sh Γ ρ) {this : Nat} {a1 : Int32} {a2 : Int32} (h0 : Γ[this]? = some (0, 12)) {n0 : Nat} {r : Int32} {σr : St} (s0 : Int32) (σ : St) (hf : f_X12_countsAlone_22 N ρ this a1 a2 s0 σ = some (r, σr)) : Go mX12_countsAlone 6 0 0 n0 (Ki Γ ρ r σr) 0 0 22 [none, none, none] [.int s0] (hp Γ ρ σ) := by
  unfold f_X12_countsAlone_22 at hf
  obtain ⟨g1, hf⟩ := gd_some hf
  cases hf
  exact go_zret rfl (bb_of g1) dX12_countsAlone_22 (Nat.le_refl _) ⟨rfl, rfl⟩
set_option maxRecDepth 100000 in
set_option maxHeartbeats 4000000 in
theorem t_X12_countsAlone {N : Nat} {Γ : SG} {ρ : Nat → Nat → Nat} (hs : Sh Γ ρ) {this : Nat} {a1 : Int32} {a2 : Int32} (h0 : Γ[this]? = some (0, 12)) {σ : St} {r : Int32} {σr : St} (hf : f_X12_countsAlone N ρ this a1 a2 σ = some (r, σr)) : Tri mX12_countsAlone 6 0 0 [.ref this, .int a1, .int a2] (hp Γ ρ σ) (Ki Γ ρ r σr) := by
  unfold f_X12_countsAlone at hf
  refine tri_of [some (.ref this), some (.int a1), some (.int a2)] (plainFor_of_name rfl) rfl (Nat.le_of_ble_eq_true rfl) ?_
  refine go_aload_n 0 dX12_countsAlone_0 rfl rfl ?_
  refine go_iconst 1 dX12_countsAlone_1 (by decide) ?_
  refine go_iload_n 1 dX12_countsAlone_2 rfl rfl ?_
  refine go_ishl dX12_countsAlone_3 ?_
  refine go_iload_n 2 dX12_countsAlone_4 rfl rfl ?_
  obtain ⟨r2, σ3, q4, hf⟩ := bnd_some hf
  refine go_Vv (av := [.int (1 <<< (a1 &&& 31)), .int a2]) (rest := []) (t_X12_sendJust hs h0 q4) ok_X12_sendJust ml_X12_500 dX12_countsAlone_5 h0 rfl rfl (by decide) (Nat.le_refl _) (Nat.le_refl _) (Nat.le_of_ble_eq_true rfl) ?_
  refine go_aload_n 0 dX12_countsAlone_8 rfl rfl ?_
  refine go_iload_n 1 dX12_countsAlone_9 rfl rfl ?_
  obtain ⟨r5, σ6, q7, hf⟩ := bnd_some hf
  refine go_Vi (av := [.int a1]) (rest := []) (t_X12_fareOf hs h0 q7) ok_X12_fareOf ml_X12_445 dX12_countsAlone_10 h0 rfl rfl (by decide) (Nat.le_refl _) (Nat.le_refl _) (Nat.le_of_ble_eq_true rfl) ?_
  refine go_iconst 1 dX12_countsAlone_13 (by decide) ?_
  refine go_icmp_ne 21 dX12_countsAlone_14 (by decide) (fun c8 => ?_) (fun c8 => ?_)
  · replace hf := (if_neg c8).symm.trans hf
    refine go_iconst 0 dX12_countsAlone_21 (by decide) ?_
    refine go_msk [false, false, false] [none, none, none] rfl ?_
    exact w_X12_countsAlone_22 hs h0 0 σ6 hf
  · replace hf := (if_pos c8).symm.trans hf
    refine go_iconst 1 dX12_countsAlone_17 (by decide) ?_
    refine go_goto 22 dX12_countsAlone_18 (by decide) ?_
    refine go_msk [false, false, false] [none, none, none] rfl ?_
    exact w_X12_countsAlone_22 hs h0 1 σ6 hf
def f_X12_lasts_16 (N : Nat) (ρ : Nat → Nat → Nat) (this : Nat) (a1 : Int32) (a2 : Int32) (σ : St) : Option (Int32 × St) :=
  some ((-1), σ)
def b_X12_lasts_24 (N : Nat) (ρ : Nat → Nat → Nat) (this : Nat) (a1 : Int32) (a2 : Int32) (rec24 : Int32 → St → Option (Int32 × St)) (x3 : Int32) (σ : St) : Option (Int32 × St) :=
  if 60 < (x3 : Int32) then
    some ((-1), σ)
  else
    bnd (f_X12_countsAlone N ρ this a1 a2 σ) fun r2 σ3 =>
    if (r2 : Int32) = 0 then
      some (x3, σ3)
    else
      bnd (f_X12_goEvening N ρ this 0 σ3) fun _ σ7 =>
      rec24 (x3 + 1) σ7
def f_X12_lasts_24 (N : Nat) (ρ : Nat → Nat → Nat) (this : Nat) (a1 : Int32) (a2 : Int32) : Nat → Int32 → St → Option (Int32 × St)
  | 0, _, _ => none
  | n + 1, x3, σ => b_X12_lasts_24 N ρ this a1 a2 (f_X12_lasts_24 N ρ this a1 a2 n) x3 σ
def f_X12_lasts (N : Nat) (ρ : Nat → Nat → Nat) (this : Nat) (a1 : Int32) (a2 : Int32) (σ : St) : Option (Int32 × St) :=
  bnd (f_X12_isStool N ρ this a1 σ) fun r9 σ10 =>
  if (r9 : Int32) = 0 then
    f_X12_lasts_16 N ρ this a1 a2 σ10
  else
    bnd (f_X12_isHearth N ρ this a2 σ10) fun r13 σ14 =>
    if (r13 : Int32) = 0 then
      f_X12_lasts_16 N ρ this a1 a2 σ14
    else
      bnd (f_X12_fill N ρ this σ14) fun _ σ18 =>
      f_X12_lasts_24 N ρ this a1 a2 N 0 σ18
set_option maxRecDepth 100000 in
set_option maxHeartbeats 4000000 in
theorem w_X12_lasts_16 {N : Nat} {Γ : SG} {ρ : Nat → Nat → Nat} (hs : Sh Γ ρ) {this : Nat} {a1 : Int32} {a2 : Int32} (h0 : Γ[this]? = some (0, 12)) {n0 : Nat} {r : Int32} {σr : St} (σ : St) (hf : f_X12_lasts_16 N ρ this a1 a2 σ = some (r, σr)) : Go mX12_lasts 7 0 0 n0 (Ki Γ ρ r σr) 0 0 16 [none, none, none, none] [] (hp Γ ρ σ) := by
  unfold f_X12_lasts_16 at hf
  refine go_iconst (-1) dX12_lasts_16 (by decide) ?_
  cases hf
  exact go_iret rfl dX12_lasts_17 (Nat.le_refl _) ⟨rfl, rfl⟩
set_option maxRecDepth 100000 in
set_option maxHeartbeats 4000000 in
theorem v_X12_lasts_24 {N : Nat} {Γ : SG} {ρ : Nat → Nat → Nat} (hs : Sh Γ ρ) {this : Nat} {a1 : Int32} {a2 : Int32} (h0 : Γ[this]? = some (0, 12)) {n0 : Nat} {r : Int32} {σr : St} (rec24 : Int32 → St → Option (Int32 × St)) (hrec24 : ∀ (x3 : Int32) (σ : St), rec24 x3 σ = some (r, σr) → Go mX12_lasts 7 0 0 n0 (Ki Γ ρ r σr) 0 0 24 [some (.ref this), some (.int a1), some (.int a2), some (.int x3)] [] (hp Γ ρ σ)) (x3 : Int32) (σ : St) (hf : b_X12_lasts_24 N ρ this a1 a2 rec24 x3 σ = some (r, σr)) : Go mX12_lasts 7 0 0 n0 (Ki Γ ρ r σr) 0 0 24 [some (.ref this), some (.int a1), some (.int a2), some (.int x3)] [] (hp Γ ρ σ) := by
  unfold b_X12_lasts_24 at hf
  refine go_iload_n 3 dX12_lasts_24 rfl rfl ?_
  refine go_bipush 60 dX12_lasts_25 (by decide) ?_
  refine go_icmp_gt 52 dX12_lasts_27 (by decide) (fun c1 => ?_) (fun c1 => ?_)
  · replace hf := (if_pos c1).symm.trans hf
    refine go_iconst (-1) dX12_lasts_52 (by decide) ?_
    cases hf
    exact go_iret rfl dX12_lasts_53 (Nat.le_refl _) ⟨rfl, rfl⟩
  · replace hf := (if_neg c1).symm.trans hf
    refine go_aload_n 0 dX12_lasts_30 rfl rfl ?_
    refine go_iload_n 1 dX12_lasts_31 rfl rfl ?_
    refine go_iload_n 2 dX12_lasts_32 rfl rfl ?_
    obtain ⟨r2, σ3, q4, hf⟩ := bnd_some hf
    refine go_Vi (av := [.int a1, .int a2]) (rest := []) (t_X12_countsAlone hs h0 q4) ok_X12_countsAlone ml_X12_503 dX12_lasts_33 h0 rfl rfl (by decide) (Nat.le_refl _) (Nat.le_refl _) (Nat.le_of_ble_eq_true rfl) ?_
    refine go_if_ne 41 dX12_lasts_36 (by decide) (fun c5 => ?_) (fun c5 => ?_)
    · replace hf := (if_neg c5).symm.trans hf
      refine go_aload_n 0 dX12_lasts_41 rfl rfl ?_
      refine go_iconst 0 dX12_lasts_42 (by decide) ?_
      obtain ⟨r6, σ7, q8, hf⟩ := bnd_some hf
      refine go_Vv (av := [.int 0]) (rest := []) (t_X12_goEvening hs h0 q8) ok_X12_goEvening ml_X12_469 dX12_lasts_43 h0 rfl rfl (by decide) (Nat.le_refl _) (Nat.le_refl _) (Nat.le_of_ble_eq_true rfl) ?_
      refine go_iinc (x3 + 1) [some (.ref this), some (.int a1), some (.int a2), some (.int (x3 + 1))] dX12_lasts_46 rfl rfl (by decide) rfl ?_
      refine go_goto 24 dX12_lasts_49 (by decide) ?_
      exact hrec24 (x3 + 1) σ7 hf
    · replace hf := (if_pos c5).symm.trans hf
      refine go_iload_n 3 dX12_lasts_39 rfl rfl ?_
      cases hf
      exact go_iret rfl dX12_lasts_40 (Nat.le_refl _) ⟨rfl, rfl⟩
theorem w_X12_lasts_24 {N : Nat} {Γ : SG} {ρ : Nat → Nat → Nat} (hs : Sh Γ ρ) {this : Nat} {a1 : Int32} {a2 : Int32} (h0 : Γ[this]? = some (0, 12)) {n0 : Nat} {r : Int32} {σr : St} : ∀ (n : Nat) (x3 : Int32) (σ : St), f_X12_lasts_24 N ρ this a1 a2 n x3 σ = some (r, σr) → Go mX12_lasts 7 0 0 n0 (Ki Γ ρ r σr) 0 0 24 [some (.ref this), some (.int a1), some (.int a2), some (.int x3)] [] (hp Γ ρ σ) := by
  intro n
  induction n with
  | zero => intro x3 σ hf; cases hf
  | succ n ih => intro x3 σ hf; exact v_X12_lasts_24 hs h0 _ ih x3 σ hf
set_option maxRecDepth 100000 in
set_option maxHeartbeats 4000000 in
theorem t_X12_lasts {N : Nat} {Γ : SG} {ρ : Nat → Nat → Nat} (hs : Sh Γ ρ) {this : Nat} {a1 : Int32} {a2 : Int32} (h0 : Γ[this]? = some (0, 12)) {σ : St} {r : Int32} {σr : St} (hf : f_X12_lasts N ρ this a1 a2 σ = some (r, σr)) : Tri mX12_lasts 7 0 0 [.ref this, .int a1, .int a2] (hp Γ ρ σ) (Ki Γ ρ r σr) := by
  unfold f_X12_lasts at hf
  refine tri_of [some (.ref this), some (.int a1), some (.int a2), none] (plainFor_of_name rfl) rfl (Nat.le_of_ble_eq_true rfl) ?_
  refine go_aload_n 0 dX12_lasts_0 rfl rfl ?_
  refine go_iload_n 1 dX12_lasts_1 rfl rfl ?_
  obtain ⟨r9, σ10, q11, hf⟩ := bnd_some hf
  refine go_Vi (av := [.int a1]) (rest := []) (t_X12_isStool hs h0 q11) ok_X12_isStool ml_X12_454 dX12_lasts_2 h0 rfl rfl (by decide) (Nat.le_refl _) (Nat.le_refl _) (Nat.le_of_ble_eq_true rfl) ?_
  refine go_if_eq 16 dX12_lasts_5 (by decide) (fun c12 => ?_) (fun c12 => ?_)
  · replace hf := (if_pos c12).symm.trans hf
    refine go_msk [false, false, false, false] [none, none, none, none] rfl ?_
    exact w_X12_lasts_16 hs h0 σ10 hf
  · replace hf := (if_neg c12).symm.trans hf
    refine go_aload_n 0 dX12_lasts_8 rfl rfl ?_
    refine go_iload_n 2 dX12_lasts_9 rfl rfl ?_
    obtain ⟨r13, σ14, q15, hf⟩ := bnd_some hf
    refine go_Vi (av := [.int a2]) (rest := []) (t_X12_isHearth hs h0 q15) ok_X12_isHearth ml_X12_448 dX12_lasts_10 h0 rfl rfl (by decide) (Nat.le_refl _) (Nat.le_refl _) (Nat.le_of_ble_eq_true rfl) ?_
    refine go_if_ne 18 dX12_lasts_13 (by decide) (fun c16 => ?_) (fun c16 => ?_)
    · replace hf := (if_neg c16).symm.trans hf
      refine go_aload_n 0 dX12_lasts_18 rfl rfl ?_
      obtain ⟨r17, σ18, q19, hf⟩ := bnd_some hf
      refine go_Vv (av := []) (rest := []) (t_X12_fill hs h0 q19) ok_X12_fill ml_X12_451 dX12_lasts_19 h0 rfl rfl (by decide) (Nat.le_refl _) (Nat.le_refl _) (Nat.le_of_ble_eq_true rfl) ?_
      refine go_iconst 0 dX12_lasts_22 (by decide) ?_
      refine go_istore_n 3 [some (.ref this), some (.int a1), some (.int a2), some (.int 0)] dX12_lasts_23 rfl (by decide) rfl ?_
      exact w_X12_lasts_24 hs h0 N 0 σ18 hf
    · replace hf := (if_pos c16).symm.trans hf
      refine go_msk [false, false, false, false] [none, none, none, none] rfl ?_
      exact w_X12_lasts_16 hs h0 σ14 hf
def f_X12_soon_16 (N : Nat) (ρ : Nat → Nat → Nat) (this : Nat) (a1 : Int32) (a2 : Int32) (σ : St) : Option (Int32 × St) :=
  some ((-1), σ)
def b_X12_soon_32 (N : Nat) (ρ : Nat → Nat → Nat) (this : Nat) (a1 : Int32) (a2 : Int32) (rec32 : Int32 → St → Option (Int32 × St)) (x3 : Int32) (σ : St) : Option (Int32 × St) :=
  if 60 < (x3 : Int32) then
    some ((-1), σ)
  else
    bnd (f_X12_isSaved N ρ this a1 σ) fun r2 σ3 =>
    if (r2 : Int32) = 0 then
      bnd (f_X12_goEvening N ρ this 0 σ3) fun _ σ7 =>
      rec32 (x3 + 1) σ7
    else
      some (x3, σ3)
def f_X12_soon_32 (N : Nat) (ρ : Nat → Nat → Nat) (this : Nat) (a1 : Int32) (a2 : Int32) : Nat → Int32 → St → Option (Int32 × St)
  | 0, _, _ => none
  | n + 1, x3, σ => b_X12_soon_32 N ρ this a1 a2 (f_X12_soon_32 N ρ this a1 a2 n) x3 σ
def f_X12_soon (N : Nat) (ρ : Nat → Nat → Nat) (this : Nat) (a1 : Int32) (a2 : Int32) (σ : St) : Option (Int32 × St) :=
  bnd (f_X12_isStool N ρ this a1 σ) fun r9 σ10 =>
  if (r9 : Int32) = 0 then
    f_X12_soon_16 N ρ this a1 a2 σ10
  else
    bnd (f_X12_isHearth N ρ this a2 σ10) fun r13 σ14 =>
    if (r13 : Int32) = 0 then
      f_X12_soon_16 N ρ this a1 a2 σ14
    else
      bnd (f_X12_fill N ρ this σ14) fun _ σ18 =>
      bnd (f_X12_sendJust N ρ this (1 <<< (a1 &&& 31)) a2 σ18) fun _ σ21 =>
      f_X12_soon_32 N ρ this a1 a2 N 0 σ21
set_option maxRecDepth 100000 in
set_option maxHeartbeats 4000000 in
theorem w_X12_soon_16 {N : Nat} {Γ : SG} {ρ : Nat → Nat → Nat} (hs : Sh Γ ρ) {this : Nat} {a1 : Int32} {a2 : Int32} (h0 : Γ[this]? = some (0, 12)) {n0 : Nat} {r : Int32} {σr : St} (σ : St) (hf : f_X12_soon_16 N ρ this a1 a2 σ = some (r, σr)) : Go mX12_soon 7 0 0 n0 (Ki Γ ρ r σr) 0 0 16 [none, none, none, none] [] (hp Γ ρ σ) := by
  unfold f_X12_soon_16 at hf
  refine go_iconst (-1) dX12_soon_16 (by decide) ?_
  cases hf
  exact go_iret rfl dX12_soon_17 (Nat.le_refl _) ⟨rfl, rfl⟩
set_option maxRecDepth 100000 in
set_option maxHeartbeats 4000000 in
theorem v_X12_soon_32 {N : Nat} {Γ : SG} {ρ : Nat → Nat → Nat} (hs : Sh Γ ρ) {this : Nat} {a1 : Int32} {a2 : Int32} (h0 : Γ[this]? = some (0, 12)) {n0 : Nat} {r : Int32} {σr : St} (rec32 : Int32 → St → Option (Int32 × St)) (hrec32 : ∀ (x3 : Int32) (σ : St), rec32 x3 σ = some (r, σr) → Go mX12_soon 7 0 0 n0 (Ki Γ ρ r σr) 0 0 32 [some (.ref this), some (.int a1), none, some (.int x3)] [] (hp Γ ρ σ)) (x3 : Int32) (σ : St) (hf : b_X12_soon_32 N ρ this a1 a2 rec32 x3 σ = some (r, σr)) : Go mX12_soon 7 0 0 n0 (Ki Γ ρ r σr) 0 0 32 [some (.ref this), some (.int a1), none, some (.int x3)] [] (hp Γ ρ σ) := by
  unfold b_X12_soon_32 at hf
  refine go_iload_n 3 dX12_soon_32 rfl rfl ?_
  refine go_bipush 60 dX12_soon_33 (by decide) ?_
  refine go_icmp_gt 59 dX12_soon_35 (by decide) (fun c1 => ?_) (fun c1 => ?_)
  · replace hf := (if_pos c1).symm.trans hf
    refine go_iconst (-1) dX12_soon_59 (by decide) ?_
    cases hf
    exact go_iret rfl dX12_soon_60 (Nat.le_refl _) ⟨rfl, rfl⟩
  · replace hf := (if_neg c1).symm.trans hf
    refine go_aload_n 0 dX12_soon_38 rfl rfl ?_
    refine go_iload_n 1 dX12_soon_39 rfl rfl ?_
    obtain ⟨r2, σ3, q4, hf⟩ := bnd_some hf
    refine go_Vi (av := [.int a1]) (rest := []) (t_X12_isSaved hs h0 q4) ok_X12_isSaved ml_X12_457 dX12_soon_40 h0 rfl rfl (by decide) (Nat.le_refl _) (Nat.le_refl _) (Nat.le_of_ble_eq_true rfl) ?_
    refine go_if_eq 48 dX12_soon_43 (by decide) (fun c5 => ?_) (fun c5 => ?_)
    · replace hf := (if_pos c5).symm.trans hf
      refine go_aload_n 0 dX12_soon_48 rfl rfl ?_
      refine go_iconst 0 dX12_soon_49 (by decide) ?_
      obtain ⟨r6, σ7, q8, hf⟩ := bnd_some hf
      refine go_Vv (av := [.int 0]) (rest := []) (t_X12_goEvening hs h0 q8) ok_X12_goEvening ml_X12_469 dX12_soon_50 h0 rfl rfl (by decide) (Nat.le_refl _) (Nat.le_refl _) (Nat.le_of_ble_eq_true rfl) ?_
      refine go_iinc (x3 + 1) [some (.ref this), some (.int a1), none, some (.int (x3 + 1))] dX12_soon_53 rfl rfl (by decide) rfl ?_
      refine go_goto 32 dX12_soon_56 (by decide) ?_
      exact hrec32 (x3 + 1) σ7 hf
    · replace hf := (if_neg c5).symm.trans hf
      refine go_iload_n 3 dX12_soon_46 rfl rfl ?_
      cases hf
      exact go_iret rfl dX12_soon_47 (Nat.le_refl _) ⟨rfl, rfl⟩
theorem w_X12_soon_32 {N : Nat} {Γ : SG} {ρ : Nat → Nat → Nat} (hs : Sh Γ ρ) {this : Nat} {a1 : Int32} {a2 : Int32} (h0 : Γ[this]? = some (0, 12)) {n0 : Nat} {r : Int32} {σr : St} : ∀ (n : Nat) (x3 : Int32) (σ : St), f_X12_soon_32 N ρ this a1 a2 n x3 σ = some (r, σr) → Go mX12_soon 7 0 0 n0 (Ki Γ ρ r σr) 0 0 32 [some (.ref this), some (.int a1), none, some (.int x3)] [] (hp Γ ρ σ) := by
  intro n
  induction n with
  | zero => intro x3 σ hf; cases hf
  | succ n ih => intro x3 σ hf; exact v_X12_soon_32 hs h0 _ ih x3 σ hf
set_option maxRecDepth 100000 in
set_option maxHeartbeats 4000000 in
theorem t_X12_soon {N : Nat} {Γ : SG} {ρ : Nat → Nat → Nat} (hs : Sh Γ ρ) {this : Nat} {a1 : Int32} {a2 : Int32} (h0 : Γ[this]? = some (0, 12)) {σ : St} {r : Int32} {σr : St} (hf : f_X12_soon N ρ this a1 a2 σ = some (r, σr)) : Tri mX12_soon 7 0 0 [.ref this, .int a1, .int a2] (hp Γ ρ σ) (Ki Γ ρ r σr) := by
  unfold f_X12_soon at hf
  refine tri_of [some (.ref this), some (.int a1), some (.int a2), none] (plainFor_of_name rfl) rfl (Nat.le_of_ble_eq_true rfl) ?_
  refine go_aload_n 0 dX12_soon_0 rfl rfl ?_
  refine go_iload_n 1 dX12_soon_1 rfl rfl ?_
  obtain ⟨r9, σ10, q11, hf⟩ := bnd_some hf
  refine go_Vi (av := [.int a1]) (rest := []) (t_X12_isStool hs h0 q11) ok_X12_isStool ml_X12_454 dX12_soon_2 h0 rfl rfl (by decide) (Nat.le_refl _) (Nat.le_refl _) (Nat.le_of_ble_eq_true rfl) ?_
  refine go_if_eq 16 dX12_soon_5 (by decide) (fun c12 => ?_) (fun c12 => ?_)
  · replace hf := (if_pos c12).symm.trans hf
    refine go_msk [false, false, false, false] [none, none, none, none] rfl ?_
    exact w_X12_soon_16 hs h0 σ10 hf
  · replace hf := (if_neg c12).symm.trans hf
    refine go_aload_n 0 dX12_soon_8 rfl rfl ?_
    refine go_iload_n 2 dX12_soon_9 rfl rfl ?_
    obtain ⟨r13, σ14, q15, hf⟩ := bnd_some hf
    refine go_Vi (av := [.int a2]) (rest := []) (t_X12_isHearth hs h0 q15) ok_X12_isHearth ml_X12_448 dX12_soon_10 h0 rfl rfl (by decide) (Nat.le_refl _) (Nat.le_refl _) (Nat.le_of_ble_eq_true rfl) ?_
    refine go_if_ne 18 dX12_soon_13 (by decide) (fun c16 => ?_) (fun c16 => ?_)
    · replace hf := (if_neg c16).symm.trans hf
      refine go_aload_n 0 dX12_soon_18 rfl rfl ?_
      obtain ⟨r17, σ18, q19, hf⟩ := bnd_some hf
      refine go_Vv (av := []) (rest := []) (t_X12_fill hs h0 q19) ok_X12_fill ml_X12_451 dX12_soon_19 h0 rfl rfl (by decide) (Nat.le_refl _) (Nat.le_refl _) (Nat.le_of_ble_eq_true rfl) ?_
      refine go_aload_n 0 dX12_soon_22 rfl rfl ?_
      refine go_iconst 1 dX12_soon_23 (by decide) ?_
      refine go_iload_n 1 dX12_soon_24 rfl rfl ?_
      refine go_ishl dX12_soon_25 ?_
      refine go_iload_n 2 dX12_soon_26 rfl rfl ?_
      obtain ⟨r20, σ21, q22, hf⟩ := bnd_some hf
      refine go_Vv (av := [.int (1 <<< (a1 &&& 31)), .int a2]) (rest := []) (t_X12_sendJust hs h0 q22) ok_X12_sendJust ml_X12_500 dX12_soon_27 h0 rfl rfl (by decide) (Nat.le_refl _) (Nat.le_refl _) (Nat.le_of_ble_eq_true rfl) ?_
      refine go_iconst 0 dX12_soon_30 (by decide) ?_
      refine go_istore_n 3 [some (.ref this), some (.int a1), some (.int a2), some (.int 0)] dX12_soon_31 rfl (by decide) rfl ?_
      refine go_msk [true, true, false, true] [some (.ref this), some (.int a1), none, some (.int 0)] rfl ?_
      exact w_X12_soon_32 hs h0 N 0 σ21 hf
    · replace hf := (if_pos c16).symm.trans hf
      refine go_msk [false, false, false, false] [none, none, none, none] rfl ?_
      exact w_X12_soon_16 hs h0 σ14 hf
def f_X12_change_127 (N : Nat) (ρ : Nat → Nat → Nat) (this : Nat) (a1 : Int32) (rec29 : Int32 → Int32 → Int32 → St → Option (Int32 × St)) (rec44 : Int32 → Int32 → Int32 → Int32 → St → Option (Int32 × St)) (x2 : Int32) (x3 : Int32) (x4 : Int32) (x5 : Int32) (σ : St) : Option (Int32 × St) :=
  rec44 x2 x3 x4 (x5 + 1) σ
def b_X12_change_44 (N : Nat) (ρ : Nat → Nat → Nat) (this : Nat) (a1 : Int32) (rec29 : Int32 → Int32 → Int32 → St → Option (Int32 × St)) (rec44 : Int32 → Int32 → Int32 → Int32 → St → Option (Int32 × St)) (x2 : Int32) (x3 : Int32) (x4 : Int32) (x5 : Int32) (σ : St) : Option (Int32 × St) :=
  if (σ.1 this 50) ≤ (x5 : Int32) then
    rec29 x2 x3 (x4 + 1) σ
  else
    bnd (f_X12_fill N ρ this σ) fun _ σ3 =>
    gd (ib (15 + x5) 22) <|
    gd (ib (15 + x4) 22) <|
    nmd (sI σ3 (ρ this 57) (15 + x4).toNatClampNeg (σ3.1 (ρ this 56) (15 + x5).toNatClampNeg)) fun σ7 =>
    gd (ib (15 + x4) 22) <|
    gd (ib (15 + x5) 22) <|
    nmd (sI σ7 (ρ this 57) (15 + x5).toNatClampNeg (σ7.1 (ρ this 56) (15 + x4).toNatClampNeg)) fun σ10 =>
    bnd (f_X12_whoFares N ρ this 1 σ10) fun r11 σ12 =>
    bnd (f_X12_members N ρ r11 σ12) fun r14 σ15 =>
    if x2 < (r14 : Int32) then
      nmd ((5 * x4) + x5) fun y18 =>
      f_X12_change_127 N ρ this a1 rec29 rec44 r14 y18 x4 x5 σ15
    else
      f_X12_change_127 N ρ this a1 rec29 rec44 x2 x3 x4 x5 σ15
def f_X12_change_44 (N : Nat) (ρ : Nat → Nat → Nat) (this : Nat) (a1 : Int32) (rec29 : Int32 → Int32 → Int32 → St → Option (Int32 × St)) : Nat → Int32 → Int32 → Int32 → Int32 → St → Option (Int32 × St)
  | 0, _, _, _, _, _ => none
  | n + 1, x2, x3, x4, x5, σ => b_X12_change_44 N ρ this a1 rec29 (f_X12_change_44 N ρ this a1 rec29 n) x2 x3 x4 x5 σ
def f_X12_change_169 (N : Nat) (ρ : Nat → Nat → Nat) (this : Nat) (a1 : Int32) (s0 : Int32) (σ : St) : Option (Int32 × St) :=
  some (s0, σ)
def b_X12_change_29 (N : Nat) (ρ : Nat → Nat → Nat) (this : Nat) (a1 : Int32) (rec29 : Int32 → Int32 → Int32 → St → Option (Int32 × St)) (x2 : Int32) (x3 : Int32) (x4 : Int32) (σ : St) : Option (Int32 × St) :=
  if (σ.1 this 50) ≤ (x4 : Int32) then
    if 0 ≤ (x3 : Int32) then
      if (a1 : Int32) = 0 then
        f_X12_change_169 N ρ this a1 (x3 / 5) σ
      else
        if (a1 : Int32) = 1 then
          f_X12_change_169 N ρ this a1 (irem x3 5) σ
        else
          f_X12_change_169 N ρ this a1 x2 σ
    else
      f_X12_change_169 N ρ this a1 (-1) σ
  else
    nmd (x4 + 1) fun y23 =>
    f_X12_change_44 N ρ this a1 rec29 N x2 x3 x4 y23 σ
def f_X12_change_29 (N : Nat) (ρ : Nat → Nat → Nat) (this : Nat) (a1 : Int32) : Nat → Int32 → Int32 → Int32 → St → Option (Int32 × St)
  | 0, _, _, _, _ => none
  | n + 1, x2, x3, x4, σ => b_X12_change_29 N ρ this a1 (f_X12_change_29 N ρ this a1 n) x2 x3 x4 σ
def f_X12_change (N : Nat) (ρ : Nat → Nat → Nat) (this : Nat) (a1 : Int32) (σ : St) : Option (Int32 × St) :=
  bnd (f_X12_isIn N ρ a1 0 2 σ) fun r24 σ25 =>
  if (r24 : Int32) = 0 then
    some ((-1), σ25)
  else
    bnd (f_X12_fill N ρ this σ25) fun _ σ29 =>
    bnd (f_X12_whoFares N ρ this 1 σ29) fun r31 σ32 =>
    bnd (f_X12_members N ρ r31 σ32) fun r34 σ35 =>
    f_X12_change_29 N ρ this a1 N r34 (-1) 0 σ35
set_option maxRecDepth 100000 in
set_option maxHeartbeats 4000000 in
theorem w_X12_change_127 {N : Nat} {Γ : SG} {ρ : Nat → Nat → Nat} (hs : Sh Γ ρ) {this : Nat} {a1 : Int32} (h0 : Γ[this]? = some (0, 12)) {n0 : Nat} {r : Int32} {σr : St} (rec29 : Int32 → Int32 → Int32 → St → Option (Int32 × St)) (hrec29 : ∀ (x2 : Int32) (x3 : Int32) (x4 : Int32) (σ : St), rec29 x2 x3 x4 σ = some (r, σr) → Go mX12_change 7 0 0 n0 (Ki Γ ρ r σr) 0 0 29 [some (.ref this), some (.int a1), some (.int x2), some (.int x3), some (.int x4), none, none] [] (hp Γ ρ σ)) (rec44 : Int32 → Int32 → Int32 → Int32 → St → Option (Int32 × St)) (hrec44 : ∀ (x2 : Int32) (x3 : Int32) (x4 : Int32) (x5 : Int32) (σ : St), rec44 x2 x3 x4 x5 σ = some (r, σr) → Go mX12_change 7 0 0 n0 (Ki Γ ρ r σr) 0 0 44 [some (.ref this), some (.int a1), some (.int x2), some (.int x3), some (.int x4), some (.int x5), none] [] (hp Γ ρ σ)) (x2 : Int32) (x3 : Int32) (x4 : Int32) (x5 : Int32) (σ : St) (hf : f_X12_change_127 N ρ this a1 rec29 rec44 x2 x3 x4 x5 σ = some (r, σr)) : Go mX12_change 7 0 0 n0 (Ki Γ ρ r σr) 0 0 127 [some (.ref this), some (.int a1), some (.int x2), some (.int x3), some (.int x4), some (.int x5), none] [] (hp Γ ρ σ) := by
  unfold f_X12_change_127 at hf
  refine go_iinc (x5 + 1) [some (.ref this), some (.int a1), some (.int x2), some (.int x3), some (.int x4), some (.int (x5 + 1)), none] dX12_change_127 rfl rfl (by decide) rfl ?_
  refine go_goto 44 dX12_change_130 (by decide) ?_
  exact hrec44 x2 x3 x4 (x5 + 1) σ hf
set_option maxRecDepth 100000 in
set_option maxHeartbeats 4000000 in
theorem v_X12_change_44 {N : Nat} {Γ : SG} {ρ : Nat → Nat → Nat} (hs : Sh Γ ρ) {this : Nat} {a1 : Int32} (h0 : Γ[this]? = some (0, 12)) {n0 : Nat} {r : Int32} {σr : St} (rec29 : Int32 → Int32 → Int32 → St → Option (Int32 × St)) (hrec29 : ∀ (x2 : Int32) (x3 : Int32) (x4 : Int32) (σ : St), rec29 x2 x3 x4 σ = some (r, σr) → Go mX12_change 7 0 0 n0 (Ki Γ ρ r σr) 0 0 29 [some (.ref this), some (.int a1), some (.int x2), some (.int x3), some (.int x4), none, none] [] (hp Γ ρ σ)) (rec44 : Int32 → Int32 → Int32 → Int32 → St → Option (Int32 × St)) (hrec44 : ∀ (x2 : Int32) (x3 : Int32) (x4 : Int32) (x5 : Int32) (σ : St), rec44 x2 x3 x4 x5 σ = some (r, σr) → Go mX12_change 7 0 0 n0 (Ki Γ ρ r σr) 0 0 44 [some (.ref this), some (.int a1), some (.int x2), some (.int x3), some (.int x4), some (.int x5), none] [] (hp Γ ρ σ)) (x2 : Int32) (x3 : Int32) (x4 : Int32) (x5 : Int32) (σ : St) (hf : b_X12_change_44 N ρ this a1 rec29 rec44 x2 x3 x4 x5 σ = some (r, σr)) : Go mX12_change 7 0 0 n0 (Ki Γ ρ r σr) 0 0 44 [some (.ref this), some (.int a1), some (.int x2), some (.int x3), some (.int x4), some (.int x5), none] [] (hp Γ ρ σ) := by
  unfold b_X12_change_44 at hf
  refine go_iload dX12_change_44 rfl ?_
  refine go_aload_n 0 dX12_change_46 rfl rfl ?_
  refine go_fI fl_X12_395 dX12_change_47 h0 (by decide) rfl ?_
  refine go_icmp_ge 133 dX12_change_50 (by decide) (fun c1 => ?_) (fun c1 => ?_)
  · replace hf := (if_pos c1).symm.trans hf
    refine go_iinc (x4 + 1) [some (.ref this), some (.int a1), some (.int x2), some (.int x3), some (.int (x4 + 1)), some (.int x5), none] dX12_change_133 rfl rfl (by decide) rfl ?_
    refine go_goto 29 dX12_change_136 (by decide) ?_
    refine go_msk [true, true, true, true, true, false, false] [some (.ref this), some (.int a1), some (.int x2), some (.int x3), some (.int (x4 + 1)), none, none] rfl ?_
    exact hrec29 x2 x3 (x4 + 1) σ hf
  · replace hf := (if_neg c1).symm.trans hf
    refine go_aload_n 0 dX12_change_53 rfl rfl ?_
    obtain ⟨r2, σ3, q4, hf⟩ := bnd_some hf
    refine go_Vv (av := []) (rest := []) (t_X12_fill hs h0 q4) ok_X12_fill ml_X12_451 dX12_change_54 h0 rfl rfl (by decide) (Nat.le_refl _) (Nat.le_refl _) (Nat.le_of_ble_eq_true rfl) ?_
    refine go_aload_n 0 dX12_change_57 rfl rfl ?_
    refine go_fR fl_X12_106 dX12_change_58 h0 (by decide) rfl ?_
    refine go_bipush 15 dX12_change_61 (by decide) ?_
    refine go_iload dX12_change_63 rfl ?_
    refine go_iadd dX12_change_65 ?_
    refine go_aload_n 0 dX12_change_66 rfl rfl ?_
    refine go_fR fl_X12_103 dX12_change_67 h0 (by decide) rfl ?_
    refine go_bipush 15 dX12_change_70 (by decide) ?_
    refine go_iload dX12_change_72 rfl ?_
    refine go_iadd dX12_change_74 ?_
    obtain ⟨g5, hf⟩ := gd_some hf
    refine go_rI dX12_change_75 (hs.1 _ 12 56 h0 rfl) (ib_in g5) ?_
    obtain ⟨g6, hf⟩ := gd_some hf
    obtain ⟨σ7, eσ7, hf⟩ := nmd_some hf
    refine go_wI dX12_change_76 (hs.1 _ 12 57 h0 rfl) (ib_in g6) ?_
    rw [eσ7]
    refine go_aload_n 0 dX12_change_77 rfl rfl ?_
    refine go_fR fl_X12_106 dX12_change_78 h0 (by decide) rfl ?_
    refine go_bipush 15 dX12_change_81 (by decide) ?_
    refine go_iload dX12_change_83 rfl ?_
    refine go_iadd dX12_change_85 ?_
    refine go_aload_n 0 dX12_change_86 rfl rfl ?_
    refine go_fR fl_X12_103 dX12_change_87 h0 (by decide) rfl ?_
    refine go_bipush 15 dX12_change_90 (by decide) ?_
    refine go_iload dX12_change_92 rfl ?_
    refine go_iadd dX12_change_94 ?_
    obtain ⟨g8, hf⟩ := gd_some hf
    refine go_rI dX12_change_95 (hs.1 _ 12 56 h0 rfl) (ib_in g8) ?_
    obtain ⟨g9, hf⟩ := gd_some hf
    obtain ⟨σ10, eσ10, hf⟩ := nmd_some hf
    refine go_wI dX12_change_96 (hs.1 _ 12 57 h0 rfl) (ib_in g9) ?_
    rw [eσ10]
    refine go_aload_n 0 dX12_change_97 rfl rfl ?_
    refine go_iconst 1 dX12_change_98 (by decide) ?_
    obtain ⟨r11, σ12, q13, hf⟩ := bnd_some hf
    refine go_Vi (av := [.int 1]) (rest := []) (t_X12_whoFares hs h0 q13) ok_X12_whoFares ml_X12_475 dX12_change_99 h0 rfl rfl (by decide) (Nat.le_refl _) (Nat.le_refl _) (Nat.le_of_ble_eq_true rfl) ?_
    obtain ⟨r14, σ15, q16, hf⟩ := bnd_some hf
    refine go_Si (av := [.int r11]) (rest := []) (t_X12_members hs  q16) ok_X12_members ml_X12_433 dX12_change_102 rfl rfl (by decide) (Nat.le_refl _) (Nat.le_refl _) (Nat.le_of_ble_eq_true rfl) ?_
    refine go_istore [some (.ref this), some (.int a1), some (.int x2), some (.int x3), some (.int x4), some (.int x5), some (.int r14)] dX12_change_105 (by decide) rfl ?_
    refine go_iload dX12_change_107 rfl ?_
    refine go_iload_n 2 dX12_change_109 rfl rfl ?_
    refine go_icmp_gt 116 dX12_change_110 (by decide) (fun c17 => ?_) (fun c17 => ?_)
    · replace hf := (if_pos c17).symm.trans hf
      refine go_iload dX12_change_116 rfl ?_
      refine go_istore_n 2 [some (.ref this), some (.int a1), some (.int r14), some (.int x3), some (.int x4), some (.int x5), some (.int r14)] dX12_change_118 rfl (by decide) rfl ?_
      refine go_iconst 5 dX12_change_119 (by decide) ?_
      refine go_iload dX12_change_120 rfl ?_
      refine go_imul dX12_change_122 ?_
      refine go_iload dX12_change_123 rfl ?_
      refine go_iadd dX12_change_125 ?_
      obtain ⟨y18, ey18, hf⟩ := nmd_some hf
      refine go_nm ey18 ?_
      refine go_istore_n 3 [some (.ref this), some (.int a1), some (.int r14), some (.int y18), some (.int x4), some (.int x5), some (.int r14)] dX12_change_126 rfl (by decide) rfl ?_
      refine go_msk [true, true, true, true, true, true, false] [some (.ref this), some (.int a1), some (.int r14), some (.int y18), some (.int x4), some (.int x5), none] rfl ?_
      exact w_X12_change_127 hs h0 rec29 hrec29 rec44 hrec44 r14 y18 x4 x5 σ15 hf
    · replace hf := (if_neg c17).symm.trans hf
      refine go_goto 127 dX12_change_113 (by decide) ?_
      refine go_msk [true, true, true, true, true, true, false] [some (.ref this), some (.int a1), some (.int x2), some (.int x3), some (.int x4), some (.int x5), none] rfl ?_
      exact w_X12_change_127 hs h0 rec29 hrec29 rec44 hrec44 x2 x3 x4 x5 σ15 hf
theorem w_X12_change_44 {N : Nat} {Γ : SG} {ρ : Nat → Nat → Nat} (hs : Sh Γ ρ) {this : Nat} {a1 : Int32} (h0 : Γ[this]? = some (0, 12)) {n0 : Nat} {r : Int32} {σr : St} (rec29 : Int32 → Int32 → Int32 → St → Option (Int32 × St)) (hrec29 : ∀ (x2 : Int32) (x3 : Int32) (x4 : Int32) (σ : St), rec29 x2 x3 x4 σ = some (r, σr) → Go mX12_change 7 0 0 n0 (Ki Γ ρ r σr) 0 0 29 [some (.ref this), some (.int a1), some (.int x2), some (.int x3), some (.int x4), none, none] [] (hp Γ ρ σ)) : ∀ (n : Nat) (x2 : Int32) (x3 : Int32) (x4 : Int32) (x5 : Int32) (σ : St), f_X12_change_44 N ρ this a1 rec29 n x2 x3 x4 x5 σ = some (r, σr) → Go mX12_change 7 0 0 n0 (Ki Γ ρ r σr) 0 0 44 [some (.ref this), some (.int a1), some (.int x2), some (.int x3), some (.int x4), some (.int x5), none] [] (hp Γ ρ σ) := by
  intro n
  induction n with
  | zero => intro x2 x3 x4 x5 σ hf; cases hf
  | succ n ih => intro x2 x3 x4 x5 σ hf; exact v_X12_change_44 hs h0 rec29 hrec29 _ ih x2 x3 x4 x5 σ hf
set_option maxRecDepth 100000 in
set_option maxHeartbeats 4000000 in
theorem w_X12_change_169 {N : Nat} {Γ : SG} {ρ : Nat → Nat → Nat} (hs : Sh Γ ρ) {this : Nat} {a1 : Int32} (h0 : Γ[this]? = some (0, 12)) {n0 : Nat} {r : Int32} {σr : St} (s0 : Int32) (σ : St) (hf : f_X12_change_169 N ρ this a1 s0 σ = some (r, σr)) : Go mX12_change 7 0 0 n0 (Ki Γ ρ r σr) 0 0 169 [none, none, none, none, none, none, none] [.int s0] (hp Γ ρ σ) := by
  unfold f_X12_change_169 at hf
  cases hf
  exact go_iret rfl dX12_change_169 (Nat.le_refl _) ⟨rfl, rfl⟩
set_option maxRecDepth 100000 in
set_option maxHeartbeats 4000000 in
theorem v_X12_change_29 {N : Nat} {Γ : SG} {ρ : Nat → Nat → Nat} (hs : Sh Γ ρ) {this : Nat} {a1 : Int32} (h0 : Γ[this]? = some (0, 12)) {n0 : Nat} {r : Int32} {σr : St} (rec29 : Int32 → Int32 → Int32 → St → Option (Int32 × St)) (hrec29 : ∀ (x2 : Int32) (x3 : Int32) (x4 : Int32) (σ : St), rec29 x2 x3 x4 σ = some (r, σr) → Go mX12_change 7 0 0 n0 (Ki Γ ρ r σr) 0 0 29 [some (.ref this), some (.int a1), some (.int x2), some (.int x3), some (.int x4), none, none] [] (hp Γ ρ σ)) (x2 : Int32) (x3 : Int32) (x4 : Int32) (σ : St) (hf : b_X12_change_29 N ρ this a1 rec29 x2 x3 x4 σ = some (r, σr)) : Go mX12_change 7 0 0 n0 (Ki Γ ρ r σr) 0 0 29 [some (.ref this), some (.int a1), some (.int x2), some (.int x3), some (.int x4), none, none] [] (hp Γ ρ σ) := by
  unfold b_X12_change_29 at hf
  refine go_iload dX12_change_29 rfl ?_
  refine go_aload_n 0 dX12_change_31 rfl rfl ?_
  refine go_fI fl_X12_395 dX12_change_32 h0 (by decide) rfl ?_
  refine go_icmp_ge 139 dX12_change_35 (by decide) (fun c19 => ?_) (fun c19 => ?_)
  · replace hf := (if_pos c19).symm.trans hf
    refine go_iload_n 3 dX12_change_139 rfl rfl ?_
    refine go_if_ge 147 dX12_change_140 (by decide) (fun c20 => ?_) (fun c20 => ?_)
    · replace hf := (if_pos c20).symm.trans hf
      refine go_iload_n 1 dX12_change_147 rfl rfl ?_
      refine go_if_ne 157 dX12_change_148 (by decide) (fun c21 => ?_) (fun c21 => ?_)
      · replace hf := (if_neg c21).symm.trans hf
        refine go_iload_n 1 dX12_change_157 rfl rfl ?_
        refine go_iconst 1 dX12_change_158 (by decide) ?_
        refine go_icmp_ne 168 dX12_change_159 (by decide) (fun c22 => ?_) (fun c22 => ?_)
        · replace hf := (if_neg c22).symm.trans hf
          refine go_iload_n 2 dX12_change_168 rfl rfl ?_
          refine go_msk [false, false, false, false, false, false, false] [none, none, none, none, none, none, none] rfl ?_
          exact w_X12_change_169 hs h0 x2 σ hf
        · replace hf := (if_pos c22).symm.trans hf
          refine go_iload_n 3 dX12_change_162 rfl rfl ?_
          refine go_iconst 5 dX12_change_163 (by decide) ?_
          refine go_irem dX12_change_164 (by decide) ?_
          refine go_goto 169 dX12_change_165 (by decide) ?_
          refine go_msk [false, false, false, false, false, false, false] [none, none, none, none, none, none, none] rfl ?_
          exact w_X12_change_169 hs h0 (irem x3 5) σ hf
      · replace hf := (if_pos c21).symm.trans hf
        refine go_iload_n 3 dX12_change_151 rfl rfl ?_
        refine go_iconst 5 dX12_change_152 (by decide) ?_
        refine go_idiv dX12_change_153 (by decide) ?_
        refine go_goto 169 dX12_change_154 (by decide) ?_
        refine go_msk [false, false, false, false, false, false, false] [none, none, none, none, none, none, none] rfl ?_
        exact w_X12_change_169 hs h0 (x3 / 5) σ hf
    · replace hf := (if_neg c20).symm.trans hf
      refine go_iconst (-1) dX12_change_143 (by decide) ?_
      refine go_goto 169 dX12_change_144 (by decide) ?_
      refine go_msk [false, false, false, false, false, false, false] [none, none, none, none, none, none, none] rfl ?_
      exact w_X12_change_169 hs h0 (-1) σ hf
  · replace hf := (if_neg c19).symm.trans hf
    refine go_iload dX12_change_38 rfl ?_
    refine go_iconst 1 dX12_change_40 (by decide) ?_
    refine go_iadd dX12_change_41 ?_
    obtain ⟨y23, ey23, hf⟩ := nmd_some hf
    refine go_nm ey23 ?_
    refine go_istore [some (.ref this), some (.int a1), some (.int x2), some (.int x3), some (.int x4), some (.int y23), none] dX12_change_42 (by decide) rfl ?_
    exact w_X12_change_44 hs h0 rec29 hrec29 N x2 x3 x4 y23 σ hf
theorem w_X12_change_29 {N : Nat} {Γ : SG} {ρ : Nat → Nat → Nat} (hs : Sh Γ ρ) {this : Nat} {a1 : Int32} (h0 : Γ[this]? = some (0, 12)) {n0 : Nat} {r : Int32} {σr : St} : ∀ (n : Nat) (x2 : Int32) (x3 : Int32) (x4 : Int32) (σ : St), f_X12_change_29 N ρ this a1 n x2 x3 x4 σ = some (r, σr) → Go mX12_change 7 0 0 n0 (Ki Γ ρ r σr) 0 0 29 [some (.ref this), some (.int a1), some (.int x2), some (.int x3), some (.int x4), none, none] [] (hp Γ ρ σ) := by
  intro n
  induction n with
  | zero => intro x2 x3 x4 σ hf; cases hf
  | succ n ih => intro x2 x3 x4 σ hf; exact v_X12_change_29 hs h0 _ ih x2 x3 x4 σ hf
set_option maxRecDepth 100000 in
set_option maxHeartbeats 4000000 in
theorem t_X12_change {N : Nat} {Γ : SG} {ρ : Nat → Nat → Nat} (hs : Sh Γ ρ) {this : Nat} {a1 : Int32} (h0 : Γ[this]? = some (0, 12)) {σ : St} {r : Int32} {σr : St} (hf : f_X12_change N ρ this a1 σ = some (r, σr)) : Tri mX12_change 7 0 0 [.ref this, .int a1] (hp Γ ρ σ) (Ki Γ ρ r σr) := by
  unfold f_X12_change at hf
  refine tri_of [some (.ref this), some (.int a1), none, none, none, none, none] (plainFor_of_name rfl) rfl (Nat.le_of_ble_eq_true rfl) ?_
  refine go_iload_n 1 dX12_change_0 rfl rfl ?_
  refine go_iconst 0 dX12_change_1 (by decide) ?_
  refine go_iconst 2 dX12_change_2 (by decide) ?_
  obtain ⟨r24, σ25, q26, hf⟩ := bnd_some hf
  refine go_Si (av := [.int a1, .int 0, .int 2]) (rest := []) (t_X12_isIn hs  q26) ok_X12_isIn ml_X12_422 dX12_change_3 rfl rfl (by decide) (Nat.le_refl _) (Nat.le_refl _) (Nat.le_of_ble_eq_true rfl) ?_
  refine go_if_ne 11 dX12_change_6 (by decide) (fun c27 => ?_) (fun c27 => ?_)
  · replace hf := (if_neg c27).symm.trans hf
    refine go_aload_n 0 dX12_change_11 rfl rfl ?_
    obtain ⟨r28, σ29, q30, hf⟩ := bnd_some hf
    refine go_Vv (av := []) (rest := []) (t_X12_fill hs h0 q30) ok_X12_fill ml_X12_451 dX12_change_12 h0 rfl rfl (by decide) (Nat.le_refl _) (Nat.le_refl _) (Nat.le_of_ble_eq_true rfl) ?_
    refine go_aload_n 0 dX12_change_15 rfl rfl ?_
    refine go_iconst 1 dX12_change_16 (by decide) ?_
    obtain ⟨r31, σ32, q33, hf⟩ := bnd_some hf
    refine go_Vi (av := [.int 1]) (rest := []) (t_X12_whoFares hs h0 q33) ok_X12_whoFares ml_X12_475 dX12_change_17 h0 rfl rfl (by decide) (Nat.le_refl _) (Nat.le_refl _) (Nat.le_of_ble_eq_true rfl) ?_
    obtain ⟨r34, σ35, q36, hf⟩ := bnd_some hf
    refine go_Si (av := [.int r31]) (rest := []) (t_X12_members hs  q36) ok_X12_members ml_X12_433 dX12_change_20 rfl rfl (by decide) (Nat.le_refl _) (Nat.le_refl _) (Nat.le_of_ble_eq_true rfl) ?_
    refine go_istore_n 2 [some (.ref this), some (.int a1), some (.int r34), none, none, none, none] dX12_change_23 rfl (by decide) rfl ?_
    refine go_iconst (-1) dX12_change_24 (by decide) ?_
    refine go_istore_n 3 [some (.ref this), some (.int a1), some (.int r34), some (.int (-1)), none, none, none] dX12_change_25 rfl (by decide) rfl ?_
    refine go_iconst 0 dX12_change_26 (by decide) ?_
    refine go_istore [some (.ref this), some (.int a1), some (.int r34), some (.int (-1)), some (.int 0), none, none] dX12_change_27 (by decide) rfl ?_
    exact w_X12_change_29 hs h0 N r34 (-1) 0 σ35 hf
  · replace hf := (if_pos c27).symm.trans hf
    refine go_iconst (-1) dX12_change_9 (by decide) ?_
    cases hf
    exact go_iret rfl dX12_change_10 (Nat.le_refl _) ⟨rfl, rfl⟩
def f_X12_goodOf_11 (N : Nat) (ρ : Nat → Nat → Nat) (this : Nat) (a1 : Int32) (a2 : Int32) (a3 : Int32) (s0 : Int32) (σ : St) : Option (Int32 × St) :=
  bnd (f_X12_wayOf N ρ this a1 a2 σ) fun r1 σ2 =>
  some (s0 - r1, σ2)
def f_X12_goodOf (N : Nat) (ρ : Nat → Nat → Nat) (this : Nat) (a1 : Int32) (a2 : Int32) (a3 : Int32) (σ : St) : Option (Int32 × St) :=
  if (a3 : Int32) = 0 then
    f_X12_goodOf_11 N ρ this a1 a2 a3 0 σ
  else
    f_X12_goodOf_11 N ρ this a1 a2 a3 1000 σ
set_option maxRecDepth 100000 in
set_option maxHeartbeats 4000000 in
theorem w_X12_goodOf_11 {N : Nat} {Γ : SG} {ρ : Nat → Nat → Nat} (hs : Sh Γ ρ) {this : Nat} {a1 : Int32} {a2 : Int32} {a3 : Int32} (h0 : Γ[this]? = some (0, 12)) {n0 : Nat} {r : Int32} {σr : St} (s0 : Int32) (σ : St) (hf : f_X12_goodOf_11 N ρ this a1 a2 a3 s0 σ = some (r, σr)) : Go mX12_goodOf 2 0 0 n0 (Ki Γ ρ r σr) 0 0 11 [some (.ref this), some (.int a1), some (.int a2), none] [.int s0] (hp Γ ρ σ) := by
  unfold f_X12_goodOf_11 at hf
  refine go_aload_n 0 dX12_goodOf_11 rfl rfl ?_
  refine go_iload_n 1 dX12_goodOf_12 rfl rfl ?_
  refine go_iload_n 2 dX12_goodOf_13 rfl rfl ?_
  obtain ⟨r1, σ2, q3, hf⟩ := bnd_some hf
  refine go_Vi (av := [.int a1, .int a2]) (rest := [.int s0]) (t_X12_wayOf hs h0 q3) ok_X12_wayOf ml_X12_481 dX12_goodOf_14 h0 rfl rfl (by decide) (Nat.le_refl _) (Nat.le_refl _) (Nat.le_of_ble_eq_true rfl) ?_
  refine go_isub dX12_goodOf_17 ?_
  cases hf
  exact go_iret rfl dX12_goodOf_18 (Nat.le_refl _) ⟨rfl, rfl⟩
set_option maxRecDepth 100000 in
set_option maxHeartbeats 4000000 in
theorem t_X12_goodOf {N : Nat} {Γ : SG} {ρ : Nat → Nat → Nat} (hs : Sh Γ ρ) {this : Nat} {a1 : Int32} {a2 : Int32} {a3 : Int32} (h0 : Γ[this]? = some (0, 12)) {σ : St} {r : Int32} {σr : St} (hf : f_X12_goodOf N ρ this a1 a2 a3 σ = some (r, σr)) : Tri mX12_goodOf 2 0 0 [.ref this, .int a1, .int a2, .int a3] (hp Γ ρ σ) (Ki Γ ρ r σr) := by
  unfold f_X12_goodOf at hf
  refine tri_of [some (.ref this), some (.int a1), some (.int a2), some (.int a3)] (plainFor_of_name rfl) rfl (Nat.le_of_ble_eq_true rfl) ?_
  refine go_iload_n 3 dX12_goodOf_0 rfl rfl ?_
  refine go_if_eq 10 dX12_goodOf_1 (by decide) (fun c4 => ?_) (fun c4 => ?_)
  · replace hf := (if_pos c4).symm.trans hf
    refine go_iconst 0 dX12_goodOf_10 (by decide) ?_
    refine go_msk [true, true, true, false] [some (.ref this), some (.int a1), some (.int a2), none] rfl ?_
    exact w_X12_goodOf_11 hs h0 0 σ hf
  · replace hf := (if_neg c4).symm.trans hf
    refine go_sipush 1000 dX12_goodOf_4 (by decide) ?_
    refine go_goto 11 dX12_goodOf_7 (by decide) ?_
    refine go_msk [true, true, true, false] [some (.ref this), some (.int a1), some (.int a2), none] rfl ?_
    exact w_X12_goodOf_11 hs h0 1000 σ hf
def f_X12_isRest_162 (N : Nat) (ρ : Nat → Nat → Nat) (this : Nat) (a1 : Int32) (a2 : Int32) (a3 : Int32) (a4 : Int32) (rec15 : Int32 → Int32 → Int32 → St → Option (Int32 × St)) (x6 : Int32) (x7 : Int32) (s0 : Int32) (σ : St) : Option (Int32 × St) :=
  rec15 s0 x6 (x7 + 1) σ
def f_X12_isRest_161 (N : Nat) (ρ : Nat → Nat → Nat) (this : Nat) (a1 : Int32) (a2 : Int32) (a3 : Int32) (a4 : Int32) (rec15 : Int32 → Int32 → Int32 → St → Option (Int32 × St)) (x6 : Int32) (x7 : Int32) (σ : St) : Option (Int32 × St) :=
  f_X12_isRest_162 N ρ this a1 a2 a3 a4 rec15 x6 x7 0 σ
def f_X12_isRest_151 (N : Nat) (ρ : Nat → Nat → Nat) (this : Nat) (a1 : Int32) (a2 : Int32) (a3 : Int32) (a4 : Int32) (rec15 : Int32 → Int32 → Int32 → St → Option (Int32 × St)) (x6 : Int32) (x7 : Int32) (s0 : Int32) (s1 : Int32) (s2 : Int32) (s4 : Int32) (σ : St) : Option (Int32 × St) :=
  bnd (f_X12_goodOf N ρ this s2 s1 s0 σ) fun r1 σ2 =>
  if r1 < (s4 : Int32) then
    f_X12_isRest_161 N ρ this a1 a2 a3 a4 rec15 x6 x7 σ2
  else
    f_X12_isRest_162 N ρ this a1 a2 a3 a4 rec15 x6 x7 1 σ2
def f_X12_isRest_126 (N : Nat) (ρ : Nat → Nat → Nat) (this : Nat) (a1 : Int32) (a2 : Int32) (a3 : Int32) (a4 : Int32) (rec15 : Int32 → Int32 → Int32 → St → Option (Int32 × St)) (x6 : Int32) (x7 : Int32) (s0 : Int32) (s1 : Int32) (s2 : Int32) (σ : St) : Option (Int32 × St) :=
  bnd (f_X12_goodOf N ρ this s2 s1 s0 σ) fun r5 σ6 =>
  gd (ib x6 36) <|
  if ((σ6.1 (ρ this 66) x6.toNatClampNeg) &&& 2 : Int32) = 2 then
    f_X12_isRest_151 N ρ this a1 a2 a3 a4 rec15 x6 x7 1 a4 a2 r5 σ6
  else
    f_X12_isRest_151 N ρ this a1 a2 a3 a4 rec15 x6 x7 0 a4 a2 r5 σ6
def f_X12_isRest_92 (N : Nat) (ρ : Nat → Nat → Nat) (this : Nat) (a1 : Int32) (a2 : Int32) (a3 : Int32) (a4 : Int32) (rec15 : Int32 → Int32 → Int32 → St → Option (Int32 × St)) (x6 : Int32) (x7 : Int32) (s0 : Int32) (σ : St) : Option (Int32 × St) :=
  if (s0 : Int32) = 0 then
    f_X12_isRest_161 N ρ this a1 a2 a3 a4 rec15 x6 x7 σ
  else
    gd (ib ((6 * a3) + x7) 36) <|
    if ((σ.1 (ρ this 66) ((6 * a3) + x7).toNatClampNeg) &&& 2 : Int32) = 2 then
      f_X12_isRest_126 N ρ this a1 a2 a3 a4 rec15 x6 x7 1 x7 a2 σ
    else
      f_X12_isRest_126 N ρ this a1 a2 a3 a4 rec15 x6 x7 0 x7 a2 σ
def f_X12_isRest_91 (N : Nat) (ρ : Nat → Nat → Nat) (this : Nat) (a1 : Int32) (a2 : Int32) (a3 : Int32) (a4 : Int32) (rec15 : Int32 → Int32 → Int32 → St → Option (Int32 × St)) (x6 : Int32) (x7 : Int32) (σ : St) : Option (Int32 × St) :=
  f_X12_isRest_92 N ρ this a1 a2 a3 a4 rec15 x6 x7 0 σ
def f_X12_isRest_81 (N : Nat) (ρ : Nat → Nat → Nat) (this : Nat) (a1 : Int32) (a2 : Int32) (a3 : Int32) (a4 : Int32) (rec15 : Int32 → Int32 → Int32 → St → Option (Int32 × St)) (x6 : Int32) (x7 : Int32) (s0 : Int32) (s1 : Int32) (s2 : Int32) (s4 : Int32) (σ : St) : Option (Int32 × St) :=
  bnd (f_X12_goodOf N ρ this s2 s1 s0 σ) fun r13 σ14 =>
  if r13 < (s4 : Int32) then
    f_X12_isRest_91 N ρ this a1 a2 a3 a4 rec15 x6 x7 σ14
  else
    f_X12_isRest_92 N ρ this a1 a2 a3 a4 rec15 x6 x7 1 σ14
def f_X12_isRest_57 (N : Nat) (ρ : Nat → Nat → Nat) (this : Nat) (a1 : Int32) (a2 : Int32) (a3 : Int32) (a4 : Int32) (rec15 : Int32 → Int32 → Int32 → St → Option (Int32 × St)) (x6 : Int32) (x7 : Int32) (s0 : Int32) (s1 : Int32) (s2 : Int32) (σ : St) : Option (Int32 × St) :=
  bnd (f_X12_goodOf N ρ this s2 s1 s0 σ) fun r17 σ18 =>
  gd (ib x6 36) <|
  if ((σ18.1 (ρ this 66) x6.toNatClampNeg) &&& 1 : Int32) = 1 then
    f_X12_isRest_81 N ρ this a1 a2 a3 a4 rec15 x6 x7 1 a3 a1 r17 σ18
  else
    f_X12_isRest_81 N ρ this a1 a2 a3 a4 rec15 x6 x7 0 a3 a1 r17 σ18
def b_X12_isRest_15 (N : Nat) (ρ : Nat → Nat → Nat) (this : Nat) (a1 : Int32) (a2 : Int32) (a3 : Int32) (a4 : Int32) (rec15 : Int32 → Int32 → Int32 → St → Option (Int32 × St)) (x5 : Int32) (x6 : Int32) (x7 : Int32) (σ : St) : Option (Int32 × St) :=
  if (σ.1 this 49) ≤ (x7 : Int32) then
    gd (bb x5) <|
    some (x5, σ)
  else
    if (x5 : Int32) = 0 then
      f_X12_isRest_91 N ρ this a1 a2 a3 a4 rec15 x6 x7 σ
    else
      gd (ib ((6 * x7) + a4) 36) <|
      if ((σ.1 (ρ this 66) ((6 * x7) + a4).toNatClampNeg) &&& 1 : Int32) = 1 then
        f_X12_isRest_57 N ρ this a1 a2 a3 a4 rec15 x6 x7 1 x7 a1 σ
      else
        f_X12_isRest_57 N ρ this a1 a2 a3 a4 rec15 x6 x7 0 x7 a1 σ
def f_X12_isRest_15 (N : Nat) (ρ : Nat → Nat → Nat) (this : Nat) (a1 : Int32) (a2 : Int32) (a3 : Int32) (a4 : Int32) : Nat → Int32 → Int32 → Int32 → St → Option (Int32 × St)
  | 0, _, _, _, _ => none
  | n + 1, x5, x6, x7, σ => b_X12_isRest_15 N ρ this a1 a2 a3 a4 (f_X12_isRest_15 N ρ this a1 a2 a3 a4 n) x5 x6 x7 σ
def f_X12_isRest (N : Nat) (ρ : Nat → Nat → Nat) (this : Nat) (a1 : Int32) (a2 : Int32) (a3 : Int32) (a4 : Int32) (σ : St) : Option (Int32 × St) :=
  nmd ((6 * a3) + a4) fun y27 =>
  f_X12_isRest_15 N ρ this a1 a2 a3 a4 N 1 y27 0 σ
set_option maxRecDepth 100000 in
set_option maxHeartbeats 4000000 in
theorem w_X12_isRest_162 {N : Nat} {Γ : SG} {ρ : Nat → Nat → Nat} (hs : Sh Γ ρ) {this : Nat} {a1 : Int32} {a2 : Int32} {a3 : Int32} {a4 : Int32} (h0 : Γ[this]? = some (0, 12)) {n0 : Nat} {r : Int32} {σr : St} (rec15 : Int32 → Int32 → Int32 → St → Option (Int32 × St)) (hrec15 : ∀ (x5 : Int32) (x6 : Int32) (x7 : Int32) (σ : St), rec15 x5 x6 x7 σ = some (r, σr) → Go mX12_isRest 3 0 0 n0 (Ki Γ ρ r σr) 0 0 15 [some (.ref this), some (.int a1), some (.int a2), some (.int a3), some (.int a4), some (.int x5), some (.int x6), some (.int x7)] [] (hp Γ ρ σ)) (x6 : Int32) (x7 : Int32) (s0 : Int32) (σ : St) (hf : f_X12_isRest_162 N ρ this a1 a2 a3 a4 rec15 x6 x7 s0 σ = some (r, σr)) : Go mX12_isRest 3 0 0 n0 (Ki Γ ρ r σr) 0 0 162 [some (.ref this), some (.int a1), some (.int a2), some (.int a3), some (.int a4), none, some (.int x6), some (.int x7)] [.int s0] (hp Γ ρ σ) := by
  unfold f_X12_isRest_162 at hf
  refine go_istore [some (.ref this), some (.int a1), some (.int a2), some (.int a3), some (.int a4), some (.int s0), some (.int x6), some (.int x7)] dX12_isRest_162 (by decide) rfl ?_
  refine go_iinc (x7 + 1) [some (.ref this), some (.int a1), some (.int a2), some (.int a3), some (.int a4), some (.int s0), some (.int x6), some (.int (x7 + 1))] dX12_isRest_164 rfl rfl (by decide) rfl ?_
  refine go_goto 15 dX12_isRest_167 (by decide) ?_
  exact hrec15 s0 x6 (x7 + 1) σ hf
set_option maxRecDepth 100000 in
set_option maxHeartbeats 4000000 in
theorem w_X12_isRest_161 {N : Nat} {Γ : SG} {ρ : Nat → Nat → Nat} (hs : Sh Γ ρ) {this : Nat} {a1 : Int32} {a2 : Int32} {a3 : Int32} {a4 : Int32} (h0 : Γ[this]? = some (0, 12)) {n0 : Nat} {r : Int32} {σr : St} (rec15 : Int32 → Int32 → Int32 → St → Option (Int32 × St)) (hrec15 : ∀ (x5 : Int32) (x6 : Int32) (x7 : Int32) (σ : St), rec15 x5 x6 x7 σ = some (r, σr) → Go mX12_isRest 3 0 0 n0 (Ki Γ ρ r σr) 0 0 15 [some (.ref this), some (.int a1), some (.int a2), some (.int a3), some (.int a4), some (.int x5), some (.int x6), some (.int x7)] [] (hp Γ ρ σ)) (x6 : Int32) (x7 : Int32) (σ : St) (hf : f_X12_isRest_161 N ρ this a1 a2 a3 a4 rec15 x6 x7 σ = some (r, σr)) : Go mX12_isRest 3 0 0 n0 (Ki Γ ρ r σr) 0 0 161 [some (.ref this), some (.int a1), some (.int a2), some (.int a3), some (.int a4), none, some (.int x6), some (.int x7)] [] (hp Γ ρ σ) := by
  unfold f_X12_isRest_161 at hf
  refine go_iconst 0 dX12_isRest_161 (by decide) ?_
  exact w_X12_isRest_162 hs h0 rec15 hrec15 x6 x7 0 σ hf
set_option maxRecDepth 100000 in
set_option maxHeartbeats 4000000 in
theorem w_X12_isRest_151 {N : Nat} {Γ : SG} {ρ : Nat → Nat → Nat} (hs : Sh Γ ρ) {this : Nat} {a1 : Int32} {a2 : Int32} {a3 : Int32} {a4 : Int32} (h0 : Γ[this]? = some (0, 12)) {n0 : Nat} {r : Int32} {σr : St} (rec15 : Int32 → Int32 → Int32 → St → Option (Int32 × St)) (hrec15 : ∀ (x5 : Int32) (x6 : Int32) (x7 : Int32) (σ : St), rec15 x5 x6 x7 σ = some (r, σr) → Go mX12_isRest 3 0 0 n0 (Ki Γ ρ r σr) 0 0 15 [some (.ref this), some (.int a1), some (.int a2), some (.int a3), some (.int a4), some (.int x5), some (.int x6), some (.int x7)] [] (hp Γ ρ σ)) (x6 : Int32) (x7 : Int32) (s0 : Int32) (s1 : Int32) (s2 : Int32) (s4 : Int32) (σ : St) (hf : f_X12_isRest_151 N ρ this a1 a2 a3 a4 rec15 x6 x7 s0 s1 s2 s4 σ = some (r, σr)) : Go mX12_isRest 3 0 0 n0 (Ki Γ ρ r σr) 0 0 151 [some (.ref this), some (.int a1), some (.int a2), some (.int a3), some (.int a4), none, some (.int x6), some (.int x7)] [.int s0, .int s1, .int s2, .ref this, .int s4] (hp Γ ρ σ) := by
  unfold f_X12_isRest_151 at hf
  obtain ⟨r1, σ2, q3, hf⟩ := bnd_some hf
  refine go_Vi (av := [.int s2, .int s1, .int s0]) (rest := [.int s4]) (t_X12_goodOf hs h0 q3) ok_X12_goodOf ml_X12_507 dX12_isRest_151 h0 rfl rfl (by decide) (Nat.le_refl _) (Nat.le_refl _) (Nat.le_of_ble_eq_true rfl) ?_
  refine go_icmp_gt 161 dX12_isRest_154 (by decide) (fun c4 => ?_) (fun c4 => ?_)
  · replace hf := (if_pos c4).symm.trans hf
    exact w_X12_isRest_161 hs h0 rec15 hrec15 x6 x7 σ2 hf
  · replace hf := (if_neg c4).symm.trans hf
    refine go_iconst 1 dX12_isRest_157 (by decide) ?_
    refine go_goto 162 dX12_isRest_158 (by decide) ?_
    exact w_X12_isRest_162 hs h0 rec15 hrec15 x6 x7 1 σ2 hf
set_option maxRecDepth 100000 in
set_option maxHeartbeats 4000000 in
theorem w_X12_isRest_126 {N : Nat} {Γ : SG} {ρ : Nat → Nat → Nat} (hs : Sh Γ ρ) {this : Nat} {a1 : Int32} {a2 : Int32} {a3 : Int32} {a4 : Int32} (h0 : Γ[this]? = some (0, 12)) {n0 : Nat} {r : Int32} {σr : St} (rec15 : Int32 → Int32 → Int32 → St → Option (Int32 × St)) (hrec15 : ∀ (x5 : Int32) (x6 : Int32) (x7 : Int32) (σ : St), rec15 x5 x6 x7 σ = some (r, σr) → Go mX12_isRest 3 0 0 n0 (Ki Γ ρ r σr) 0 0 15 [some (.ref this), some (.int a1), some (.int a2), some (.int a3), some (.int a4), some (.int x5), some (.int x6), some (.int x7)] [] (hp Γ ρ σ)) (x6 : Int32) (x7 : Int32) (s0 : Int32) (s1 : Int32) (s2 : Int32) (σ : St) (hf : f_X12_isRest_126 N ρ this a1 a2 a3 a4 rec15 x6 x7 s0 s1 s2 σ = some (r, σr)) : Go mX12_isRest 3 0 0 n0 (Ki Γ ρ r σr) 0 0 126 [some (.ref this), some (.int a1), some (.int a2), some (.int a3), some (.int a4), none, some (.int x6), some (.int x7)] [.int s0, .int s1, .int s2, .ref this] (hp Γ ρ σ) := by
  unfold f_X12_isRest_126 at hf
  obtain ⟨r5, σ6, q7, hf⟩ := bnd_some hf
  refine go_Vi (av := [.int s2, .int s1, .int s0]) (rest := []) (t_X12_goodOf hs h0 q7) ok_X12_goodOf ml_X12_507 dX12_isRest_126 h0 rfl rfl (by decide) (Nat.le_refl _) (Nat.le_refl _) (Nat.le_of_ble_eq_true rfl) ?_
  refine go_aload_n 0 dX12_isRest_129 rfl rfl ?_
  refine go_iload_n 2 dX12_isRest_130 rfl rfl ?_
  refine go_iload dX12_isRest_131 rfl ?_
  refine go_aload_n 0 dX12_isRest_133 rfl rfl ?_
  refine go_fR fl_X12_124 dX12_isRest_134 h0 (by decide) rfl ?_
  refine go_iload dX12_isRest_137 rfl ?_
  obtain ⟨g8, hf⟩ := gd_some hf
  refine go_rI dX12_isRest_139 (hs.1 _ 12 66 h0 rfl) (ib_in g8) ?_
  refine go_iconst 2 dX12_isRest_140 (by decide) ?_
  refine go_iand dX12_isRest_141 ?_
  refine go_iconst 2 dX12_isRest_142 (by decide) ?_
  refine go_icmp_ne 150 dX12_isRest_143 (by decide) (fun c9 => ?_) (fun c9 => ?_)
  · replace hf := (if_neg c9).symm.trans hf
    refine go_iconst 0 dX12_isRest_150 (by decide) ?_
    exact w_X12_isRest_151 hs h0 rec15 hrec15 x6 x7 0 a4 a2 r5 σ6 hf
  · replace hf := (if_pos c9).symm.trans hf
    refine go_iconst 1 dX12_isRest_146 (by decide) ?_
    refine go_goto 151 dX12_isRest_147 (by decide) ?_
    exact w_X12_isRest_151 hs h0 rec15 hrec15 x6 x7 1 a4 a2 r5 σ6 hf
set_option maxRecDepth 100000 in
set_option maxHeartbeats 4000000 in
theorem w_X12_isRest_92 {N : Nat} {Γ : SG} {ρ : Nat → Nat → Nat} (hs : Sh Γ ρ) {this : Nat} {a1 : Int32} {a2 : Int32} {a3 : Int32} {a4 : Int32} (h0 : Γ[this]? = some (0, 12)) {n0 : Nat} {r : Int32} {σr : St} (rec15 : Int32 → Int32 → Int32 → St → Option (Int32 × St)) (hrec15 : ∀ (x5 : Int32) (x6 : Int32) (x7 : Int32) (σ : St), rec15 x5 x6 x7 σ = some (r, σr) → Go mX12_isRest 3 0 0 n0 (Ki Γ ρ r σr) 0 0 15 [some (.ref this), some (.int a1), some (.int a2), some (.int a3), some (.int a4), some (.int x5), some (.int x6), some (.int x7)] [] (hp Γ ρ σ)) (x6 : Int32) (x7 : Int32) (s0 : Int32) (σ : St) (hf : f_X12_isRest_92 N ρ this a1 a2 a3 a4 rec15 x6 x7 s0 σ = some (r, σr)) : Go mX12_isRest 3 0 0 n0 (Ki Γ ρ r σr) 0 0 92 [some (.ref this), some (.int a1), some (.int a2), some (.int a3), some (.int a4), none, some (.int x6), some (.int x7)] [.int s0] (hp Γ ρ σ) := by
  unfold f_X12_isRest_92 at hf
  refine go_istore [some (.ref this), some (.int a1), some (.int a2), some (.int a3), some (.int a4), some (.int s0), some (.int x6), some (.int x7)] dX12_isRest_92 (by decide) rfl ?_
  refine go_iload dX12_isRest_94 rfl ?_
  refine go_if_eq 161 dX12_isRest_96 (by decide) (fun c10 => ?_) (fun c10 => ?_)
  · replace hf := (if_pos c10).symm.trans hf
    refine go_msk [true, true, true, true, true, false, true, true] [some (.ref this), some (.int a1), some (.int a2), some (.int a3), some (.int a4), none, some (.int x6), some (.int x7)] rfl ?_
    exact w_X12_isRest_161 hs h0 rec15 hrec15 x6 x7 σ hf
  · replace hf := (if_neg c10).symm.trans hf
    refine go_aload_n 0 dX12_isRest_99 rfl rfl ?_
    refine go_iload_n 2 dX12_isRest_100 rfl rfl ?_
    refine go_iload dX12_isRest_101 rfl ?_
    refine go_aload_n 0 dX12_isRest_103 rfl rfl ?_
    refine go_fR fl_X12_124 dX12_isRest_104 h0 (by decide) rfl ?_
    refine go_bipush 6 dX12_isRest_107 (by decide) ?_
    refine go_iload_n 3 dX12_isRest_109 rfl rfl ?_
    refine go_imul dX12_isRest_110 ?_
    refine go_iload dX12_isRest_111 rfl ?_
    refine go_iadd dX12_isRest_113 ?_
    obtain ⟨g11, hf⟩ := gd_some hf
    refine go_rI dX12_isRest_114 (hs.1 _ 12 66 h0 rfl) (ib_in g11) ?_
    refine go_iconst 2 dX12_isRest_115 (by decide) ?_
    refine go_iand dX12_isRest_116 ?_
    refine go_iconst 2 dX12_isRest_117 (by decide) ?_
    refine go_icmp_ne 125 dX12_isRest_118 (by decide) (fun c12 => ?_) (fun c12 => ?_)
    · replace hf := (if_neg c12).symm.trans hf
      refine go_iconst 0 dX12_isRest_125 (by decide) ?_
      refine go_msk [true, true, true, true, true, false, true, true] [some (.ref this), some (.int a1), some (.int a2), some (.int a3), some (.int a4), none, some (.int x6), some (.int x7)] rfl ?_
      exact w_X12_isRest_126 hs h0 rec15 hrec15 x6 x7 0 x7 a2 σ hf
    · replace hf := (if_pos c12).symm.trans hf
      refine go_iconst 1 dX12_isRest_121 (by decide) ?_
      refine go_goto 126 dX12_isRest_122 (by decide) ?_
      refine go_msk [true, true, true, true, true, false, true, true] [some (.ref this), some (.int a1), some (.int a2), some (.int a3), some (.int a4), none, some (.int x6), some (.int x7)] rfl ?_
      exact w_X12_isRest_126 hs h0 rec15 hrec15 x6 x7 1 x7 a2 σ hf
set_option maxRecDepth 100000 in
set_option maxHeartbeats 4000000 in
theorem w_X12_isRest_91 {N : Nat} {Γ : SG} {ρ : Nat → Nat → Nat} (hs : Sh Γ ρ) {this : Nat} {a1 : Int32} {a2 : Int32} {a3 : Int32} {a4 : Int32} (h0 : Γ[this]? = some (0, 12)) {n0 : Nat} {r : Int32} {σr : St} (rec15 : Int32 → Int32 → Int32 → St → Option (Int32 × St)) (hrec15 : ∀ (x5 : Int32) (x6 : Int32) (x7 : Int32) (σ : St), rec15 x5 x6 x7 σ = some (r, σr) → Go mX12_isRest 3 0 0 n0 (Ki Γ ρ r σr) 0 0 15 [some (.ref this), some (.int a1), some (.int a2), some (.int a3), some (.int a4), some (.int x5), some (.int x6), some (.int x7)] [] (hp Γ ρ σ)) (x6 : Int32) (x7 : Int32) (σ : St) (hf : f_X12_isRest_91 N ρ this a1 a2 a3 a4 rec15 x6 x7 σ = some (r, σr)) : Go mX12_isRest 3 0 0 n0 (Ki Γ ρ r σr) 0 0 91 [some (.ref this), some (.int a1), some (.int a2), some (.int a3), some (.int a4), none, some (.int x6), some (.int x7)] [] (hp Γ ρ σ) := by
  unfold f_X12_isRest_91 at hf
  refine go_iconst 0 dX12_isRest_91 (by decide) ?_
  exact w_X12_isRest_92 hs h0 rec15 hrec15 x6 x7 0 σ hf
set_option maxRecDepth 100000 in
set_option maxHeartbeats 4000000 in
theorem w_X12_isRest_81 {N : Nat} {Γ : SG} {ρ : Nat → Nat → Nat} (hs : Sh Γ ρ) {this : Nat} {a1 : Int32} {a2 : Int32} {a3 : Int32} {a4 : Int32} (h0 : Γ[this]? = some (0, 12)) {n0 : Nat} {r : Int32} {σr : St} (rec15 : Int32 → Int32 → Int32 → St → Option (Int32 × St)) (hrec15 : ∀ (x5 : Int32) (x6 : Int32) (x7 : Int32) (σ : St), rec15 x5 x6 x7 σ = some (r, σr) → Go mX12_isRest 3 0 0 n0 (Ki Γ ρ r σr) 0 0 15 [some (.ref this), some (.int a1), some (.int a2), some (.int a3), some (.int a4), some (.int x5), some (.int x6), some (.int x7)] [] (hp Γ ρ σ)) (x6 : Int32) (x7 : Int32) (s0 : Int32) (s1 : Int32) (s2 : Int32) (s4 : Int32) (σ : St) (hf : f_X12_isRest_81 N ρ this a1 a2 a3 a4 rec15 x6 x7 s0 s1 s2 s4 σ = some (r, σr)) : Go mX12_isRest 3 0 0 n0 (Ki Γ ρ r σr) 0 0 81 [some (.ref this), some (.int a1), some (.int a2), some (.int a3), some (.int a4), none, some (.int x6), some (.int x7)] [.int s0, .int s1, .int s2, .ref this, .int s4] (hp Γ ρ σ) := by
  unfold f_X12_isRest_81 at hf
  obtain ⟨r13, σ14, q15, hf⟩ := bnd_some hf
  refine go_Vi (av := [.int s2, .int s1, .int s0]) (rest := [.int s4]) (t_X12_goodOf hs h0 q15) ok_X12_goodOf ml_X12_507 dX12_isRest_81 h0 rfl rfl (by decide) (Nat.le_refl _) (Nat.le_refl _) (Nat.le_of_ble_eq_true rfl) ?_
  refine go_icmp_gt 91 dX12_isRest_84 (by decide) (fun c16 => ?_) (fun c16 => ?_)
  · replace hf := (if_pos c16).symm.trans hf
    exact w_X12_isRest_91 hs h0 rec15 hrec15 x6 x7 σ14 hf
  · replace hf := (if_neg c16).symm.trans hf
    refine go_iconst 1 dX12_isRest_87 (by decide) ?_
    refine go_goto 92 dX12_isRest_88 (by decide) ?_
    exact w_X12_isRest_92 hs h0 rec15 hrec15 x6 x7 1 σ14 hf
set_option maxRecDepth 100000 in
set_option maxHeartbeats 4000000 in
theorem w_X12_isRest_57 {N : Nat} {Γ : SG} {ρ : Nat → Nat → Nat} (hs : Sh Γ ρ) {this : Nat} {a1 : Int32} {a2 : Int32} {a3 : Int32} {a4 : Int32} (h0 : Γ[this]? = some (0, 12)) {n0 : Nat} {r : Int32} {σr : St} (rec15 : Int32 → Int32 → Int32 → St → Option (Int32 × St)) (hrec15 : ∀ (x5 : Int32) (x6 : Int32) (x7 : Int32) (σ : St), rec15 x5 x6 x7 σ = some (r, σr) → Go mX12_isRest 3 0 0 n0 (Ki Γ ρ r σr) 0 0 15 [some (.ref this), some (.int a1), some (.int a2), some (.int a3), some (.int a4), some (.int x5), some (.int x6), some (.int x7)] [] (hp Γ ρ σ)) (x6 : Int32) (x7 : Int32) (s0 : Int32) (s1 : Int32) (s2 : Int32) (σ : St) (hf : f_X12_isRest_57 N ρ this a1 a2 a3 a4 rec15 x6 x7 s0 s1 s2 σ = some (r, σr)) : Go mX12_isRest 3 0 0 n0 (Ki Γ ρ r σr) 0 0 57 [some (.ref this), some (.int a1), some (.int a2), some (.int a3), some (.int a4), none, some (.int x6), some (.int x7)] [.int s0, .int s1, .int s2, .ref this] (hp Γ ρ σ) := by
  unfold f_X12_isRest_57 at hf
  obtain ⟨r17, σ18, q19, hf⟩ := bnd_some hf
  refine go_Vi (av := [.int s2, .int s1, .int s0]) (rest := []) (t_X12_goodOf hs h0 q19) ok_X12_goodOf ml_X12_507 dX12_isRest_57 h0 rfl rfl (by decide) (Nat.le_refl _) (Nat.le_refl _) (Nat.le_of_ble_eq_true rfl) ?_
  refine go_aload_n 0 dX12_isRest_60 rfl rfl ?_
  refine go_iload_n 1 dX12_isRest_61 rfl rfl ?_
  refine go_iload_n 3 dX12_isRest_62 rfl rfl ?_
  refine go_aload_n 0 dX12_isRest_63 rfl rfl ?_
  refine go_fR fl_X12_124 dX12_isRest_64 h0 (by decide) rfl ?_
  refine go_iload dX12_isRest_67 rfl ?_
  obtain ⟨g20, hf⟩ := gd_some hf
  refine go_rI dX12_isRest_69 (hs.1 _ 12 66 h0 rfl) (ib_in g20) ?_
  refine go_iconst 1 dX12_isRest_70 (by decide) ?_
  refine go_iand dX12_isRest_71 ?_
  refine go_iconst 1 dX12_isRest_72 (by decide) ?_
  refine go_icmp_ne 80 dX12_isRest_73 (by decide) (fun c21 => ?_) (fun c21 => ?_)
  · replace hf := (if_neg c21).symm.trans hf
    refine go_iconst 0 dX12_isRest_80 (by decide) ?_
    exact w_X12_isRest_81 hs h0 rec15 hrec15 x6 x7 0 a3 a1 r17 σ18 hf
  · replace hf := (if_pos c21).symm.trans hf
    refine go_iconst 1 dX12_isRest_76 (by decide) ?_
    refine go_goto 81 dX12_isRest_77 (by decide) ?_
    exact w_X12_isRest_81 hs h0 rec15 hrec15 x6 x7 1 a3 a1 r17 σ18 hf
set_option maxRecDepth 100000 in
set_option maxHeartbeats 4000000 in
theorem v_X12_isRest_15 {N : Nat} {Γ : SG} {ρ : Nat → Nat → Nat} (hs : Sh Γ ρ) {this : Nat} {a1 : Int32} {a2 : Int32} {a3 : Int32} {a4 : Int32} (h0 : Γ[this]? = some (0, 12)) {n0 : Nat} {r : Int32} {σr : St} (rec15 : Int32 → Int32 → Int32 → St → Option (Int32 × St)) (hrec15 : ∀ (x5 : Int32) (x6 : Int32) (x7 : Int32) (σ : St), rec15 x5 x6 x7 σ = some (r, σr) → Go mX12_isRest 3 0 0 n0 (Ki Γ ρ r σr) 0 0 15 [some (.ref this), some (.int a1), some (.int a2), some (.int a3), some (.int a4), some (.int x5), some (.int x6), some (.int x7)] [] (hp Γ ρ σ)) (x5 : Int32) (x6 : Int32) (x7 : Int32) (σ : St) (hf : b_X12_isRest_15 N ρ this a1 a2 a3 a4 rec15 x5 x6 x7 σ = some (r, σr)) : Go mX12_isRest 3 0 0 n0 (Ki Γ ρ r σr) 0 0 15 [some (.ref this), some (.int a1), some (.int a2), some (.int a3), some (.int a4), some (.int x5), some (.int x6), some (.int x7)] [] (hp Γ ρ σ) := by
  unfold b_X12_isRest_15 at hf
  refine go_iload dX12_isRest_15 rfl ?_
  refine go_aload_n 0 dX12_isRest_17 rfl rfl ?_
  refine go_fI fl_X12_392 dX12_isRest_18 h0 (by decide) rfl ?_
  refine go_icmp_ge 170 dX12_isRest_21 (by decide) (fun c22 => ?_) (fun c22 => ?_)
  · replace hf := (if_pos c22).symm.trans hf
    refine go_iload dX12_isRest_170 rfl ?_
    obtain ⟨g23, hf⟩ := gd_some hf
    cases hf
    exact go_zret rfl (bb_of g23) dX12_isRest_172 (Nat.le_refl _) ⟨rfl, rfl⟩
  · replace hf := (if_neg c22).symm.trans hf
    refine go_iload dX12_isRest_24 rfl ?_
    refine go_if_eq 91 dX12_isRest_26 (by decide) (fun c24 => ?_) (fun c24 => ?_)
    · replace hf := (if_pos c24).symm.trans hf
      refine go_msk [true, true, true, true, true, false, true, true] [some (.ref this), some (.int a1), some (.int a2), some (.int a3), some (.int a4), none, some (.int x6), some (.int x7)] rfl ?_
      exact w_X12_isRest_91 hs h0 rec15 hrec15 x6 x7 σ hf
    · replace hf := (if_neg c24).symm.trans hf
      refine go_aload_n 0 dX12_isRest_29 rfl rfl ?_
      refine go_iload_n 1 dX12_isRest_30 rfl rfl ?_
      refine go_iload dX12_isRest_31 rfl ?_
      refine go_aload_n 0 dX12_isRest_33 rfl rfl ?_
      refine go_fR fl_X12_124 dX12_isRest_34 h0 (by decide) rfl ?_
      refine go_bipush 6 dX12_isRest_37 (by decide) ?_
      refine go_iload dX12_isRest_39 rfl ?_
      refine go_imul dX12_isRest_41 ?_
      refine go_iload dX12_isRest_42 rfl ?_
      refine go_iadd dX12_isRest_44 ?_
      obtain ⟨g25, hf⟩ := gd_some hf
      refine go_rI dX12_isRest_45 (hs.1 _ 12 66 h0 rfl) (ib_in g25) ?_
      refine go_iconst 1 dX12_isRest_46 (by decide) ?_
      refine go_iand dX12_isRest_47 ?_
      refine go_iconst 1 dX12_isRest_48 (by decide) ?_
      refine go_icmp_ne 56 dX12_isRest_49 (by decide) (fun c26 => ?_) (fun c26 => ?_)
      · replace hf := (if_neg c26).symm.trans hf
        refine go_iconst 0 dX12_isRest_56 (by decide) ?_
        refine go_msk [true, true, true, true, true, false, true, true] [some (.ref this), some (.int a1), some (.int a2), some (.int a3), some (.int a4), none, some (.int x6), some (.int x7)] rfl ?_
        exact w_X12_isRest_57 hs h0 rec15 hrec15 x6 x7 0 x7 a1 σ hf
      · replace hf := (if_pos c26).symm.trans hf
        refine go_iconst 1 dX12_isRest_52 (by decide) ?_
        refine go_goto 57 dX12_isRest_53 (by decide) ?_
        refine go_msk [true, true, true, true, true, false, true, true] [some (.ref this), some (.int a1), some (.int a2), some (.int a3), some (.int a4), none, some (.int x6), some (.int x7)] rfl ?_
        exact w_X12_isRest_57 hs h0 rec15 hrec15 x6 x7 1 x7 a1 σ hf
theorem w_X12_isRest_15 {N : Nat} {Γ : SG} {ρ : Nat → Nat → Nat} (hs : Sh Γ ρ) {this : Nat} {a1 : Int32} {a2 : Int32} {a3 : Int32} {a4 : Int32} (h0 : Γ[this]? = some (0, 12)) {n0 : Nat} {r : Int32} {σr : St} : ∀ (n : Nat) (x5 : Int32) (x6 : Int32) (x7 : Int32) (σ : St), f_X12_isRest_15 N ρ this a1 a2 a3 a4 n x5 x6 x7 σ = some (r, σr) → Go mX12_isRest 3 0 0 n0 (Ki Γ ρ r σr) 0 0 15 [some (.ref this), some (.int a1), some (.int a2), some (.int a3), some (.int a4), some (.int x5), some (.int x6), some (.int x7)] [] (hp Γ ρ σ) := by
  intro n
  induction n with
  | zero => intro x5 x6 x7 σ hf; cases hf
  | succ n ih => intro x5 x6 x7 σ hf; exact v_X12_isRest_15 hs h0 _ ih x5 x6 x7 σ hf
set_option maxRecDepth 100000 in
set_option maxHeartbeats 4000000 in
theorem t_X12_isRest {N : Nat} {Γ : SG} {ρ : Nat → Nat → Nat} (hs : Sh Γ ρ) {this : Nat} {a1 : Int32} {a2 : Int32} {a3 : Int32} {a4 : Int32} (h0 : Γ[this]? = some (0, 12)) {σ : St} {r : Int32} {σr : St} (hf : f_X12_isRest N ρ this a1 a2 a3 a4 σ = some (r, σr)) : Tri mX12_isRest 3 0 0 [.ref this, .int a1, .int a2, .int a3, .int a4] (hp Γ ρ σ) (Ki Γ ρ r σr) := by
  unfold f_X12_isRest at hf
  refine tri_of [some (.ref this), some (.int a1), some (.int a2), some (.int a3), some (.int a4), none, none, none] (plainFor_of_name rfl) rfl (Nat.le_of_ble_eq_true rfl) ?_
  refine go_iconst 1 dX12_isRest_0 (by decide) ?_
  refine go_istore [some (.ref this), some (.int a1), some (.int a2), some (.int a3), some (.int a4), some (.int 1), none, none] dX12_isRest_1 (by decide) rfl ?_
  refine go_bipush 6 dX12_isRest_3 (by decide) ?_
  refine go_iload_n 3 dX12_isRest_5 rfl rfl ?_
  refine go_imul dX12_isRest_6 ?_
  refine go_iload dX12_isRest_7 rfl ?_
  refine go_iadd dX12_isRest_9 ?_
  obtain ⟨y27, ey27, hf⟩ := nmd_some hf
  refine go_nm ey27 ?_
  refine go_istore [some (.ref this), some (.int a1), some (.int a2), some (.int a3), some (.int a4), some (.int 1), some (.int y27), none] dX12_isRest_10 (by decide) rfl ?_
  refine go_iconst 0 dX12_isRest_12 (by decide) ?_
  refine go_istore [some (.ref this), some (.int a1), some (.int a2), some (.int a3), some (.int a4), some (.int 1), some (.int y27), some (.int 0)] dX12_isRest_13 (by decide) rfl ?_
  exact w_X12_isRest_15 hs h0 N 1 y27 0 σ hf
def f_X12_guests_33 (N : Nat) (ρ : Nat → Nat → Nat) (this : Nat) (a1 : Int32) (a2 : Int32) (σ : St) : Option (Int32 × St) :=
  some ((-1), σ)
def f_X12_guests_166 (N : Nat) (ρ : Nat → Nat → Nat) (this : Nat) (a1 : Int32) (a2 : Int32) (rec45 : Int32 → St → Option (Int32 × St)) (rec56 : Int32 → Int32 → St → Option (Int32 × St)) (x3 : Int32) (x4 : Int32) (s0 : Int32) (s1 : Int32) (σ : St) : Option (Int32 × St) :=
  gd (ib s1 36) <|
  nmd (sI σ (ρ this 66) s1.toNatClampNeg s0) fun σ2 =>
  rec56 x3 (x4 + 1) σ2
def f_X12_guests_157 (N : Nat) (ρ : Nat → Nat → Nat) (this : Nat) (a1 : Int32) (a2 : Int32) (rec45 : Int32 → St → Option (Int32 × St)) (rec56 : Int32 → Int32 → St → Option (Int32 × St)) (x3 : Int32) (x4 : Int32) (s0 : Int32) (s1 : Int32) (s2 : Int32) (s3 : Int32) (σ : St) : Option (Int32 × St) :=
  bnd (f_X12_truth N ρ s0 σ) fun r3 σ4 =>
  f_X12_guests_166 N ρ this a1 a2 rec45 rec56 x3 x4 (s2 + (s1 * r3)) s3 σ4
def f_X12_guests_139 (N : Nat) (ρ : Nat → Nat → Nat) (this : Nat) (a1 : Int32) (a2 : Int32) (rec45 : Int32 → St → Option (Int32 × St)) (rec56 : Int32 → Int32 → St → Option (Int32 × St)) (x3 : Int32) (x4 : Int32) (s0 : Int32) (s1 : Int32) (σ : St) : Option (Int32 × St) :=
  bnd (f_X12_truth N ρ s0 σ) fun r6 σ7 =>
  bnd (f_X12_fareOf N ρ this a2 σ7) fun r9 σ10 =>
  if (r9 : Int32) = 1 then
    f_X12_guests_157 N ρ this a1 a2 rec45 rec56 x3 x4 1 2 r6 s1 σ10
  else
    f_X12_guests_157 N ρ this a1 a2 rec45 rec56 x3 x4 0 2 r6 s1 σ10
def f_X12_guests_107 (N : Nat) (ρ : Nat → Nat → Nat) (this : Nat) (a1 : Int32) (a2 : Int32) (rec45 : Int32 → St → Option (Int32 × St)) (rec56 : Int32 → Int32 → St → Option (Int32 × St)) (x3 : Int32) (x4 : Int32) (s0 : Int32) (σ : St) : Option (Int32 × St) :=
  if (s0 : Int32) = 0 then
    f_X12_guests_166 N ρ this a1 a2 rec45 rec56 x3 x4 0 ((6 * x3) + x4) σ
  else
    bnd (f_X12_fareOf N ρ this a1 σ) fun r14 σ15 =>
    if (r14 : Int32) = 1 then
      f_X12_guests_139 N ρ this a1 a2 rec45 rec56 x3 x4 1 ((6 * x3) + x4) σ15
    else
      f_X12_guests_139 N ρ this a1 a2 rec45 rec56 x3 x4 0 ((6 * x3) + x4) σ15
def f_X12_guests_102 (N : Nat) (ρ : Nat → Nat → Nat) (this : Nat) (a1 : Int32) (a2 : Int32) (rec45 : Int32 → St → Option (Int32 × St)) (rec56 : Int32 → Int32 → St → Option (Int32 × St)) (x3 : Int32) (x4 : Int32) (σ : St) : Option (Int32 × St) :=
  f_X12_guests_107 N ρ this a1 a2 rec45 rec56 x3 x4 1 σ
def b_X12_guests_56 (N : Nat) (ρ : Nat → Nat → Nat) (this : Nat) (a1 : Int32) (a2 : Int32) (rec45 : Int32 → St → Option (Int32 × St)) (rec56 : Int32 → Int32 → St → Option (Int32 × St)) (x3 : Int32) (x4 : Int32) (σ : St) : Option (Int32 × St) :=
  if (σ.1 this 49) ≤ (x4 : Int32) then
    rec45 (x3 + 1) σ
  else
    gd (ib (15 + a1) 22) <|
    nmd (sI σ (ρ this 57) (15 + a1).toNatClampNeg x3) fun σ20 =>
    gd (ib (15 + a2) 22) <|
    nmd (sI σ20 (ρ this 57) (15 + a2).toNatClampNeg x4) fun σ22 =>
    if (x3 : Int32) = x4 then
      gd (ib x3 6) <|
      if (σ22.1 (ρ this 38) x3.toNatClampNeg : Int32) ≤ 1 then
        f_X12_guests_107 N ρ this a1 a2 rec45 rec56 x3 x4 0 σ22
      else
        f_X12_guests_102 N ρ this a1 a2 rec45 rec56 x3 x4 σ22
    else
      f_X12_guests_102 N ρ this a1 a2 rec45 rec56 x3 x4 σ22
def f_X12_guests_56 (N : Nat) (ρ : Nat → Nat → Nat) (this : Nat) (a1 : Int32) (a2 : Int32) (rec45 : Int32 → St → Option (Int32 × St)) : Nat → Int32 → Int32 → St → Option (Int32 × St)
  | 0, _, _, _ => none
  | n + 1, x3, x4, σ => b_X12_guests_56 N ρ this a1 a2 rec45 (f_X12_guests_56 N ρ this a1 a2 rec45 n) x3 x4 σ
def f_X12_guests_249 (N : Nat) (ρ : Nat → Nat → Nat) (this : Nat) (a1 : Int32) (a2 : Int32) (rec184 : Int32 → Int32 → St → Option (Int32 × St)) (rec196 : Int32 → Int32 → Int32 → St → Option (Int32 × St)) (x3 : Int32) (x4 : Int32) (x5 : Int32) (σ : St) : Option (Int32 × St) :=
  rec196 x3 x4 (x5 + 1) σ
def f_X12_guests_246 (N : Nat) (ρ : Nat → Nat → Nat) (this : Nat) (a1 : Int32) (a2 : Int32) (rec184 : Int32 → Int32 → St → Option (Int32 × St)) (rec196 : Int32 → Int32 → Int32 → St → Option (Int32 × St)) (x3 : Int32) (x4 : Int32) (x5 : Int32) (σ : St) : Option (Int32 × St) :=
  f_X12_guests_249 N ρ this a1 a2 rec184 rec196 (x3 + 1) x4 x5 σ
def b_X12_guests_196 (N : Nat) (ρ : Nat → Nat → Nat) (this : Nat) (a1 : Int32) (a2 : Int32) (rec184 : Int32 → Int32 → St → Option (Int32 × St)) (rec196 : Int32 → Int32 → Int32 → St → Option (Int32 × St)) (x3 : Int32) (x4 : Int32) (x5 : Int32) (σ : St) : Option (Int32 × St) :=
  if (σ.1 this 49) ≤ (x5 : Int32) then
    rec184 x3 (x4 + 1) σ
  else
    bnd (f_X12_isRest N ρ this a1 a2 x4 x5 σ) fun r27 σ28 =>
    if (r27 : Int32) = 0 then
      f_X12_guests_249 N ρ this a1 a2 rec184 rec196 x3 x4 x5 σ28
    else
      if (x3 : Int32) = 0 then
        gd (ib 0 5) <|
        nmd (sI σ28 (ρ this 64) (0 : Int32).toNatClampNeg x4) fun σ33 =>
        gd (ib 1 5) <|
        nmd (sI σ33 (ρ this 64) (1 : Int32).toNatClampNeg x5) fun σ35 =>
        nmd (sI σ35 this 65 2) fun σ36 =>
        f_X12_guests_246 N ρ this a1 a2 rec184 rec196 x3 x4 x5 σ36
      else
        f_X12_guests_246 N ρ this a1 a2 rec184 rec196 x3 x4 x5 σ28
def f_X12_guests_196 (N : Nat) (ρ : Nat → Nat → Nat) (this : Nat) (a1 : Int32) (a2 : Int32) (rec184 : Int32 → Int32 → St → Option (Int32 × St)) : Nat → Int32 → Int32 → Int32 → St → Option (Int32 × St)
  | 0, _, _, _, _ => none
  | n + 1, x3, x4, x5, σ => b_X12_guests_196 N ρ this a1 a2 rec184 (f_X12_guests_196 N ρ this a1 a2 rec184 n) x3 x4 x5 σ
def b_X12_guests_184 (N : Nat) (ρ : Nat → Nat → Nat) (this : Nat) (a1 : Int32) (a2 : Int32) (rec184 : Int32 → Int32 → St → Option (Int32 × St)) (x3 : Int32) (x4 : Int32) (σ : St) : Option (Int32 × St) :=
  if (σ.1 this 49) ≤ (x4 : Int32) then
    some (x3, σ)
  else
    f_X12_guests_196 N ρ this a1 a2 rec184 N x3 x4 0 σ
def f_X12_guests_184 (N : Nat) (ρ : Nat → Nat → Nat) (this : Nat) (a1 : Int32) (a2 : Int32) : Nat → Int32 → Int32 → St → Option (Int32 × St)
  | 0, _, _, _ => none
  | n + 1, x3, x4, σ => b_X12_guests_184 N ρ this a1 a2 (f_X12_guests_184 N ρ this a1 a2 n) x3 x4 σ
def b_X12_guests_45 (N : Nat) (ρ : Nat → Nat → Nat) (this : Nat) (a1 : Int32) (a2 : Int32) (rec45 : Int32 → St → Option (Int32 × St)) (x3 : Int32) (σ : St) : Option (Int32 × St) :=
  if (σ.1 this 49) ≤ (x3 : Int32) then
    f_X12_guests_184 N ρ this a1 a2 N 0 0 σ
  else
    f_X12_guests_56 N ρ this a1 a2 rec45 N x3 0 σ
def f_X12_guests_45 (N : Nat) (ρ : Nat → Nat → Nat) (this : Nat) (a1 : Int32) (a2 : Int32) : Nat → Int32 → St → Option (Int32 × St)
  | 0, _, _ => none
  | n + 1, x3, σ => b_X12_guests_45 N ρ this a1 a2 (f_X12_guests_45 N ρ this a1 a2 n) x3 σ
def f_X12_guests (N : Nat) (ρ : Nat → Nat → Nat) (this : Nat) (a1 : Int32) (a2 : Int32) (σ : St) : Option (Int32 × St) :=
  nmd (sI σ this 65 0) fun σ39 =>
  bnd (f_X12_isStool N ρ this a1 σ39) fun r40 σ41 =>
  if (r40 : Int32) = 0 then
    f_X12_guests_33 N ρ this a1 a2 σ41
  else
    bnd (f_X12_isStool N ρ this a2 σ41) fun r44 σ45 =>
    if (r44 : Int32) = 0 then
      f_X12_guests_33 N ρ this a1 a2 σ45
    else
      if (a1 : Int32) = a2 then
        f_X12_guests_33 N ρ this a1 a2 σ45
      else
        if (σ45.1 this 49 : Int32) = 0 then
          f_X12_guests_33 N ρ this a1 a2 σ45
        else
          bnd (f_X12_fill N ρ this σ45) fun _ σ51 =>
          bnd (f_X12_callAll N ρ this σ51) fun _ σ54 =>
          f_X12_guests_45 N ρ this a1 a2 N 0 σ54
set_option maxRecDepth 100000 in
set_option maxHeartbeats 4000000 in
theorem w_X12_guests_33 {N : Nat} {Γ : SG} {ρ : Nat → Nat → Nat} (hs : Sh Γ ρ) {this : Nat} {a1 : Int32} {a2 : Int32} (h0 : Γ[this]? = some (0, 12)) {n0 : Nat} {r : Int32} {σr : St} (σ : St) (hf : f_X12_guests_33 N ρ this a1 a2 σ = some (r, σr)) : Go mX12_guests 6 0 0 n0 (Ki Γ ρ r σr) 0 0 33 [none, none, none, none, none, none] [] (hp Γ ρ σ) := by
  unfold f_X12_guests_33 at hf
  refine go_iconst (-1) dX12_guests_33 (by decide) ?_
  cases hf
  exact go_iret rfl dX12_guests_34 (Nat.le_refl _) ⟨rfl, rfl⟩
set_option maxRecDepth 100000 in
set_option maxHeartbeats 4000000 in
theorem w_X12_guests_166 {N : Nat} {Γ : SG} {ρ : Nat → Nat → Nat} (hs : Sh Γ ρ) {this : Nat} {a1 : Int32} {a2 : Int32} (h0 : Γ[this]? = some (0, 12)) {n0 : Nat} {r : Int32} {σr : St} (rec45 : Int32 → St → Option (Int32 × St)) (hrec45 : ∀ (x3 : Int32) (σ : St), rec45 x3 σ = some (r, σr) → Go mX12_guests 6 0 0 n0 (Ki Γ ρ r σr) 0 0 45 [some (.ref this), some (.int a1), some (.int a2), some (.int x3), none, none] [] (hp Γ ρ σ)) (rec56 : Int32 → Int32 → St → Option (Int32 × St)) (hrec56 : ∀ (x3 : Int32) (x4 : Int32) (σ : St), rec56 x3 x4 σ = some (r, σr) → Go mX12_guests 6 0 0 n0 (Ki Γ ρ r σr) 0 0 56 [some (.ref this), some (.int a1), some (.int a2), some (.int x3), some (.int x4), none] [] (hp Γ ρ σ)) (x3 : Int32) (x4 : Int32) (s0 : Int32) (s1 : Int32) (σ : St) (hf : f_X12_guests_166 N ρ this a1 a2 rec45 rec56 x3 x4 s0 s1 σ = some (r, σr)) : Go mX12_guests 6 0 0 n0 (Ki Γ ρ r σr) 0 0 166 [some (.ref this), some (.int a1), some (.int a2), some (.int x3), some (.int x4), none] [.int s0, .int s1, .ref (ρ this 66)] (hp Γ ρ σ) := by
  unfold f_X12_guests_166 at hf
  obtain ⟨g1, hf⟩ := gd_some hf
  obtain ⟨σ2, eσ2, hf⟩ := nmd_some hf
  refine go_wI dX12_guests_166 (hs.1 _ 12 66 h0 rfl) (ib_in g1) ?_
  rw [eσ2]
  refine go_iinc (x4 + 1) [some (.ref this), some (.int a1), some (.int a2), some (.int x3), some (.int (x4 + 1)), none] dX12_guests_167 rfl rfl (by decide) rfl ?_
  refine go_goto 56 dX12_guests_170 (by decide) ?_
  exact hrec56 x3 (x4 + 1) σ2 hf
set_option maxRecDepth 100000 in
set_option maxHeartbeats 4000000 in
theorem w_X12_guests_157 {N : Nat} {Γ : SG} {ρ : Nat → Nat → Nat} (hs : Sh Γ ρ) {this : Nat} {a1 : Int32} {a2 : Int32} (h0 : Γ[this]? = some (0, 12)) {n0 : Nat} {r : Int32} {σr : St} (rec45 : Int32 → St → Option (Int32 × St)) (hrec45 : ∀ (x3 : Int32) (σ : St), rec45 x3 σ = some (r, σr) → Go mX12_guests 6 0 0 n0 (Ki Γ ρ r σr) 0 0 45 [some (.ref this), some (.int a1), some (.int a2), some (.int x3), none, none] [] (hp Γ ρ σ)) (rec56 : Int32 → Int32 → St → Option (Int32 × St)) (hrec56 : ∀ (x3 : Int32) (x4 : Int32) (σ : St), rec56 x3 x4 σ = some (r, σr) → Go mX12_guests 6 0 0 n0 (Ki Γ ρ r σr) 0 0 56 [some (.ref this), some (.int a1), some (.int a2), some (.int x3), some (.int x4), none] [] (hp Γ ρ σ)) (x3 : Int32) (x4 : Int32) (s0 : Int32) (s1 : Int32) (s2 : Int32) (s3 : Int32) (σ : St) (hf : f_X12_guests_157 N ρ this a1 a2 rec45 rec56 x3 x4 s0 s1 s2 s3 σ = some (r, σr)) : Go mX12_guests 6 0 0 n0 (Ki Γ ρ r σr) 0 0 157 [some (.ref this), some (.int a1), some (.int a2), some (.int x3), some (.int x4), none] [.int s0, .int s1, .int s2, .int s3, .ref (ρ this 66)] (hp Γ ρ σ) := by
  unfold f_X12_guests_157 at hf
  obtain ⟨r3, σ4, q5, hf⟩ := bnd_some hf
  refine go_Si (av := [.int s0]) (rest := [.int s1, .int s2, .int s3, .ref (ρ this 66)]) (t_X12_truth hs  q5) ok_X12_truth ml_X12_329 dX12_guests_157 rfl rfl (by decide) (Nat.le_refl _) (Nat.le_refl _) (Nat.le_of_ble_eq_true rfl) ?_
  refine go_imul dX12_guests_160 ?_
  refine go_iadd dX12_guests_161 ?_
  refine go_goto 166 dX12_guests_162 (by decide) ?_
  exact w_X12_guests_166 hs h0 rec45 hrec45 rec56 hrec56 x3 x4 (s2 + (s1 * r3)) s3 σ4 hf
set_option maxRecDepth 100000 in
set_option maxHeartbeats 4000000 in
theorem w_X12_guests_139 {N : Nat} {Γ : SG} {ρ : Nat → Nat → Nat} (hs : Sh Γ ρ) {this : Nat} {a1 : Int32} {a2 : Int32} (h0 : Γ[this]? = some (0, 12)) {n0 : Nat} {r : Int32} {σr : St} (rec45 : Int32 → St → Option (Int32 × St)) (hrec45 : ∀ (x3 : Int32) (σ : St), rec45 x3 σ = some (r, σr) → Go mX12_guests 6 0 0 n0 (Ki Γ ρ r σr) 0 0 45 [some (.ref this), some (.int a1), some (.int a2), some (.int x3), none, none] [] (hp Γ ρ σ)) (rec56 : Int32 → Int32 → St → Option (Int32 × St)) (hrec56 : ∀ (x3 : Int32) (x4 : Int32) (σ : St), rec56 x3 x4 σ = some (r, σr) → Go mX12_guests 6 0 0 n0 (Ki Γ ρ r σr) 0 0 56 [some (.ref this), some (.int a1), some (.int a2), some (.int x3), some (.int x4), none] [] (hp Γ ρ σ)) (x3 : Int32) (x4 : Int32) (s0 : Int32) (s1 : Int32) (σ : St) (hf : f_X12_guests_139 N ρ this a1 a2 rec45 rec56 x3 x4 s0 s1 σ = some (r, σr)) : Go mX12_guests 6 0 0 n0 (Ki Γ ρ r σr) 0 0 139 [some (.ref this), some (.int a1), some (.int a2), some (.int x3), some (.int x4), none] [.int s0, .int s1, .ref (ρ this 66)] (hp Γ ρ σ) := by
  unfold f_X12_guests_139 at hf
  obtain ⟨r6, σ7, q8, hf⟩ := bnd_some hf
  refine go_Si (av := [.int s0]) (rest := [.int s1, .ref (ρ this 66)]) (t_X12_truth hs  q8) ok_X12_truth ml_X12_329 dX12_guests_139 rfl rfl (by decide) (Nat.le_refl _) (Nat.le_refl _) (Nat.le_of_ble_eq_true rfl) ?_
  refine go_iconst 2 dX12_guests_142 (by decide) ?_
  refine go_aload_n 0 dX12_guests_143 rfl rfl ?_
  refine go_iload_n 2 dX12_guests_144 rfl rfl ?_
  obtain ⟨r9, σ10, q11, hf⟩ := bnd_some hf
  refine go_Vi (av := [.int a2]) (rest := [.int 2, .int r6, .int s1, .ref (ρ this 66)]) (t_X12_fareOf hs h0 q11) ok_X12_fareOf ml_X12_445 dX12_guests_145 h0 rfl rfl (by decide) (Nat.le_refl _) (Nat.le_refl _) (Nat.le_of_ble_eq_true rfl) ?_
  refine go_iconst 1 dX12_guests_148 (by decide) ?_
  refine go_icmp_ne 156 dX12_guests_149 (by decide) (fun c12 => ?_) (fun c12 => ?_)
  · replace hf := (if_neg c12).symm.trans hf
    refine go_iconst 0 dX12_guests_156 (by decide) ?_
    exact w_X12_guests_157 hs h0 rec45 hrec45 rec56 hrec56 x3 x4 0 2 r6 s1 σ10 hf
  · replace hf := (if_pos c12).symm.trans hf
    refine go_iconst 1 dX12_guests_152 (by decide) ?_
    refine go_goto 157 dX12_guests_153 (by decide) ?_
    exact w_X12_guests_157 hs h0 rec45 hrec45 rec56 hrec56 x3 x4 1 2 r6 s1 σ10 hf
set_option maxRecDepth 100000 in
set_option maxHeartbeats 4000000 in
theorem w_X12_guests_107 {N : Nat} {Γ : SG} {ρ : Nat → Nat → Nat} (hs : Sh Γ ρ) {this : Nat} {a1 : Int32} {a2 : Int32} (h0 : Γ[this]? = some (0, 12)) {n0 : Nat} {r : Int32} {σr : St} (rec45 : Int32 → St → Option (Int32 × St)) (hrec45 : ∀ (x3 : Int32) (σ : St), rec45 x3 σ = some (r, σr) → Go mX12_guests 6 0 0 n0 (Ki Γ ρ r σr) 0 0 45 [some (.ref this), some (.int a1), some (.int a2), some (.int x3), none, none] [] (hp Γ ρ σ)) (rec56 : Int32 → Int32 → St → Option (Int32 × St)) (hrec56 : ∀ (x3 : Int32) (x4 : Int32) (σ : St), rec56 x3 x4 σ = some (r, σr) → Go mX12_guests 6 0 0 n0 (Ki Γ ρ r σr) 0 0 56 [some (.ref this), some (.int a1), some (.int a2), some (.int x3), some (.int x4), none] [] (hp Γ ρ σ)) (x3 : Int32) (x4 : Int32) (s0 : Int32) (σ : St) (hf : f_X12_guests_107 N ρ this a1 a2 rec45 rec56 x3 x4 s0 σ = some (r, σr)) : Go mX12_guests 6 0 0 n0 (Ki Γ ρ r σr) 0 0 107 [some (.ref this), some (.int a1), some (.int a2), some (.int x3), some (.int x4), none] [.int s0] (hp Γ ρ σ) := by
  unfold f_X12_guests_107 at hf
  refine go_istore [some (.ref this), some (.int a1), some (.int a2), some (.int x3), some (.int x4), some (.int s0)] dX12_guests_107 (by decide) rfl ?_
  refine go_aload_n 0 dX12_guests_109 rfl rfl ?_
  refine go_fR fl_X12_124 dX12_guests_110 h0 (by decide) rfl ?_
  refine go_bipush 6 dX12_guests_113 (by decide) ?_
  refine go_iload_n 3 dX12_guests_115 rfl rfl ?_
  refine go_imul dX12_guests_116 ?_
  refine go_iload dX12_guests_117 rfl ?_
  refine go_iadd dX12_guests_119 ?_
  refine go_iload dX12_guests_120 rfl ?_
  refine go_if_eq 165 dX12_guests_122 (by decide) (fun c13 => ?_) (fun c13 => ?_)
  · replace hf := (if_pos c13).symm.trans hf
    refine go_iconst 0 dX12_guests_165 (by decide) ?_
    refine go_msk [true, true, true, true, true, false] [some (.ref this), some (.int a1), some (.int a2), some (.int x3), some (.int x4), none] rfl ?_
    exact w_X12_guests_166 hs h0 rec45 hrec45 rec56 hrec56 x3 x4 0 ((6 * x3) + x4) σ hf
  · replace hf := (if_neg c13).symm.trans hf
    refine go_aload_n 0 dX12_guests_125 rfl rfl ?_
    refine go_iload_n 1 dX12_guests_126 rfl rfl ?_
    obtain ⟨r14, σ15, q16, hf⟩ := bnd_some hf
    refine go_Vi (av := [.int a1]) (rest := [.int ((6 * x3) + x4), .ref (ρ this 66)]) (t_X12_fareOf hs h0 q16) ok_X12_fareOf ml_X12_445 dX12_guests_127 h0 rfl rfl (by decide) (Nat.le_refl _) (Nat.le_refl _) (Nat.le_of_ble_eq_true rfl) ?_
    refine go_iconst 1 dX12_guests_130 (by decide) ?_
    refine go_icmp_ne 138 dX12_guests_131 (by decide) (fun c17 => ?_) (fun c17 => ?_)
    · replace hf := (if_neg c17).symm.trans hf
      refine go_iconst 0 dX12_guests_138 (by decide) ?_
      refine go_msk [true, true, true, true, true, false] [some (.ref this), some (.int a1), some (.int a2), some (.int x3), some (.int x4), none] rfl ?_
      exact w_X12_guests_139 hs h0 rec45 hrec45 rec56 hrec56 x3 x4 0 ((6 * x3) + x4) σ15 hf
    · replace hf := (if_pos c17).symm.trans hf
      refine go_iconst 1 dX12_guests_134 (by decide) ?_
      refine go_goto 139 dX12_guests_135 (by decide) ?_
      refine go_msk [true, true, true, true, true, false] [some (.ref this), some (.int a1), some (.int a2), some (.int x3), some (.int x4), none] rfl ?_
      exact w_X12_guests_139 hs h0 rec45 hrec45 rec56 hrec56 x3 x4 1 ((6 * x3) + x4) σ15 hf
set_option maxRecDepth 100000 in
set_option maxHeartbeats 4000000 in
theorem w_X12_guests_102 {N : Nat} {Γ : SG} {ρ : Nat → Nat → Nat} (hs : Sh Γ ρ) {this : Nat} {a1 : Int32} {a2 : Int32} (h0 : Γ[this]? = some (0, 12)) {n0 : Nat} {r : Int32} {σr : St} (rec45 : Int32 → St → Option (Int32 × St)) (hrec45 : ∀ (x3 : Int32) (σ : St), rec45 x3 σ = some (r, σr) → Go mX12_guests 6 0 0 n0 (Ki Γ ρ r σr) 0 0 45 [some (.ref this), some (.int a1), some (.int a2), some (.int x3), none, none] [] (hp Γ ρ σ)) (rec56 : Int32 → Int32 → St → Option (Int32 × St)) (hrec56 : ∀ (x3 : Int32) (x4 : Int32) (σ : St), rec56 x3 x4 σ = some (r, σr) → Go mX12_guests 6 0 0 n0 (Ki Γ ρ r σr) 0 0 56 [some (.ref this), some (.int a1), some (.int a2), some (.int x3), some (.int x4), none] [] (hp Γ ρ σ)) (x3 : Int32) (x4 : Int32) (σ : St) (hf : f_X12_guests_102 N ρ this a1 a2 rec45 rec56 x3 x4 σ = some (r, σr)) : Go mX12_guests 6 0 0 n0 (Ki Γ ρ r σr) 0 0 102 [some (.ref this), some (.int a1), some (.int a2), some (.int x3), some (.int x4), none] [] (hp Γ ρ σ) := by
  unfold f_X12_guests_102 at hf
  refine go_iconst 1 dX12_guests_102 (by decide) ?_
  refine go_goto 107 dX12_guests_103 (by decide) ?_
  exact w_X12_guests_107 hs h0 rec45 hrec45 rec56 hrec56 x3 x4 1 σ hf
set_option maxRecDepth 100000 in
set_option maxHeartbeats 4000000 in
theorem v_X12_guests_56 {N : Nat} {Γ : SG} {ρ : Nat → Nat → Nat} (hs : Sh Γ ρ) {this : Nat} {a1 : Int32} {a2 : Int32} (h0 : Γ[this]? = some (0, 12)) {n0 : Nat} {r : Int32} {σr : St} (rec45 : Int32 → St → Option (Int32 × St)) (hrec45 : ∀ (x3 : Int32) (σ : St), rec45 x3 σ = some (r, σr) → Go mX12_guests 6 0 0 n0 (Ki Γ ρ r σr) 0 0 45 [some (.ref this), some (.int a1), some (.int a2), some (.int x3), none, none] [] (hp Γ ρ σ)) (rec56 : Int32 → Int32 → St → Option (Int32 × St)) (hrec56 : ∀ (x3 : Int32) (x4 : Int32) (σ : St), rec56 x3 x4 σ = some (r, σr) → Go mX12_guests 6 0 0 n0 (Ki Γ ρ r σr) 0 0 56 [some (.ref this), some (.int a1), some (.int a2), some (.int x3), some (.int x4), none] [] (hp Γ ρ σ)) (x3 : Int32) (x4 : Int32) (σ : St) (hf : b_X12_guests_56 N ρ this a1 a2 rec45 rec56 x3 x4 σ = some (r, σr)) : Go mX12_guests 6 0 0 n0 (Ki Γ ρ r σr) 0 0 56 [some (.ref this), some (.int a1), some (.int a2), some (.int x3), some (.int x4), none] [] (hp Γ ρ σ) := by
  unfold b_X12_guests_56 at hf
  refine go_iload dX12_guests_56 rfl ?_
  refine go_aload_n 0 dX12_guests_58 rfl rfl ?_
  refine go_fI fl_X12_392 dX12_guests_59 h0 (by decide) rfl ?_
  refine go_icmp_ge 173 dX12_guests_62 (by decide) (fun c18 => ?_) (fun c18 => ?_)
  · replace hf := (if_pos c18).symm.trans hf
    refine go_iinc (x3 + 1) [some (.ref this), some (.int a1), some (.int a2), some (.int (x3 + 1)), some (.int x4), none] dX12_guests_173 rfl rfl (by decide) rfl ?_
    refine go_goto 45 dX12_guests_176 (by decide) ?_
    refine go_msk [true, true, true, true, false, false] [some (.ref this), some (.int a1), some (.int a2), some (.int (x3 + 1)), none, none] rfl ?_
    exact hrec45 (x3 + 1) σ hf
  · replace hf := (if_neg c18).symm.trans hf
    refine go_aload_n 0 dX12_guests_65 rfl rfl ?_
    refine go_fR fl_X12_106 dX12_guests_66 h0 (by decide) rfl ?_
    refine go_bipush 15 dX12_guests_69 (by decide) ?_
    refine go_iload_n 1 dX12_guests_71 rfl rfl ?_
    refine go_iadd dX12_guests_72 ?_
    refine go_iload_n 3 dX12_guests_73 rfl rfl ?_
    obtain ⟨g19, hf⟩ := gd_some hf
    obtain ⟨σ20, eσ20, hf⟩ := nmd_some hf
    refine go_wI dX12_guests_74 (hs.1 _ 12 57 h0 rfl) (ib_in g19) ?_
    rw [eσ20]
    refine go_aload_n 0 dX12_guests_75 rfl rfl ?_
    refine go_fR fl_X12_106 dX12_guests_76 h0 (by decide) rfl ?_
    refine go_bipush 15 dX12_guests_79 (by decide) ?_
    refine go_iload_n 2 dX12_guests_81 rfl rfl ?_
    refine go_iadd dX12_guests_82 ?_
    refine go_iload dX12_guests_83 rfl ?_
    obtain ⟨g21, hf⟩ := gd_some hf
    obtain ⟨σ22, eσ22, hf⟩ := nmd_some hf
    refine go_wI dX12_guests_85 (hs.1 _ 12 57 h0 rfl) (ib_in g21) ?_
    rw [eσ22]
    refine go_iload_n 3 dX12_guests_86 rfl rfl ?_
    refine go_iload dX12_guests_87 rfl ?_
    refine go_icmp_ne 102 dX12_guests_89 (by decide) (fun c23 => ?_) (fun c23 => ?_)
    · replace hf := (if_neg c23).symm.trans hf
      exact w_X12_guests_102 hs h0 rec45 hrec45 rec56 hrec56 x3 x4 σ22 hf
    · replace hf := (if_pos c23).symm.trans hf
      refine go_aload_n 0 dX12_guests_92 rfl rfl ?_
      refine go_fR fl_X12_82 dX12_guests_93 h0 (by decide) rfl ?_
      refine go_iload_n 3 dX12_guests_96 rfl rfl ?_
      obtain ⟨g24, hf⟩ := gd_some hf
      refine go_rI dX12_guests_97 (hs.1 _ 12 38 h0 rfl) (ib_in g24) ?_
      refine go_iconst 1 dX12_guests_98 (by decide) ?_
      refine go_icmp_le 106 dX12_guests_99 (by decide) (fun c25 => ?_) (fun c25 => ?_)
      · replace hf := (if_pos c25).symm.trans hf
        refine go_iconst 0 dX12_guests_106 (by decide) ?_
        exact w_X12_guests_107 hs h0 rec45 hrec45 rec56 hrec56 x3 x4 0 σ22 hf
      · replace hf := (if_neg c25).symm.trans hf
        exact w_X12_guests_102 hs h0 rec45 hrec45 rec56 hrec56 x3 x4 σ22 hf
theorem w_X12_guests_56 {N : Nat} {Γ : SG} {ρ : Nat → Nat → Nat} (hs : Sh Γ ρ) {this : Nat} {a1 : Int32} {a2 : Int32} (h0 : Γ[this]? = some (0, 12)) {n0 : Nat} {r : Int32} {σr : St} (rec45 : Int32 → St → Option (Int32 × St)) (hrec45 : ∀ (x3 : Int32) (σ : St), rec45 x3 σ = some (r, σr) → Go mX12_guests 6 0 0 n0 (Ki Γ ρ r σr) 0 0 45 [some (.ref this), some (.int a1), some (.int a2), some (.int x3), none, none] [] (hp Γ ρ σ)) : ∀ (n : Nat) (x3 : Int32) (x4 : Int32) (σ : St), f_X12_guests_56 N ρ this a1 a2 rec45 n x3 x4 σ = some (r, σr) → Go mX12_guests 6 0 0 n0 (Ki Γ ρ r σr) 0 0 56 [some (.ref this), some (.int a1), some (.int a2), some (.int x3), some (.int x4), none] [] (hp Γ ρ σ) := by
  intro n
  induction n with
  | zero => intro x3 x4 σ hf; cases hf
  | succ n ih => intro x3 x4 σ hf; exact v_X12_guests_56 hs h0 rec45 hrec45 _ ih x3 x4 σ hf
set_option maxRecDepth 100000 in
set_option maxHeartbeats 4000000 in
theorem w_X12_guests_249 {N : Nat} {Γ : SG} {ρ : Nat → Nat → Nat} (hs : Sh Γ ρ) {this : Nat} {a1 : Int32} {a2 : Int32} (h0 : Γ[this]? = some (0, 12)) {n0 : Nat} {r : Int32} {σr : St} (rec184 : Int32 → Int32 → St → Option (Int32 × St)) (hrec184 : ∀ (x3 : Int32) (x4 : Int32) (σ : St), rec184 x3 x4 σ = some (r, σr) → Go mX12_guests 6 0 0 n0 (Ki Γ ρ r σr) 0 0 184 [some (.ref this), some (.int a1), some (.int a2), some (.int x3), some (.int x4), none] [] (hp Γ ρ σ)) (rec196 : Int32 → Int32 → Int32 → St → Option (Int32 × St)) (hrec196 : ∀ (x3 : Int32) (x4 : Int32) (x5 : Int32) (σ : St), rec196 x3 x4 x5 σ = some (r, σr) → Go mX12_guests 6 0 0 n0 (Ki Γ ρ r σr) 0 0 196 [some (.ref this), some (.int a1), some (.int a2), some (.int x3), some (.int x4), some (.int x5)] [] (hp Γ ρ σ)) (x3 : Int32) (x4 : Int32) (x5 : Int32) (σ : St) (hf : f_X12_guests_249 N ρ this a1 a2 rec184 rec196 x3 x4 x5 σ = some (r, σr)) : Go mX12_guests 6 0 0 n0 (Ki Γ ρ r σr) 0 0 249 [some (.ref this), some (.int a1), some (.int a2), some (.int x3), some (.int x4), some (.int x5)] [] (hp Γ ρ σ) := by
  unfold f_X12_guests_249 at hf
  refine go_iinc (x5 + 1) [some (.ref this), some (.int a1), some (.int a2), some (.int x3), some (.int x4), some (.int (x5 + 1))] dX12_guests_249 rfl rfl (by decide) rfl ?_
  refine go_goto 196 dX12_guests_252 (by decide) ?_
  exact hrec196 x3 x4 (x5 + 1) σ hf
set_option maxRecDepth 100000 in
set_option maxHeartbeats 4000000 in
theorem w_X12_guests_246 {N : Nat} {Γ : SG} {ρ : Nat → Nat → Nat} (hs : Sh Γ ρ) {this : Nat} {a1 : Int32} {a2 : Int32} (h0 : Γ[this]? = some (0, 12)) {n0 : Nat} {r : Int32} {σr : St} (rec184 : Int32 → Int32 → St → Option (Int32 × St)) (hrec184 : ∀ (x3 : Int32) (x4 : Int32) (σ : St), rec184 x3 x4 σ = some (r, σr) → Go mX12_guests 6 0 0 n0 (Ki Γ ρ r σr) 0 0 184 [some (.ref this), some (.int a1), some (.int a2), some (.int x3), some (.int x4), none] [] (hp Γ ρ σ)) (rec196 : Int32 → Int32 → Int32 → St → Option (Int32 × St)) (hrec196 : ∀ (x3 : Int32) (x4 : Int32) (x5 : Int32) (σ : St), rec196 x3 x4 x5 σ = some (r, σr) → Go mX12_guests 6 0 0 n0 (Ki Γ ρ r σr) 0 0 196 [some (.ref this), some (.int a1), some (.int a2), some (.int x3), some (.int x4), some (.int x5)] [] (hp Γ ρ σ)) (x3 : Int32) (x4 : Int32) (x5 : Int32) (σ : St) (hf : f_X12_guests_246 N ρ this a1 a2 rec184 rec196 x3 x4 x5 σ = some (r, σr)) : Go mX12_guests 6 0 0 n0 (Ki Γ ρ r σr) 0 0 246 [some (.ref this), some (.int a1), some (.int a2), some (.int x3), some (.int x4), some (.int x5)] [] (hp Γ ρ σ) := by
  unfold f_X12_guests_246 at hf
  refine go_iinc (x3 + 1) [some (.ref this), some (.int a1), some (.int a2), some (.int (x3 + 1)), some (.int x4), some (.int x5)] dX12_guests_246 rfl rfl (by decide) rfl ?_
  exact w_X12_guests_249 hs h0 rec184 hrec184 rec196 hrec196 (x3 + 1) x4 x5 σ hf
set_option maxRecDepth 100000 in
set_option maxHeartbeats 4000000 in
theorem v_X12_guests_196 {N : Nat} {Γ : SG} {ρ : Nat → Nat → Nat} (hs : Sh Γ ρ) {this : Nat} {a1 : Int32} {a2 : Int32} (h0 : Γ[this]? = some (0, 12)) {n0 : Nat} {r : Int32} {σr : St} (rec184 : Int32 → Int32 → St → Option (Int32 × St)) (hrec184 : ∀ (x3 : Int32) (x4 : Int32) (σ : St), rec184 x3 x4 σ = some (r, σr) → Go mX12_guests 6 0 0 n0 (Ki Γ ρ r σr) 0 0 184 [some (.ref this), some (.int a1), some (.int a2), some (.int x3), some (.int x4), none] [] (hp Γ ρ σ)) (rec196 : Int32 → Int32 → Int32 → St → Option (Int32 × St)) (hrec196 : ∀ (x3 : Int32) (x4 : Int32) (x5 : Int32) (σ : St), rec196 x3 x4 x5 σ = some (r, σr) → Go mX12_guests 6 0 0 n0 (Ki Γ ρ r σr) 0 0 196 [some (.ref this), some (.int a1), some (.int a2), some (.int x3), some (.int x4), some (.int x5)] [] (hp Γ ρ σ)) (x3 : Int32) (x4 : Int32) (x5 : Int32) (σ : St) (hf : b_X12_guests_196 N ρ this a1 a2 rec184 rec196 x3 x4 x5 σ = some (r, σr)) : Go mX12_guests 6 0 0 n0 (Ki Γ ρ r σr) 0 0 196 [some (.ref this), some (.int a1), some (.int a2), some (.int x3), some (.int x4), some (.int x5)] [] (hp Γ ρ σ) := by
  unfold b_X12_guests_196 at hf
  refine go_iload dX12_guests_196 rfl ?_
  refine go_aload_n 0 dX12_guests_198 rfl rfl ?_
  refine go_fI fl_X12_392 dX12_guests_199 h0 (by decide) rfl ?_
  refine go_icmp_ge 255 dX12_guests_202 (by decide) (fun c26 => ?_) (fun c26 => ?_)
  · replace hf := (if_pos c26).symm.trans hf
    refine go_iinc (x4 + 1) [some (.ref this), some (.int a1), some (.int a2), some (.int x3), some (.int (x4 + 1)), some (.int x5)] dX12_guests_255 rfl rfl (by decide) rfl ?_
    refine go_goto 184 dX12_guests_258 (by decide) ?_
    refine go_msk [true, true, true, true, true, false] [some (.ref this), some (.int a1), some (.int a2), some (.int x3), some (.int (x4 + 1)), none] rfl ?_
    exact hrec184 x3 (x4 + 1) σ hf
  · replace hf := (if_neg c26).symm.trans hf
    refine go_aload_n 0 dX12_guests_205 rfl rfl ?_
    refine go_iload_n 1 dX12_guests_206 rfl rfl ?_
    refine go_iload_n 2 dX12_guests_207 rfl rfl ?_
    refine go_iload dX12_guests_208 rfl ?_
    refine go_iload dX12_guests_210 rfl ?_
    obtain ⟨r27, σ28, q29, hf⟩ := bnd_some hf
    refine go_Vi (av := [.int a1, .int a2, .int x4, .int x5]) (rest := []) (t_X12_isRest hs h0 q29) ok_X12_isRest ml_X12_514 dX12_guests_212 h0 rfl rfl (by decide) (Nat.le_refl _) (Nat.le_refl _) (Nat.le_of_ble_eq_true rfl) ?_
    refine go_if_ne 221 dX12_guests_215 (by decide) (fun c30 => ?_) (fun c30 => ?_)
    · replace hf := (if_neg c30).symm.trans hf
      refine go_iload_n 3 dX12_guests_221 rfl rfl ?_
      refine go_if_ne 246 dX12_guests_222 (by decide) (fun c31 => ?_) (fun c31 => ?_)
      · replace hf := (if_neg c31).symm.trans hf
        exact w_X12_guests_246 hs h0 rec184 hrec184 rec196 hrec196 x3 x4 x5 σ28 hf
      · replace hf := (if_pos c31).symm.trans hf
        refine go_aload_n 0 dX12_guests_225 rfl rfl ?_
        refine go_fR fl_X12_121 dX12_guests_226 h0 (by decide) rfl ?_
        refine go_iconst 0 dX12_guests_229 (by decide) ?_
        refine go_iload dX12_guests_230 rfl ?_
        obtain ⟨g32, hf⟩ := gd_some hf
        obtain ⟨σ33, eσ33, hf⟩ := nmd_some hf
        refine go_wI dX12_guests_232 (hs.1 _ 12 64 h0 rfl) (ib_in g32) ?_
        rw [eσ33]
        refine go_aload_n 0 dX12_guests_233 rfl rfl ?_
        refine go_fR fl_X12_121 dX12_guests_234 h0 (by decide) rfl ?_
        refine go_iconst 1 dX12_guests_237 (by decide) ?_
        refine go_iload dX12_guests_238 rfl ?_
        obtain ⟨g34, hf⟩ := gd_some hf
        obtain ⟨σ35, eσ35, hf⟩ := nmd_some hf
        refine go_wI dX12_guests_240 (hs.1 _ 12 64 h0 rfl) (ib_in g34) ?_
        rw [eσ35]
        refine go_aload_n 0 dX12_guests_241 rfl rfl ?_
        refine go_iconst 2 dX12_guests_242 (by decide) ?_
        obtain ⟨σ36, eσ36, hf⟩ := nmd_some hf
        refine go_pI fl_X12_419 ft_12_65 (okv_i _) dX12_guests_243 h0 (by decide) rfl ?_
        rw [eσ36]
        exact w_X12_guests_246 hs h0 rec184 hrec184 rec196 hrec196 x3 x4 x5 σ36 hf
    · replace hf := (if_pos c30).symm.trans hf
      refine go_goto 249 dX12_guests_218 (by decide) ?_
      exact w_X12_guests_249 hs h0 rec184 hrec184 rec196 hrec196 x3 x4 x5 σ28 hf
theorem w_X12_guests_196 {N : Nat} {Γ : SG} {ρ : Nat → Nat → Nat} (hs : Sh Γ ρ) {this : Nat} {a1 : Int32} {a2 : Int32} (h0 : Γ[this]? = some (0, 12)) {n0 : Nat} {r : Int32} {σr : St} (rec184 : Int32 → Int32 → St → Option (Int32 × St)) (hrec184 : ∀ (x3 : Int32) (x4 : Int32) (σ : St), rec184 x3 x4 σ = some (r, σr) → Go mX12_guests 6 0 0 n0 (Ki Γ ρ r σr) 0 0 184 [some (.ref this), some (.int a1), some (.int a2), some (.int x3), some (.int x4), none] [] (hp Γ ρ σ)) : ∀ (n : Nat) (x3 : Int32) (x4 : Int32) (x5 : Int32) (σ : St), f_X12_guests_196 N ρ this a1 a2 rec184 n x3 x4 x5 σ = some (r, σr) → Go mX12_guests 6 0 0 n0 (Ki Γ ρ r σr) 0 0 196 [some (.ref this), some (.int a1), some (.int a2), some (.int x3), some (.int x4), some (.int x5)] [] (hp Γ ρ σ) := by
  intro n
  induction n with
  | zero => intro x3 x4 x5 σ hf; cases hf
  | succ n ih => intro x3 x4 x5 σ hf; exact v_X12_guests_196 hs h0 rec184 hrec184 _ ih x3 x4 x5 σ hf
set_option maxRecDepth 100000 in
set_option maxHeartbeats 4000000 in
theorem v_X12_guests_184 {N : Nat} {Γ : SG} {ρ : Nat → Nat → Nat} (hs : Sh Γ ρ) {this : Nat} {a1 : Int32} {a2 : Int32} (h0 : Γ[this]? = some (0, 12)) {n0 : Nat} {r : Int32} {σr : St} (rec184 : Int32 → Int32 → St → Option (Int32 × St)) (hrec184 : ∀ (x3 : Int32) (x4 : Int32) (σ : St), rec184 x3 x4 σ = some (r, σr) → Go mX12_guests 6 0 0 n0 (Ki Γ ρ r σr) 0 0 184 [some (.ref this), some (.int a1), some (.int a2), some (.int x3), some (.int x4), none] [] (hp Γ ρ σ)) (x3 : Int32) (x4 : Int32) (σ : St) (hf : b_X12_guests_184 N ρ this a1 a2 rec184 x3 x4 σ = some (r, σr)) : Go mX12_guests 6 0 0 n0 (Ki Γ ρ r σr) 0 0 184 [some (.ref this), some (.int a1), some (.int a2), some (.int x3), some (.int x4), none] [] (hp Γ ρ σ) := by
  unfold b_X12_guests_184 at hf
  refine go_iload dX12_guests_184 rfl ?_
  refine go_aload_n 0 dX12_guests_186 rfl rfl ?_
  refine go_fI fl_X12_392 dX12_guests_187 h0 (by decide) rfl ?_
  refine go_icmp_ge 261 dX12_guests_190 (by decide) (fun c37 => ?_) (fun c37 => ?_)
  · replace hf := (if_pos c37).symm.trans hf
    refine go_iload_n 3 dX12_guests_261 rfl rfl ?_
    cases hf
    exact go_iret rfl dX12_guests_262 (Nat.le_refl _) ⟨rfl, rfl⟩
  · replace hf := (if_neg c37).symm.trans hf
    refine go_iconst 0 dX12_guests_193 (by decide) ?_
    refine go_istore [some (.ref this), some (.int a1), some (.int a2), some (.int x3), some (.int x4), some (.int 0)] dX12_guests_194 (by decide) rfl ?_
    exact w_X12_guests_196 hs h0 rec184 hrec184 N x3 x4 0 σ hf
theorem w_X12_guests_184 {N : Nat} {Γ : SG} {ρ : Nat → Nat → Nat} (hs : Sh Γ ρ) {this : Nat} {a1 : Int32} {a2 : Int32} (h0 : Γ[this]? = some (0, 12)) {n0 : Nat} {r : Int32} {σr : St} : ∀ (n : Nat) (x3 : Int32) (x4 : Int32) (σ : St), f_X12_guests_184 N ρ this a1 a2 n x3 x4 σ = some (r, σr) → Go mX12_guests 6 0 0 n0 (Ki Γ ρ r σr) 0 0 184 [some (.ref this), some (.int a1), some (.int a2), some (.int x3), some (.int x4), none] [] (hp Γ ρ σ) := by
  intro n
  induction n with
  | zero => intro x3 x4 σ hf; cases hf
  | succ n ih => intro x3 x4 σ hf; exact v_X12_guests_184 hs h0 _ ih x3 x4 σ hf
set_option maxRecDepth 100000 in
set_option maxHeartbeats 4000000 in
theorem v_X12_guests_45 {N : Nat} {Γ : SG} {ρ : Nat → Nat → Nat} (hs : Sh Γ ρ) {this : Nat} {a1 : Int32} {a2 : Int32} (h0 : Γ[this]? = some (0, 12)) {n0 : Nat} {r : Int32} {σr : St} (rec45 : Int32 → St → Option (Int32 × St)) (hrec45 : ∀ (x3 : Int32) (σ : St), rec45 x3 σ = some (r, σr) → Go mX12_guests 6 0 0 n0 (Ki Γ ρ r σr) 0 0 45 [some (.ref this), some (.int a1), some (.int a2), some (.int x3), none, none] [] (hp Γ ρ σ)) (x3 : Int32) (σ : St) (hf : b_X12_guests_45 N ρ this a1 a2 rec45 x3 σ = some (r, σr)) : Go mX12_guests 6 0 0 n0 (Ki Γ ρ r σr) 0 0 45 [some (.ref this), some (.int a1), some (.int a2), some (.int x3), none, none] [] (hp Γ ρ σ) := by
  unfold b_X12_guests_45 at hf
  refine go_iload_n 3 dX12_guests_45 rfl rfl ?_
  refine go_aload_n 0 dX12_guests_46 rfl rfl ?_
  refine go_fI fl_X12_392 dX12_guests_47 h0 (by decide) rfl ?_
  refine go_icmp_ge 179 dX12_guests_50 (by decide) (fun c38 => ?_) (fun c38 => ?_)
  · replace hf := (if_pos c38).symm.trans hf
    refine go_iconst 0 dX12_guests_179 (by decide) ?_
    refine go_istore_n 3 [some (.ref this), some (.int a1), some (.int a2), some (.int 0), none, none] dX12_guests_180 rfl (by decide) rfl ?_
    refine go_iconst 0 dX12_guests_181 (by decide) ?_
    refine go_istore [some (.ref this), some (.int a1), some (.int a2), some (.int 0), some (.int 0), none] dX12_guests_182 (by decide) rfl ?_
    exact w_X12_guests_184 hs h0 N 0 0 σ hf
  · replace hf := (if_neg c38).symm.trans hf
    refine go_iconst 0 dX12_guests_53 (by decide) ?_
    refine go_istore [some (.ref this), some (.int a1), some (.int a2), some (.int x3), some (.int 0), none] dX12_guests_54 (by decide) rfl ?_
    exact w_X12_guests_56 hs h0 rec45 hrec45 N x3 0 σ hf
theorem w_X12_guests_45 {N : Nat} {Γ : SG} {ρ : Nat → Nat → Nat} (hs : Sh Γ ρ) {this : Nat} {a1 : Int32} {a2 : Int32} (h0 : Γ[this]? = some (0, 12)) {n0 : Nat} {r : Int32} {σr : St} : ∀ (n : Nat) (x3 : Int32) (σ : St), f_X12_guests_45 N ρ this a1 a2 n x3 σ = some (r, σr) → Go mX12_guests 6 0 0 n0 (Ki Γ ρ r σr) 0 0 45 [some (.ref this), some (.int a1), some (.int a2), some (.int x3), none, none] [] (hp Γ ρ σ) := by
  intro n
  induction n with
  | zero => intro x3 σ hf; cases hf
  | succ n ih => intro x3 σ hf; exact v_X12_guests_45 hs h0 _ ih x3 σ hf
set_option maxRecDepth 100000 in
set_option maxHeartbeats 4000000 in
theorem t_X12_guests {N : Nat} {Γ : SG} {ρ : Nat → Nat → Nat} (hs : Sh Γ ρ) {this : Nat} {a1 : Int32} {a2 : Int32} (h0 : Γ[this]? = some (0, 12)) {σ : St} {r : Int32} {σr : St} (hf : f_X12_guests N ρ this a1 a2 σ = some (r, σr)) : Tri mX12_guests 6 0 0 [.ref this, .int a1, .int a2] (hp Γ ρ σ) (Ki Γ ρ r σr) := by
  unfold f_X12_guests at hf
  refine tri_of [some (.ref this), some (.int a1), some (.int a2), none, none, none] (plainFor_of_name rfl) rfl (Nat.le_of_ble_eq_true rfl) ?_
  refine go_aload_n 0 dX12_guests_0 rfl rfl ?_
  refine go_iconst 0 dX12_guests_1 (by decide) ?_
  obtain ⟨σ39, eσ39, hf⟩ := nmd_some hf
  refine go_pI fl_X12_419 ft_12_65 (okv_i _) dX12_guests_2 h0 (by decide) rfl ?_
  rw [eσ39]
  refine go_aload_n 0 dX12_guests_5 rfl rfl ?_
  refine go_iload_n 1 dX12_guests_6 rfl rfl ?_
  obtain ⟨r40, σ41, q42, hf⟩ := bnd_some hf
  refine go_Vi (av := [.int a1]) (rest := []) (t_X12_isStool hs h0 q42) ok_X12_isStool ml_X12_454 dX12_guests_7 h0 rfl rfl (by decide) (Nat.le_refl _) (Nat.le_refl _) (Nat.le_of_ble_eq_true rfl) ?_
  refine go_if_eq 33 dX12_guests_10 (by decide) (fun c43 => ?_) (fun c43 => ?_)
  · replace hf := (if_pos c43).symm.trans hf
    refine go_msk [false, false, false, false, false, false] [none, none, none, none, none, none] rfl ?_
    exact w_X12_guests_33 hs h0 σ41 hf
  · replace hf := (if_neg c43).symm.trans hf
    refine go_aload_n 0 dX12_guests_13 rfl rfl ?_
    refine go_iload_n 2 dX12_guests_14 rfl rfl ?_
    obtain ⟨r44, σ45, q46, hf⟩ := bnd_some hf
    refine go_Vi (av := [.int a2]) (rest := []) (t_X12_isStool hs h0 q46) ok_X12_isStool ml_X12_454 dX12_guests_15 h0 rfl rfl (by decide) (Nat.le_refl _) (Nat.le_refl _) (Nat.le_of_ble_eq_true rfl) ?_
    refine go_if_eq 33 dX12_guests_18 (by decide) (fun c47 => ?_) (fun c47 => ?_)
    · replace hf := (if_pos c47).symm.trans hf
      refine go_msk [false, false, false, false, false, false] [none, none, none, none, none, none] rfl ?_
      exact w_X12_guests_33 hs h0 σ45 hf
    · replace hf := (if_neg c47).symm.trans hf
      refine go_iload_n 1 dX12_guests_21 rfl rfl ?_
      refine go_iload_n 2 dX12_guests_22 rfl rfl ?_
      refine go_icmp_eq 33 dX12_guests_23 (by decide) (fun c48 => ?_) (fun c48 => ?_)
      · replace hf := (if_pos c48).symm.trans hf
        refine go_msk [false, false, false, false, false, false] [none, none, none, none, none, none] rfl ?_
        exact w_X12_guests_33 hs h0 σ45 hf
      · replace hf := (if_neg c48).symm.trans hf
        refine go_aload_n 0 dX12_guests_26 rfl rfl ?_
        refine go_fI fl_X12_392 dX12_guests_27 h0 (by decide) rfl ?_
        refine go_if_ne 35 dX12_guests_30 (by decide) (fun c49 => ?_) (fun c49 => ?_)
        · replace hf := (if_neg c49).symm.trans hf
          refine go_aload_n 0 dX12_guests_35 rfl rfl ?_
          obtain ⟨r50, σ51, q52, hf⟩ := bnd_some hf
          refine go_Vv (av := []) (rest := []) (t_X12_fill hs h0 q52) ok_X12_fill ml_X12_451 dX12_guests_36 h0 rfl rfl (by decide) (Nat.le_refl _) (Nat.le_refl _) (Nat.le_of_ble_eq_true rfl) ?_
          refine go_aload_n 0 dX12_guests_39 rfl rfl ?_
          obtain ⟨r53, σ54, q55, hf⟩ := bnd_some hf
          refine go_Vv (av := []) (rest := []) (t_X12_callAll hs h0 q55) ok_X12_callAll ml_X12_511 dX12_guests_40 h0 rfl rfl (by decide) (Nat.le_refl _) (Nat.le_refl _) (Nat.le_of_ble_eq_true rfl) ?_
          refine go_iconst 0 dX12_guests_43 (by decide) ?_
          refine go_istore_n 3 [some (.ref this), some (.int a1), some (.int a2), some (.int 0), none, none] dX12_guests_44 rfl (by decide) rfl ?_
          exact w_X12_guests_45 hs h0 N 0 σ54 hf
        · replace hf := (if_pos c49).symm.trans hf
          refine go_msk [false, false, false, false, false, false] [none, none, none, none, none, none] rfl ?_
          exact w_X12_guests_33 hs h0 σ45 hf
def b_X12_layCould_23 (N : Nat) (ρ : Nat → Nat → Nat) (this : Nat) (rec6 : Int32 → St → Option (Int32 × St)) (rec23 : Int32 → Int32 → St → Option (Int32 × St)) (x1 : Int32) (x2 : Int32) (σ : St) : Option (Int32 × St) :=
  if (σ.1 this 49) ≤ (x2 : Int32) then
    rec6 (x1 + 1) σ
  else
    gd (ib x1 5) <|
    bnd (f_X12_countsAlone N ρ this x1 x2 σ) fun r3 σ4 =>
    bnd (f_X12_truth N ρ r3 σ4) fun r6 σ7 =>
    gd (ib x1 5) <|
    nmd (sI σ7 (ρ this 67) x1.toNatClampNeg ((σ.1 (ρ this 67) x1.toNatClampNeg) ||| (r6 <<< (x2 &&& 31)))) fun σ10 =>
    rec23 x1 (x2 + 1) σ10
def f_X12_layCould_23 (N : Nat) (ρ : Nat → Nat → Nat) (this : Nat) (rec6 : Int32 → St → Option (Int32 × St)) : Nat → Int32 → Int32 → St → Option (Int32 × St)
  | 0, _, _, _ => none
  | n + 1, x1, x2, σ => b_X12_layCould_23 N ρ this rec6 (f_X12_layCould_23 N ρ this rec6 n) x1 x2 σ
def b_X12_layCould_6 (N : Nat) (ρ : Nat → Nat → Nat) (this : Nat) (rec6 : Int32 → St → Option (Int32 × St)) (x1 : Int32) (σ : St) : Option (Int32 × St) :=
  if (σ.1 this 50) ≤ (x1 : Int32) then
    some (0, σ)
  else
    gd (ib x1 5) <|
    nmd (sI σ (ρ this 67) x1.toNatClampNeg 0) fun σ13 =>
    f_X12_layCould_23 N ρ this rec6 N x1 0 σ13
def f_X12_layCould_6 (N : Nat) (ρ : Nat → Nat → Nat) (this : Nat) : Nat → Int32 → St → Option (Int32 × St)
  | 0, _, _ => none
  | n + 1, x1, σ => b_X12_layCould_6 N ρ this (f_X12_layCould_6 N ρ this n) x1 σ
def f_X12_layCould (N : Nat) (ρ : Nat → Nat → Nat) (this : Nat) (σ : St) : Option (Int32 × St) :=
  bnd (f_X12_fill N ρ this σ) fun _ σ15 =>
  f_X12_layCould_6 N ρ this N 0 σ15
set_option maxRecDepth 100000 in
set_option maxHeartbeats 4000000 in
theorem v_X12_layCould_23 {N : Nat} {Γ : SG} {ρ : Nat → Nat → Nat} (hs : Sh Γ ρ) {this : Nat} (h0 : Γ[this]? = some (0, 12)) {n0 : Nat} {r : Int32} {σr : St} (rec6 : Int32 → St → Option (Int32 × St)) (hrec6 : ∀ (x1 : Int32) (σ : St), rec6 x1 σ = some (r, σr) → Go mX12_layCould 7 0 0 n0 (Kv Γ ρ σr) 0 0 6 [some (.ref this), some (.int x1), none] [] (hp Γ ρ σ)) (rec23 : Int32 → Int32 → St → Option (Int32 × St)) (hrec23 : ∀ (x1 : Int32) (x2 : Int32) (σ : St), rec23 x1 x2 σ = some (r, σr) → Go mX12_layCould 7 0 0 n0 (Kv Γ ρ σr) 0 0 23 [some (.ref this), some (.int x1), some (.int x2)] [] (hp Γ ρ σ)) (x1 : Int32) (x2 : Int32) (σ : St) (hf : b_X12_layCould_23 N ρ this rec6 rec23 x1 x2 σ = some (r, σr)) : Go mX12_layCould 7 0 0 n0 (Kv Γ ρ σr) 0 0 23 [some (.ref this), some (.int x1), some (.int x2)] [] (hp Γ ρ σ) := by
  unfold b_X12_layCould_23 at hf
  refine go_iload_n 2 dX12_layCould_23 rfl rfl ?_
  refine go_aload_n 0 dX12_layCould_24 rfl rfl ?_
  refine go_fI fl_X12_392 dX12_layCould_25 h0 (by decide) rfl ?_
  refine go_icmp_ge 57 dX12_layCould_28 (by decide) (fun c1 => ?_) (fun c1 => ?_)
  · replace hf := (if_pos c1).symm.trans hf
    refine go_iinc (x1 + 1) [some (.ref this), some (.int (x1 + 1)), some (.int x2)] dX12_layCould_57 rfl rfl (by decide) rfl ?_
    refine go_goto 6 dX12_layCould_60 (by decide) ?_
    refine go_msk [true, true, false] [some (.ref this), some (.int (x1 + 1)), none] rfl ?_
    exact hrec6 (x1 + 1) σ hf
  · replace hf := (if_neg c1).symm.trans hf
    refine go_aload_n 0 dX12_layCould_31 rfl rfl ?_
    refine go_fR fl_X12_127 dX12_layCould_32 h0 (by decide) rfl ?_
    refine go_iload_n 1 dX12_layCould_35 rfl rfl ?_
    refine go_dup2 dX12_layCould_36 rfl rfl ?_
    obtain ⟨g2, hf⟩ := gd_some hf
    refine go_rI dX12_layCould_37 (hs.1 _ 12 67 h0 rfl) (ib_in g2) ?_
    refine go_aload_n 0 dX12_layCould_38 rfl rfl ?_
    refine go_iload_n 1 dX12_layCould_39 rfl rfl ?_
    refine go_iload_n 2 dX12_layCould_40 rfl rfl ?_
    obtain ⟨r3, σ4, q5, hf⟩ := bnd_some hf
    refine go_Vi (av := [.int x1, .int x2]) (rest := [.int (σ.1 (ρ this 67) x1.toNatClampNeg), .int x1, .ref (ρ this 67)]) (t_X12_countsAlone hs h0 q5) ok_X12_countsAlone ml_X12_503 dX12_layCould_41 h0 rfl rfl (by decide) (Nat.le_refl _) (Nat.le_refl _) (Nat.le_of_ble_eq_true rfl) ?_
    obtain ⟨r6, σ7, q8, hf⟩ := bnd_some hf
    refine go_Si (av := [.int r3]) (rest := [.int (σ.1 (ρ this 67) x1.toNatClampNeg), .int x1, .ref (ρ this 67)]) (t_X12_truth hs  q8) ok_X12_truth ml_X12_329 dX12_layCould_44 rfl rfl (by decide) (Nat.le_refl _) (Nat.le_refl _) (Nat.le_of_ble_eq_true rfl) ?_
    refine go_iload_n 2 dX12_layCould_47 rfl rfl ?_
    refine go_ishl dX12_layCould_48 ?_
    refine go_ior dX12_layCould_49 ?_
    obtain ⟨g9, hf⟩ := gd_some hf
    obtain ⟨σ10, eσ10, hf⟩ := nmd_some hf
    refine go_wI dX12_layCould_50 (hs.1 _ 12 67 h0 rfl) (ib_in g9) ?_
    rw [eσ10]
    refine go_iinc (x2 + 1) [some (.ref this), some (.int x1), some (.int (x2 + 1))] dX12_layCould_51 rfl rfl (by decide) rfl ?_
    refine go_goto 23 dX12_layCould_54 (by decide) ?_
    exact hrec23 x1 (x2 + 1) σ10 hf
theorem w_X12_layCould_23 {N : Nat} {Γ : SG} {ρ : Nat → Nat → Nat} (hs : Sh Γ ρ) {this : Nat} (h0 : Γ[this]? = some (0, 12)) {n0 : Nat} {r : Int32} {σr : St} (rec6 : Int32 → St → Option (Int32 × St)) (hrec6 : ∀ (x1 : Int32) (σ : St), rec6 x1 σ = some (r, σr) → Go mX12_layCould 7 0 0 n0 (Kv Γ ρ σr) 0 0 6 [some (.ref this), some (.int x1), none] [] (hp Γ ρ σ)) : ∀ (n : Nat) (x1 : Int32) (x2 : Int32) (σ : St), f_X12_layCould_23 N ρ this rec6 n x1 x2 σ = some (r, σr) → Go mX12_layCould 7 0 0 n0 (Kv Γ ρ σr) 0 0 23 [some (.ref this), some (.int x1), some (.int x2)] [] (hp Γ ρ σ) := by
  intro n
  induction n with
  | zero => intro x1 x2 σ hf; cases hf
  | succ n ih => intro x1 x2 σ hf; exact v_X12_layCould_23 hs h0 rec6 hrec6 _ ih x1 x2 σ hf
set_option maxRecDepth 100000 in
set_option maxHeartbeats 4000000 in
theorem v_X12_layCould_6 {N : Nat} {Γ : SG} {ρ : Nat → Nat → Nat} (hs : Sh Γ ρ) {this : Nat} (h0 : Γ[this]? = some (0, 12)) {n0 : Nat} {r : Int32} {σr : St} (rec6 : Int32 → St → Option (Int32 × St)) (hrec6 : ∀ (x1 : Int32) (σ : St), rec6 x1 σ = some (r, σr) → Go mX12_layCould 7 0 0 n0 (Kv Γ ρ σr) 0 0 6 [some (.ref this), some (.int x1), none] [] (hp Γ ρ σ)) (x1 : Int32) (σ : St) (hf : b_X12_layCould_6 N ρ this rec6 x1 σ = some (r, σr)) : Go mX12_layCould 7 0 0 n0 (Kv Γ ρ σr) 0 0 6 [some (.ref this), some (.int x1), none] [] (hp Γ ρ σ) := by
  unfold b_X12_layCould_6 at hf
  refine go_iload_n 1 dX12_layCould_6 rfl rfl ?_
  refine go_aload_n 0 dX12_layCould_7 rfl rfl ?_
  refine go_fI fl_X12_395 dX12_layCould_8 h0 (by decide) rfl ?_
  refine go_icmp_ge 63 dX12_layCould_11 (by decide) (fun c11 => ?_) (fun c11 => ?_)
  · replace hf := (if_pos c11).symm.trans hf
    cases hf
    exact go_vret rfl dX12_layCould_63 (Nat.le_refl _) ⟨rfl, rfl⟩
  · replace hf := (if_neg c11).symm.trans hf
    refine go_aload_n 0 dX12_layCould_14 rfl rfl ?_
    refine go_fR fl_X12_127 dX12_layCould_15 h0 (by decide) rfl ?_
    refine go_iload_n 1 dX12_layCould_18 rfl rfl ?_
    refine go_iconst 0 dX12_layCould_19 (by decide) ?_
    obtain ⟨g12, hf⟩ := gd_some hf
    obtain ⟨σ13, eσ13, hf⟩ := nmd_some hf
    refine go_wI dX12_layCould_20 (hs.1 _ 12 67 h0 rfl) (ib_in g12) ?_
    rw [eσ13]
    refine go_iconst 0 dX12_layCould_21 (by decide) ?_
    refine go_istore_n 2 [some (.ref this), some (.int x1), some (.int 0)] dX12_layCould_22 rfl (by decide) rfl ?_
    exact w_X12_layCould_23 hs h0 rec6 hrec6 N x1 0 σ13 hf
theorem w_X12_layCould_6 {N : Nat} {Γ : SG} {ρ : Nat → Nat → Nat} (hs : Sh Γ ρ) {this : Nat} (h0 : Γ[this]? = some (0, 12)) {n0 : Nat} {r : Int32} {σr : St} : ∀ (n : Nat) (x1 : Int32) (σ : St), f_X12_layCould_6 N ρ this n x1 σ = some (r, σr) → Go mX12_layCould 7 0 0 n0 (Kv Γ ρ σr) 0 0 6 [some (.ref this), some (.int x1), none] [] (hp Γ ρ σ) := by
  intro n
  induction n with
  | zero => intro x1 σ hf; cases hf
  | succ n ih => intro x1 σ hf; exact v_X12_layCould_6 hs h0 _ ih x1 σ hf
set_option maxRecDepth 100000 in
set_option maxHeartbeats 4000000 in
theorem t_X12_layCould {N : Nat} {Γ : SG} {ρ : Nat → Nat → Nat} (hs : Sh Γ ρ) {this : Nat} (h0 : Γ[this]? = some (0, 12)) {σ : St} {r : Int32} {σr : St} (hf : f_X12_layCould N ρ this σ = some (r, σr)) : Tri mX12_layCould 7 0 0 [.ref this] (hp Γ ρ σ) (Kv Γ ρ σr) := by
  unfold f_X12_layCould at hf
  refine tri_of [some (.ref this), none, none] (plainFor_of_name rfl) rfl (Nat.le_of_ble_eq_true rfl) ?_
  refine go_aload_n 0 dX12_layCould_0 rfl rfl ?_
  obtain ⟨r14, σ15, q16, hf⟩ := bnd_some hf
  refine go_Vv (av := []) (rest := []) (t_X12_fill hs h0 q16) ok_X12_fill ml_X12_451 dX12_layCould_1 h0 rfl rfl (by decide) (Nat.le_refl _) (Nat.le_refl _) (Nat.le_of_ble_eq_true rfl) ?_
  refine go_iconst 0 dX12_layCould_4 (by decide) ?_
  refine go_istore_n 1 [some (.ref this), some (.int 0), none] dX12_layCould_5 rfl (by decide) rfl ?_
  exact w_X12_layCould_6 hs h0 N 0 σ15 hf
def f_X12_cover_92 (N : Nat) (ρ : Nat → Nat → Nat) (this : Nat) (a1 : Int32) (rec26 : Int32 → Int32 → St → Option (Int32 × St)) (rec51 : Int32 → Int32 → Int32 → Int32 → St → Option (Int32 × St)) (x2 : Int32) (x3 : Int32) (x5 : Int32) (s0 : Int32) (σ : St) : Option (Int32 × St) :=
  rec51 x2 x3 s0 (x5 + 1) σ
def f_X12_cover_87 (N : Nat) (ρ : Nat → Nat → Nat) (this : Nat) (a1 : Int32) (rec26 : Int32 → Int32 → St → Option (Int32 × St)) (rec51 : Int32 → Int32 → Int32 → Int32 → St → Option (Int32 × St)) (x2 : Int32) (x3 : Int32) (x5 : Int32) (σ : St) : Option (Int32 × St) :=
  f_X12_cover_92 N ρ this a1 rec26 rec51 x2 x3 x5 1 σ
def f_X12_cover_91 (N : Nat) (ρ : Nat → Nat → Nat) (this : Nat) (a1 : Int32) (rec26 : Int32 → Int32 → St → Option (Int32 × St)) (rec51 : Int32 → Int32 → Int32 → Int32 → St → Option (Int32 × St)) (x2 : Int32) (x3 : Int32) (x5 : Int32) (σ : St) : Option (Int32 × St) :=
  f_X12_cover_92 N ρ this a1 rec26 rec51 x2 x3 x5 0 σ
def f_X12_cover_107 (N : Nat) (ρ : Nat → Nat → Nat) (this : Nat) (a1 : Int32) (rec26 : Int32 → Int32 → St → Option (Int32 × St)) (x2 : Int32) (x3 : Int32) (σ : St) : Option (Int32 × St) :=
  rec26 x2 (x3 + (-1)) σ
def b_X12_cover_51 (N : Nat) (ρ : Nat → Nat → Nat) (this : Nat) (a1 : Int32) (rec26 : Int32 → Int32 → St → Option (Int32 × St)) (rec51 : Int32 → Int32 → Int32 → Int32 → St → Option (Int32 × St)) (x2 : Int32) (x3 : Int32) (x4 : Int32) (x5 : Int32) (σ : St) : Option (Int32 × St) :=
  if (σ.1 this 50) ≤ (x5 : Int32) then
    if (x4 : Int32) = 0 then
      f_X12_cover_107 N ρ this a1 rec26 x2 x3 σ
    else
      f_X12_cover_107 N ρ this a1 rec26 x3 x3 σ
  else
    if (x4 : Int32) = 0 then
      f_X12_cover_91 N ρ this a1 rec26 rec51 x2 x3 x5 σ
    else
      gd (ib x5 5) <|
      if (σ.1 (ρ this 67) x5.toNatClampNeg : Int32) = 0 then
        f_X12_cover_87 N ρ this a1 rec26 rec51 x2 x3 x5 σ
      else
        gd (ib x5 5) <|
        if ((σ.1 (ρ this 67) x5.toNatClampNeg) &&& x3 : Int32) = 0 then
          f_X12_cover_91 N ρ this a1 rec26 rec51 x2 x3 x5 σ
        else
          f_X12_cover_87 N ρ this a1 rec26 rec51 x2 x3 x5 σ
def f_X12_cover_51 (N : Nat) (ρ : Nat → Nat → Nat) (this : Nat) (a1 : Int32) (rec26 : Int32 → Int32 → St → Option (Int32 × St)) : Nat → Int32 → Int32 → Int32 → Int32 → St → Option (Int32 × St)
  | 0, _, _, _, _, _ => none
  | n + 1, x2, x3, x4, x5, σ => b_X12_cover_51 N ρ this a1 rec26 (f_X12_cover_51 N ρ this a1 rec26 n) x2 x3 x4 x5 σ
def f_X12_cover_46 (N : Nat) (ρ : Nat → Nat → Nat) (this : Nat) (a1 : Int32) (rec26 : Int32 → Int32 → St → Option (Int32 × St)) (x2 : Int32) (x3 : Int32) (s0 : Int32) (σ : St) : Option (Int32 × St) :=
  f_X12_cover_51 N ρ this a1 rec26 N x2 x3 s0 0 σ
def f_X12_cover_125 (N : Nat) (ρ : Nat → Nat → Nat) (this : Nat) (a1 : Int32) (s0 : Int32) (σ : St) : Option (Int32 × St) :=
  some (s0, σ)
def b_X12_cover_26 (N : Nat) (ρ : Nat → Nat → Nat) (this : Nat) (a1 : Int32) (rec26 : Int32 → Int32 → St → Option (Int32 × St)) (x2 : Int32) (x3 : Int32) (σ : St) : Option (Int32 × St) :=
  if (x3 : Int32) < 0 then
    if (a1 : Int32) = 0 then
      bnd (f_X12_members N ρ x2 σ) fun r10 σ11 =>
      f_X12_cover_125 N ρ this a1 r10 σ11
    else
      f_X12_cover_125 N ρ this a1 x2 σ
  else
    bnd (f_X12_members N ρ x3 σ) fun r13 σ14 =>
    bnd (f_X12_members N ρ x2 σ14) fun r16 σ17 =>
    if r16 < (r13 : Int32) then
      f_X12_cover_46 N ρ this a1 rec26 x2 x3 0 σ17
    else
      f_X12_cover_46 N ρ this a1 rec26 x2 x3 1 σ17
def f_X12_cover_26 (N : Nat) (ρ : Nat → Nat → Nat) (this : Nat) (a1 : Int32) : Nat → Int32 → Int32 → St → Option (Int32 × St)
  | 0, _, _, _ => none
  | n + 1, x2, x3, σ => b_X12_cover_26 N ρ this a1 (f_X12_cover_26 N ρ this a1 n) x2 x3 σ
def f_X12_cover (N : Nat) (ρ : Nat → Nat → Nat) (this : Nat) (a1 : Int32) (σ : St) : Option (Int32 × St) :=
  bnd (f_X12_isIn N ρ a1 0 1 σ) fun r20 σ21 =>
  if (r20 : Int32) = 0 then
    some ((-1), σ21)
  else
    bnd (f_X12_layCould N ρ this σ21) fun _ σ25 =>
    nmd ((1 <<< ((σ25.1 this 49) &&& 31)) - 1) fun y27 =>
    f_X12_cover_26 N ρ this a1 N y27 y27 σ25
set_option maxRecDepth 100000 in
set_option maxHeartbeats 4000000 in
theorem w_X12_cover_92 {N : Nat} {Γ : SG} {ρ : Nat → Nat → Nat} (hs : Sh Γ ρ) {this : Nat} {a1 : Int32} (h0 : Γ[this]? = some (0, 12)) {n0 : Nat} {r : Int32} {σr : St} (rec26 : Int32 → Int32 → St → Option (Int32 × St)) (hrec26 : ∀ (x2 : Int32) (x3 : Int32) (σ : St), rec26 x2 x3 σ = some (r, σr) → Go mX12_cover 8 0 0 n0 (Ki Γ ρ r σr) 0 0 26 [some (.ref this), some (.int a1), some (.int x2), some (.int x3), none, none] [] (hp Γ ρ σ)) (rec51 : Int32 → Int32 → Int32 → Int32 → St → Option (Int32 × St)) (hrec51 : ∀ (x2 : Int32) (x3 : Int32) (x4 : Int32) (x5 : Int32) (σ : St), rec51 x2 x3 x4 x5 σ = some (r, σr) → Go mX12_cover 8 0 0 n0 (Ki Γ ρ r σr) 0 0 51 [some (.ref this), some (.int a1), some (.int x2), some (.int x3), some (.int x4), some (.int x5)] [] (hp Γ ρ σ)) (x2 : Int32) (x3 : Int32) (x5 : Int32) (s0 : Int32) (σ : St) (hf : f_X12_cover_92 N ρ this a1 rec26 rec51 x2 x3 x5 s0 σ = some (r, σr)) : Go mX12_cover 8 0 0 n0 (Ki Γ ρ r σr) 0 0 92 [some (.ref this), some (.int a1), some (.int x2), some (.int x3), none, some (.int x5)] [.int s0] (hp Γ ρ σ) := by
  unfold f_X12_cover_92 at hf
  refine go_istore [some (.ref this), some (.int a1), some (.int x2), some (.int x3), some (.int s0), some (.int x5)] dX12_cover_92 (by decide) rfl ?_
  refine go_iinc (x5 + 1) [some (.ref this), some (.int a1), some (.int x2), some (.int x3), some (.int s0), some (.int (x5 + 1))] dX12_cover_94 rfl rfl (by decide) rfl ?_
  refine go_goto 51 dX12_cover_97 (by decide) ?_
  exact hrec51 x2 x3 s0 (x5 + 1) σ hf
set_option maxRecDepth 100000 in
set_option maxHeartbeats 4000000 in
theorem w_X12_cover_87 {N : Nat} {Γ : SG} {ρ : Nat → Nat → Nat} (hs : Sh Γ ρ) {this : Nat} {a1 : Int32} (h0 : Γ[this]? = some (0, 12)) {n0 : Nat} {r : Int32} {σr : St} (rec26 : Int32 → Int32 → St → Option (Int32 × St)) (hrec26 : ∀ (x2 : Int32) (x3 : Int32) (σ : St), rec26 x2 x3 σ = some (r, σr) → Go mX12_cover 8 0 0 n0 (Ki Γ ρ r σr) 0 0 26 [some (.ref this), some (.int a1), some (.int x2), some (.int x3), none, none] [] (hp Γ ρ σ)) (rec51 : Int32 → Int32 → Int32 → Int32 → St → Option (Int32 × St)) (hrec51 : ∀ (x2 : Int32) (x3 : Int32) (x4 : Int32) (x5 : Int32) (σ : St), rec51 x2 x3 x4 x5 σ = some (r, σr) → Go mX12_cover 8 0 0 n0 (Ki Γ ρ r σr) 0 0 51 [some (.ref this), some (.int a1), some (.int x2), some (.int x3), some (.int x4), some (.int x5)] [] (hp Γ ρ σ)) (x2 : Int32) (x3 : Int32) (x5 : Int32) (σ : St) (hf : f_X12_cover_87 N ρ this a1 rec26 rec51 x2 x3 x5 σ = some (r, σr)) : Go mX12_cover 8 0 0 n0 (Ki Γ ρ r σr) 0 0 87 [some (.ref this), some (.int a1), some (.int x2), some (.int x3), none, some (.int x5)] [] (hp Γ ρ σ) := by
  unfold f_X12_cover_87 at hf
  refine go_iconst 1 dX12_cover_87 (by decide) ?_
  refine go_goto 92 dX12_cover_88 (by decide) ?_
  exact w_X12_cover_92 hs h0 rec26 hrec26 rec51 hrec51 x2 x3 x5 1 σ hf
set_option maxRecDepth 100000 in
set_option maxHeartbeats 4000000 in
theorem w_X12_cover_91 {N : Nat} {Γ : SG} {ρ : Nat → Nat → Nat} (hs : Sh Γ ρ) {this : Nat} {a1 : Int32} (h0 : Γ[this]? = some (0, 12)) {n0 : Nat} {r : Int32} {σr : St} (rec26 : Int32 → Int32 → St → Option (Int32 × St)) (hrec26 : ∀ (x2 : Int32) (x3 : Int32) (σ : St), rec26 x2 x3 σ = some (r, σr) → Go mX12_cover 8 0 0 n0 (Ki Γ ρ r σr) 0 0 26 [some (.ref this), some (.int a1), some (.int x2), some (.int x3), none, none] [] (hp Γ ρ σ)) (rec51 : Int32 → Int32 → Int32 → Int32 → St → Option (Int32 × St)) (hrec51 : ∀ (x2 : Int32) (x3 : Int32) (x4 : Int32) (x5 : Int32) (σ : St), rec51 x2 x3 x4 x5 σ = some (r, σr) → Go mX12_cover 8 0 0 n0 (Ki Γ ρ r σr) 0 0 51 [some (.ref this), some (.int a1), some (.int x2), some (.int x3), some (.int x4), some (.int x5)] [] (hp Γ ρ σ)) (x2 : Int32) (x3 : Int32) (x5 : Int32) (σ : St) (hf : f_X12_cover_91 N ρ this a1 rec26 rec51 x2 x3 x5 σ = some (r, σr)) : Go mX12_cover 8 0 0 n0 (Ki Γ ρ r σr) 0 0 91 [some (.ref this), some (.int a1), some (.int x2), some (.int x3), none, some (.int x5)] [] (hp Γ ρ σ) := by
  unfold f_X12_cover_91 at hf
  refine go_iconst 0 dX12_cover_91 (by decide) ?_
  exact w_X12_cover_92 hs h0 rec26 hrec26 rec51 hrec51 x2 x3 x5 0 σ hf
set_option maxRecDepth 100000 in
set_option maxHeartbeats 4000000 in
theorem w_X12_cover_107 {N : Nat} {Γ : SG} {ρ : Nat → Nat → Nat} (hs : Sh Γ ρ) {this : Nat} {a1 : Int32} (h0 : Γ[this]? = some (0, 12)) {n0 : Nat} {r : Int32} {σr : St} (rec26 : Int32 → Int32 → St → Option (Int32 × St)) (hrec26 : ∀ (x2 : Int32) (x3 : Int32) (σ : St), rec26 x2 x3 σ = some (r, σr) → Go mX12_cover 8 0 0 n0 (Ki Γ ρ r σr) 0 0 26 [some (.ref this), some (.int a1), some (.int x2), some (.int x3), none, none] [] (hp Γ ρ σ)) (x2 : Int32) (x3 : Int32) (σ : St) (hf : f_X12_cover_107 N ρ this a1 rec26 x2 x3 σ = some (r, σr)) : Go mX12_cover 8 0 0 n0 (Ki Γ ρ r σr) 0 0 107 [some (.ref this), some (.int a1), some (.int x2), some (.int x3), none, none] [] (hp Γ ρ σ) := by
  unfold f_X12_cover_107 at hf
  refine go_iinc (x3 + (-1)) [some (.ref this), some (.int a1), some (.int x2), some (.int (x3 + (-1))), none, none] dX12_cover_107 rfl rfl (by decide) rfl ?_
  refine go_goto 26 dX12_cover_110 (by decide) ?_
  exact hrec26 x2 (x3 + (-1)) σ hf
set_option maxRecDepth 100000 in
set_option maxHeartbeats 4000000 in
theorem v_X12_cover_51 {N : Nat} {Γ : SG} {ρ : Nat → Nat → Nat} (hs : Sh Γ ρ) {this : Nat} {a1 : Int32} (h0 : Γ[this]? = some (0, 12)) {n0 : Nat} {r : Int32} {σr : St} (rec26 : Int32 → Int32 → St → Option (Int32 × St)) (hrec26 : ∀ (x2 : Int32) (x3 : Int32) (σ : St), rec26 x2 x3 σ = some (r, σr) → Go mX12_cover 8 0 0 n0 (Ki Γ ρ r σr) 0 0 26 [some (.ref this), some (.int a1), some (.int x2), some (.int x3), none, none] [] (hp Γ ρ σ)) (rec51 : Int32 → Int32 → Int32 → Int32 → St → Option (Int32 × St)) (hrec51 : ∀ (x2 : Int32) (x3 : Int32) (x4 : Int32) (x5 : Int32) (σ : St), rec51 x2 x3 x4 x5 σ = some (r, σr) → Go mX12_cover 8 0 0 n0 (Ki Γ ρ r σr) 0 0 51 [some (.ref this), some (.int a1), some (.int x2), some (.int x3), some (.int x4), some (.int x5)] [] (hp Γ ρ σ)) (x2 : Int32) (x3 : Int32) (x4 : Int32) (x5 : Int32) (σ : St) (hf : b_X12_cover_51 N ρ this a1 rec26 rec51 x2 x3 x4 x5 σ = some (r, σr)) : Go mX12_cover 8 0 0 n0 (Ki Γ ρ r σr) 0 0 51 [some (.ref this), some (.int a1), some (.int x2), some (.int x3), some (.int x4), some (.int x5)] [] (hp Γ ρ σ) := by
  unfold b_X12_cover_51 at hf
  refine go_iload dX12_cover_51 rfl ?_
  refine go_aload_n 0 dX12_cover_53 rfl rfl ?_
  refine go_fI fl_X12_395 dX12_cover_54 h0 (by decide) rfl ?_
  refine go_icmp_ge 100 dX12_cover_57 (by decide) (fun c1 => ?_) (fun c1 => ?_)
  · replace hf := (if_pos c1).symm.trans hf
    refine go_iload dX12_cover_100 rfl ?_
    refine go_if_eq 107 dX12_cover_102 (by decide) (fun c2 => ?_) (fun c2 => ?_)
    · replace hf := (if_pos c2).symm.trans hf
      refine go_msk [true, true, true, true, false, false] [some (.ref this), some (.int a1), some (.int x2), some (.int x3), none, none] rfl ?_
      exact w_X12_cover_107 hs h0 rec26 hrec26 x2 x3 σ hf
    · replace hf := (if_neg c2).symm.trans hf
      refine go_iload_n 3 dX12_cover_105 rfl rfl ?_
      refine go_istore_n 2 [some (.ref this), some (.int a1), some (.int x3), some (.int x3), some (.int x4), some (.int x5)] dX12_cover_106 rfl (by decide) rfl ?_
      refine go_msk [true, true, true, true, false, false] [some (.ref this), some (.int a1), some (.int x3), some (.int x3), none, none] rfl ?_
      exact w_X12_cover_107 hs h0 rec26 hrec26 x3 x3 σ hf
  · replace hf := (if_neg c1).symm.trans hf
    refine go_iload dX12_cover_60 rfl ?_
    refine go_if_eq 91 dX12_cover_62 (by decide) (fun c3 => ?_) (fun c3 => ?_)
    · replace hf := (if_pos c3).symm.trans hf
      refine go_msk [true, true, true, true, false, true] [some (.ref this), some (.int a1), some (.int x2), some (.int x3), none, some (.int x5)] rfl ?_
      exact w_X12_cover_91 hs h0 rec26 hrec26 rec51 hrec51 x2 x3 x5 σ hf
    · replace hf := (if_neg c3).symm.trans hf
      refine go_aload_n 0 dX12_cover_65 rfl rfl ?_
      refine go_fR fl_X12_127 dX12_cover_66 h0 (by decide) rfl ?_
      refine go_iload dX12_cover_69 rfl ?_
      obtain ⟨g4, hf⟩ := gd_some hf
      refine go_rI dX12_cover_71 (hs.1 _ 12 67 h0 rfl) (ib_in g4) ?_
      refine go_if_eq 87 dX12_cover_72 (by decide) (fun c5 => ?_) (fun c5 => ?_)
      · replace hf := (if_pos c5).symm.trans hf
        refine go_msk [true, true, true, true, false, true] [some (.ref this), some (.int a1), some (.int x2), some (.int x3), none, some (.int x5)] rfl ?_
        exact w_X12_cover_87 hs h0 rec26 hrec26 rec51 hrec51 x2 x3 x5 σ hf
      · replace hf := (if_neg c5).symm.trans hf
        refine go_aload_n 0 dX12_cover_75 rfl rfl ?_
        refine go_fR fl_X12_127 dX12_cover_76 h0 (by decide) rfl ?_
        refine go_iload dX12_cover_79 rfl ?_
        obtain ⟨g6, hf⟩ := gd_some hf
        refine go_rI dX12_cover_81 (hs.1 _ 12 67 h0 rfl) (ib_in g6) ?_
        refine go_iload_n 3 dX12_cover_82 rfl rfl ?_
        refine go_iand dX12_cover_83 ?_
        refine go_if_eq 91 dX12_cover_84 (by decide) (fun c7 => ?_) (fun c7 => ?_)
        · replace hf := (if_pos c7).symm.trans hf
          refine go_msk [true, true, true, true, false, true] [some (.ref this), some (.int a1), some (.int x2), some (.int x3), none, some (.int x5)] rfl ?_
          exact w_X12_cover_91 hs h0 rec26 hrec26 rec51 hrec51 x2 x3 x5 σ hf
        · replace hf := (if_neg c7).symm.trans hf
          refine go_msk [true, true, true, true, false, true] [some (.ref this), some (.int a1), some (.int x2), some (.int x3), none, some (.int x5)] rfl ?_
          exact w_X12_cover_87 hs h0 rec26 hrec26 rec51 hrec51 x2 x3 x5 σ hf
theorem w_X12_cover_51 {N : Nat} {Γ : SG} {ρ : Nat → Nat → Nat} (hs : Sh Γ ρ) {this : Nat} {a1 : Int32} (h0 : Γ[this]? = some (0, 12)) {n0 : Nat} {r : Int32} {σr : St} (rec26 : Int32 → Int32 → St → Option (Int32 × St)) (hrec26 : ∀ (x2 : Int32) (x3 : Int32) (σ : St), rec26 x2 x3 σ = some (r, σr) → Go mX12_cover 8 0 0 n0 (Ki Γ ρ r σr) 0 0 26 [some (.ref this), some (.int a1), some (.int x2), some (.int x3), none, none] [] (hp Γ ρ σ)) : ∀ (n : Nat) (x2 : Int32) (x3 : Int32) (x4 : Int32) (x5 : Int32) (σ : St), f_X12_cover_51 N ρ this a1 rec26 n x2 x3 x4 x5 σ = some (r, σr) → Go mX12_cover 8 0 0 n0 (Ki Γ ρ r σr) 0 0 51 [some (.ref this), some (.int a1), some (.int x2), some (.int x3), some (.int x4), some (.int x5)] [] (hp Γ ρ σ) := by
  intro n
  induction n with
  | zero => intro x2 x3 x4 x5 σ hf; cases hf
  | succ n ih => intro x2 x3 x4 x5 σ hf; exact v_X12_cover_51 hs h0 rec26 hrec26 _ ih x2 x3 x4 x5 σ hf
set_option maxRecDepth 100000 in
set_option maxHeartbeats 4000000 in
theorem w_X12_cover_46 {N : Nat} {Γ : SG} {ρ : Nat → Nat → Nat} (hs : Sh Γ ρ) {this : Nat} {a1 : Int32} (h0 : Γ[this]? = some (0, 12)) {n0 : Nat} {r : Int32} {σr : St} (rec26 : Int32 → Int32 → St → Option (Int32 × St)) (hrec26 : ∀ (x2 : Int32) (x3 : Int32) (σ : St), rec26 x2 x3 σ = some (r, σr) → Go mX12_cover 8 0 0 n0 (Ki Γ ρ r σr) 0 0 26 [some (.ref this), some (.int a1), some (.int x2), some (.int x3), none, none] [] (hp Γ ρ σ)) (x2 : Int32) (x3 : Int32) (s0 : Int32) (σ : St) (hf : f_X12_cover_46 N ρ this a1 rec26 x2 x3 s0 σ = some (r, σr)) : Go mX12_cover 8 0 0 n0 (Ki Γ ρ r σr) 0 0 46 [some (.ref this), some (.int a1), some (.int x2), some (.int x3), none, none] [.int s0] (hp Γ ρ σ) := by
  unfold f_X12_cover_46 at hf
  refine go_istore [some (.ref this), some (.int a1), some (.int x2), some (.int x3), some (.int s0), none] dX12_cover_46 (by decide) rfl ?_
  refine go_iconst 0 dX12_cover_48 (by decide) ?_
  refine go_istore [some (.ref this), some (.int a1), some (.int x2), some (.int x3), some (.int s0), some (.int 0)] dX12_cover_49 (by decide) rfl ?_
  exact w_X12_cover_51 hs h0 rec26 hrec26 N x2 x3 s0 0 σ hf
set_option maxRecDepth 100000 in
set_option maxHeartbeats 4000000 in
theorem w_X12_cover_125 {N : Nat} {Γ : SG} {ρ : Nat → Nat → Nat} (hs : Sh Γ ρ) {this : Nat} {a1 : Int32} (h0 : Γ[this]? = some (0, 12)) {n0 : Nat} {r : Int32} {σr : St} (s0 : Int32) (σ : St) (hf : f_X12_cover_125 N ρ this a1 s0 σ = some (r, σr)) : Go mX12_cover 8 0 0 n0 (Ki Γ ρ r σr) 0 0 125 [none, none, none, none, none, none] [.int s0] (hp Γ ρ σ) := by
  unfold f_X12_cover_125 at hf
  cases hf
  exact go_iret rfl dX12_cover_125 (Nat.le_refl _) ⟨rfl, rfl⟩
set_option maxRecDepth 100000 in
set_option maxHeartbeats 4000000 in
theorem v_X12_cover_26 {N : Nat} {Γ : SG} {ρ : Nat → Nat → Nat} (hs : Sh Γ ρ) {this : Nat} {a1 : Int32} (h0 : Γ[this]? = some (0, 12)) {n0 : Nat} {r : Int32} {σr : St} (rec26 : Int32 → Int32 → St → Option (Int32 × St)) (hrec26 : ∀ (x2 : Int32) (x3 : Int32) (σ : St), rec26 x2 x3 σ = some (r, σr) → Go mX12_cover 8 0 0 n0 (Ki Γ ρ r σr) 0 0 26 [some (.ref this), some (.int a1), some (.int x2), some (.int x3), none, none] [] (hp Γ ρ σ)) (x2 : Int32) (x3 : Int32) (σ : St) (hf : b_X12_cover_26 N ρ this a1 rec26 x2 x3 σ = some (r, σr)) : Go mX12_cover 8 0 0 n0 (Ki Γ ρ r σr) 0 0 26 [some (.ref this), some (.int a1), some (.int x2), some (.int x3), none, none] [] (hp Γ ρ σ) := by
  unfold b_X12_cover_26 at hf
  refine go_iload_n 3 dX12_cover_26 rfl rfl ?_
  refine go_if_lt 113 dX12_cover_27 (by decide) (fun c8 => ?_) (fun c8 => ?_)
  · replace hf := (if_pos c8).symm.trans hf
    refine go_iload_n 1 dX12_cover_113 rfl rfl ?_
    refine go_if_ne 124 dX12_cover_114 (by decide) (fun c9 => ?_) (fun c9 => ?_)
    · replace hf := (if_neg c9).symm.trans hf
      refine go_iload_n 2 dX12_cover_124 rfl rfl ?_
      refine go_msk [false, false, false, false, false, false] [none, none, none, none, none, none] rfl ?_
      exact w_X12_cover_125 hs h0 x2 σ hf
    · replace hf := (if_pos c9).symm.trans hf
      refine go_iload_n 2 dX12_cover_117 rfl rfl ?_
      obtain ⟨r10, σ11, q12, hf⟩ := bnd_some hf
      refine go_Si (av := [.int x2]) (rest := []) (t_X12_members hs  q12) ok_X12_members ml_X12_433 dX12_cover_118 rfl rfl (by decide) (Nat.le_refl _) (Nat.le_refl _) (Nat.le_of_ble_eq_true rfl) ?_
      refine go_goto 125 dX12_cover_121 (by decide) ?_
      refine go_msk [false, false, false, false, false, false] [none, none, none, none, none, none] rfl ?_
      exact w_X12_cover_125 hs h0 r10 σ11 hf
  · replace hf := (if_neg c8).symm.trans hf
    refine go_iload_n 3 dX12_cover_30 rfl rfl ?_
    obtain ⟨r13, σ14, q15, hf⟩ := bnd_some hf
    refine go_Si (av := [.int x3]) (rest := []) (t_X12_members hs  q15) ok_X12_members ml_X12_433 dX12_cover_31 rfl rfl (by decide) (Nat.le_refl _) (Nat.le_refl _) (Nat.le_of_ble_eq_true rfl) ?_
    refine go_iload_n 2 dX12_cover_34 rfl rfl ?_
    obtain ⟨r16, σ17, q18, hf⟩ := bnd_some hf
    refine go_Si (av := [.int x2]) (rest := [.int r13]) (t_X12_members hs  q18) ok_X12_members ml_X12_433 dX12_cover_35 rfl rfl (by decide) (Nat.le_refl _) (Nat.le_refl _) (Nat.le_of_ble_eq_true rfl) ?_
    refine go_icmp_gt 45 dX12_cover_38 (by decide) (fun c19 => ?_) (fun c19 => ?_)
    · replace hf := (if_pos c19).symm.trans hf
      refine go_iconst 0 dX12_cover_45 (by decide) ?_
      exact w_X12_cover_46 hs h0 rec26 hrec26 x2 x3 0 σ17 hf
    · replace hf := (if_neg c19).symm.trans hf
      refine go_iconst 1 dX12_cover_41 (by decide) ?_
      refine go_goto 46 dX12_cover_42 (by decide) ?_
      exact w_X12_cover_46 hs h0 rec26 hrec26 x2 x3 1 σ17 hf
theorem w_X12_cover_26 {N : Nat} {Γ : SG} {ρ : Nat → Nat → Nat} (hs : Sh Γ ρ) {this : Nat} {a1 : Int32} (h0 : Γ[this]? = some (0, 12)) {n0 : Nat} {r : Int32} {σr : St} : ∀ (n : Nat) (x2 : Int32) (x3 : Int32) (σ : St), f_X12_cover_26 N ρ this a1 n x2 x3 σ = some (r, σr) → Go mX12_cover 8 0 0 n0 (Ki Γ ρ r σr) 0 0 26 [some (.ref this), some (.int a1), some (.int x2), some (.int x3), none, none] [] (hp Γ ρ σ) := by
  intro n
  induction n with
  | zero => intro x2 x3 σ hf; cases hf
  | succ n ih => intro x2 x3 σ hf; exact v_X12_cover_26 hs h0 _ ih x2 x3 σ hf
set_option maxRecDepth 100000 in
set_option maxHeartbeats 4000000 in
theorem t_X12_cover {N : Nat} {Γ : SG} {ρ : Nat → Nat → Nat} (hs : Sh Γ ρ) {this : Nat} {a1 : Int32} (h0 : Γ[this]? = some (0, 12)) {σ : St} {r : Int32} {σr : St} (hf : f_X12_cover N ρ this a1 σ = some (r, σr)) : Tri mX12_cover 8 0 0 [.ref this, .int a1] (hp Γ ρ σ) (Ki Γ ρ r σr) := by
  unfold f_X12_cover at hf
  refine tri_of [some (.ref this), some (.int a1), none, none, none, none] (plainFor_of_name rfl) rfl (Nat.le_of_ble_eq_true rfl) ?_
  refine go_iload_n 1 dX12_cover_0 rfl rfl ?_
  refine go_iconst 0 dX12_cover_1 (by decide) ?_
  refine go_iconst 1 dX12_cover_2 (by decide) ?_
  obtain ⟨r20, σ21, q22, hf⟩ := bnd_some hf
  refine go_Si (av := [.int a1, .int 0, .int 1]) (rest := []) (t_X12_isIn hs  q22) ok_X12_isIn ml_X12_422 dX12_cover_3 rfl rfl (by decide) (Nat.le_refl _) (Nat.le_refl _) (Nat.le_of_ble_eq_true rfl) ?_
  refine go_if_ne 11 dX12_cover_6 (by decide) (fun c23 => ?_) (fun c23 => ?_)
  · replace hf := (if_neg c23).symm.trans hf
    refine go_aload_n 0 dX12_cover_11 rfl rfl ?_
    obtain ⟨r24, σ25, q26, hf⟩ := bnd_some hf
    refine go_Vv (av := []) (rest := []) (t_X12_layCould hs h0 q26) ok_X12_layCould ml_X12_518 dX12_cover_12 h0 rfl rfl (by decide) (Nat.le_refl _) (Nat.le_refl _) (Nat.le_of_ble_eq_true rfl) ?_
    refine go_iconst 1 dX12_cover_15 (by decide) ?_
    refine go_aload_n 0 dX12_cover_16 rfl rfl ?_
    refine go_fI fl_X12_392 dX12_cover_17 h0 (by decide) rfl ?_
    refine go_ishl dX12_cover_20 ?_
    refine go_iconst 1 dX12_cover_21 (by decide) ?_
    refine go_isub dX12_cover_22 ?_
    obtain ⟨y27, ey27, hf⟩ := nmd_some hf
    refine go_nm ey27 ?_
    refine go_istore_n 2 [some (.ref this), some (.int a1), some (.int y27), none, none, none] dX12_cover_23 rfl (by decide) rfl ?_
    refine go_iload_n 2 dX12_cover_24 rfl rfl ?_
    refine go_istore_n 3 [some (.ref this), some (.int a1), some (.int y27), some (.int y27), none, none] dX12_cover_25 rfl (by decide) rfl ?_
    exact w_X12_cover_26 hs h0 N y27 y27 σ25 hf
  · replace hf := (if_pos c23).symm.trans hf
    refine go_iconst (-1) dX12_cover_9 (by decide) ?_
    cases hf
    exact go_iret rfl dX12_cover_10 (Nat.le_refl _) ⟨rfl, rfl⟩
def f_X12_pilgrim_81 (N : Nat) (ρ : Nat → Nat → Nat) (this : Nat) (a1 : Int32) (rec27 : Int32 → Int32 → Int32 → St → Option (Int32 × St)) (x2 : Int32) (x4 : Int32) (s0 : Int32) (σ : St) : Option (Int32 × St) :=
  rec27 x2 s0 (x4 + 1) σ
def f_X12_pilgrim_58 (N : Nat) (ρ : Nat → Nat → Nat) (this : Nat) (a1 : Int32) (rec27 : Int32 → Int32 → Int32 → St → Option (Int32 × St)) (x3 : Int32) (x4 : Int32) (s0 : Int32) (σ : St) : Option (Int32 × St) :=
  gd (ib x4 6) <|
  if (σ.1 (ρ this 36) x4.toNatClampNeg : Int32) ≤ x3 then
    f_X12_pilgrim_81 N ρ this a1 rec27 s0 x4 x3 σ
  else
    gd (ib x4 6) <|
    f_X12_pilgrim_81 N ρ this a1 rec27 s0 x4 (σ.1 (ρ this 36) x4.toNatClampNeg) σ
def f_X12_pilgrim_131 (N : Nat) (ρ : Nat → Nat → Nat) (this : Nat) (a1 : Int32) (s0 : Int32) (s1 : Int32) (σ : St) : Option (Int32 × St) :=
  some (s1 + s0, σ)
def b_X12_pilgrim_27 (N : Nat) (ρ : Nat → Nat → Nat) (this : Nat) (a1 : Int32) (rec27 : Int32 → Int32 → Int32 → St → Option (Int32 × St)) (x2 : Int32) (x3 : Int32) (x4 : Int32) (σ : St) : Option (Int32 × St) :=
  if (σ.1 this 49) ≤ (x4 : Int32) then
    gd (ib a1 5) <|
    bnd (f_X12_plain N ρ ((σ.1 (ρ this 40) a1.toNatClampNeg) - x2) σ) fun r6 σ7 =>
    gd (ib a1 5) <|
    bnd (f_X12_plain N ρ ((σ7.1 (ρ this 40) a1.toNatClampNeg) - x3) σ7) fun r10 σ11 =>
    if r10 ≤ (r6 : Int32) then
      f_X12_pilgrim_131 N ρ this a1 r10 (x3 - x2) σ11
    else
      f_X12_pilgrim_131 N ρ this a1 r6 (x3 - x2) σ11
  else
    gd (ib x4 6) <|
    if x2 ≤ (σ.1 (ρ this 36) x4.toNatClampNeg : Int32) then
      f_X12_pilgrim_58 N ρ this a1 rec27 x3 x4 x2 σ
    else
      gd (ib x4 6) <|
      f_X12_pilgrim_58 N ρ this a1 rec27 x3 x4 (σ.1 (ρ this 36) x4.toNatClampNeg) σ
def f_X12_pilgrim_27 (N : Nat) (ρ : Nat → Nat → Nat) (this : Nat) (a1 : Int32) : Nat → Int32 → Int32 → Int32 → St → Option (Int32 × St)
  | 0, _, _, _, _ => none
  | n + 1, x2, x3, x4, σ => b_X12_pilgrim_27 N ρ this a1 (f_X12_pilgrim_27 N ρ this a1 n) x2 x3 x4 σ
def f_X12_pilgrim (N : Nat) (ρ : Nat → Nat → Nat) (this : Nat) (a1 : Int32) (σ : St) : Option (Int32 × St) :=
  bnd (f_X12_isStool N ρ this a1 σ) fun r17 σ18 =>
  if (r17 : Int32) = 0 then
    some ((-1), σ18)
  else
    if (σ18.1 this 49 : Int32) = 0 then
      some (0, σ18)
    else
      f_X12_pilgrim_27 N ρ this a1 N 99 0 0 σ18
set_option maxRecDepth 100000 in
set_option maxHeartbeats 4000000 in
theorem w_X12_pilgrim_81 {N : Nat} {Γ : SG} {ρ : Nat → Nat → Nat} (hs : Sh Γ ρ) {this : Nat} {a1 : Int32} (h0 : Γ[this]? = some (0, 12)) {n0 : Nat} {r : Int32} {σr : St} (rec27 : Int32 → Int32 → Int32 → St → Option (Int32 × St)) (hrec27 : ∀ (x2 : Int32) (x3 : Int32) (x4 : Int32) (σ : St), rec27 x2 x3 x4 σ = some (r, σr) → Go mX12_pilgrim 2 0 0 n0 (Ki Γ ρ r σr) 0 0 27 [some (.ref this), some (.int a1), some (.int x2), some (.int x3), some (.int x4), none] [] (hp Γ ρ σ)) (x2 : Int32) (x4 : Int32) (s0 : Int32) (σ : St) (hf : f_X12_pilgrim_81 N ρ this a1 rec27 x2 x4 s0 σ = some (r, σr)) : Go mX12_pilgrim 2 0 0 n0 (Ki Γ ρ r σr) 0 0 81 [some (.ref this), some (.int a1), some (.int x2), none, some (.int x4), none] [.int s0] (hp Γ ρ σ) := by
  unfold f_X12_pilgrim_81 at hf
  refine go_istore_n 3 [some (.ref this), some (.int a1), some (.int x2), some (.int s0), some (.int x4), none] dX12_pilgrim_81 rfl (by decide) rfl ?_
  refine go_iinc (x4 + 1) [some (.ref this), some (.int a1), some (.int x2), some (.int s0), some (.int (x4 + 1)), none] dX12_pilgrim_82 rfl rfl (by decide) rfl ?_
  refine go_goto 27 dX12_pilgrim_85 (by decide) ?_
  exact hrec27 x2 s0 (x4 + 1) σ hf
set_option maxRecDepth 100000 in
set_option maxHeartbeats 4000000 in
theorem w_X12_pilgrim_58 {N : Nat} {Γ : SG} {ρ : Nat → Nat → Nat} (hs : Sh Γ ρ) {this : Nat} {a1 : Int32} (h0 : Γ[this]? = some (0, 12)) {n0 : Nat} {r : Int32} {σr : St} (rec27 : Int32 → Int32 → Int32 → St → Option (Int32 × St)) (hrec27 : ∀ (x2 : Int32) (x3 : Int32) (x4 : Int32) (σ : St), rec27 x2 x3 x4 σ = some (r, σr) → Go mX12_pilgrim 2 0 0 n0 (Ki Γ ρ r σr) 0 0 27 [some (.ref this), some (.int a1), some (.int x2), some (.int x3), some (.int x4), none] [] (hp Γ ρ σ)) (x3 : Int32) (x4 : Int32) (s0 : Int32) (σ : St) (hf : f_X12_pilgrim_58 N ρ this a1 rec27 x3 x4 s0 σ = some (r, σr)) : Go mX12_pilgrim 2 0 0 n0 (Ki Γ ρ r σr) 0 0 58 [some (.ref this), some (.int a1), none, some (.int x3), some (.int x4), none] [.int s0] (hp Γ ρ σ) := by
  unfold f_X12_pilgrim_58 at hf
  refine go_istore_n 2 [some (.ref this), some (.int a1), some (.int s0), some (.int x3), some (.int x4), none] dX12_pilgrim_58 rfl (by decide) rfl ?_
  refine go_aload_n 0 dX12_pilgrim_59 rfl rfl ?_
  refine go_fR fl_X12_76 dX12_pilgrim_60 h0 (by decide) rfl ?_
  refine go_iload dX12_pilgrim_63 rfl ?_
  obtain ⟨g1, hf⟩ := gd_some hf
  refine go_rI dX12_pilgrim_65 (hs.1 _ 12 36 h0 rfl) (ib_in g1) ?_
  refine go_iload_n 3 dX12_pilgrim_66 rfl rfl ?_
  refine go_icmp_le 80 dX12_pilgrim_67 (by decide) (fun c2 => ?_) (fun c2 => ?_)
  · replace hf := (if_pos c2).symm.trans hf
    refine go_iload_n 3 dX12_pilgrim_80 rfl rfl ?_
    refine go_msk [true, true, true, false, true, false] [some (.ref this), some (.int a1), some (.int s0), none, some (.int x4), none] rfl ?_
    exact w_X12_pilgrim_81 hs h0 rec27 hrec27 s0 x4 x3 σ hf
  · replace hf := (if_neg c2).symm.trans hf
    refine go_aload_n 0 dX12_pilgrim_70 rfl rfl ?_
    refine go_fR fl_X12_76 dX12_pilgrim_71 h0 (by decide) rfl ?_
    refine go_iload dX12_pilgrim_74 rfl ?_
    obtain ⟨g3, hf⟩ := gd_some hf
    refine go_rI dX12_pilgrim_76 (hs.1 _ 12 36 h0 rfl) (ib_in g3) ?_
    refine go_goto 81 dX12_pilgrim_77 (by decide) ?_
    refine go_msk [true, true, true, false, true, false] [some (.ref this), some (.int a1), some (.int s0), none, some (.int x4), none] rfl ?_
    exact w_X12_pilgrim_81 hs h0 rec27 hrec27 s0 x4 (σ.1 (ρ this 36) x4.toNatClampNeg) σ hf
set_option maxRecDepth 100000 in
set_option maxHeartbeats 4000000 in
theorem w_X12_pilgrim_131 {N : Nat} {Γ : SG} {ρ : Nat → Nat → Nat} (hs : Sh Γ ρ) {this : Nat} {a1 : Int32} (h0 : Γ[this]? = some (0, 12)) {n0 : Nat} {r : Int32} {σr : St} (s0 : Int32) (s1 : Int32) (σ : St) (hf : f_X12_pilgrim_131 N ρ this a1 s0 s1 σ = some (r, σr)) : Go mX12_pilgrim 2 0 0 n0 (Ki Γ ρ r σr) 0 0 131 [none, none, none, none, none, none] [.int s0, .int s1] (hp Γ ρ σ) := by
  unfold f_X12_pilgrim_131 at hf
  refine go_iadd dX12_pilgrim_131 ?_
  cases hf
  exact go_iret rfl dX12_pilgrim_132 (Nat.le_refl _) ⟨rfl, rfl⟩
set_option maxRecDepth 100000 in
set_option maxHeartbeats 4000000 in
theorem v_X12_pilgrim_27 {N : Nat} {Γ : SG} {ρ : Nat → Nat → Nat} (hs : Sh Γ ρ) {this : Nat} {a1 : Int32} (h0 : Γ[this]? = some (0, 12)) {n0 : Nat} {r : Int32} {σr : St} (rec27 : Int32 → Int32 → Int32 → St → Option (Int32 × St)) (hrec27 : ∀ (x2 : Int32) (x3 : Int32) (x4 : Int32) (σ : St), rec27 x2 x3 x4 σ = some (r, σr) → Go mX12_pilgrim 2 0 0 n0 (Ki Γ ρ r σr) 0 0 27 [some (.ref this), some (.int a1), some (.int x2), some (.int x3), some (.int x4), none] [] (hp Γ ρ σ)) (x2 : Int32) (x3 : Int32) (x4 : Int32) (σ : St) (hf : b_X12_pilgrim_27 N ρ this a1 rec27 x2 x3 x4 σ = some (r, σr)) : Go mX12_pilgrim 2 0 0 n0 (Ki Γ ρ r σr) 0 0 27 [some (.ref this), some (.int a1), some (.int x2), some (.int x3), some (.int x4), none] [] (hp Γ ρ σ) := by
  unfold b_X12_pilgrim_27 at hf
  refine go_iload dX12_pilgrim_27 rfl ?_
  refine go_aload_n 0 dX12_pilgrim_29 rfl rfl ?_
  refine go_fI fl_X12_392 dX12_pilgrim_30 h0 (by decide) rfl ?_
  refine go_icmp_ge 88 dX12_pilgrim_33 (by decide) (fun c4 => ?_) (fun c4 => ?_)
  · replace hf := (if_pos c4).symm.trans hf
    refine go_aload_n 0 dX12_pilgrim_88 rfl rfl ?_
    refine go_fR fl_X12_88 dX12_pilgrim_89 h0 (by decide) rfl ?_
    refine go_iload_n 1 dX12_pilgrim_92 rfl rfl ?_
    obtain ⟨g5, hf⟩ := gd_some hf
    refine go_rI dX12_pilgrim_93 (hs.1 _ 12 40 h0 rfl) (ib_in g5) ?_
    refine go_iload_n 2 dX12_pilgrim_94 rfl rfl ?_
    refine go_isub dX12_pilgrim_95 ?_
    obtain ⟨r6, σ7, q8, hf⟩ := bnd_some hf
    refine go_Si (av := [.int ((σ.1 (ρ this 40) a1.toNatClampNeg) - x2)]) (rest := []) (t_X12_plain hs  q8) ok_X12_plain ml_X12_478 dX12_pilgrim_96 rfl rfl (by decide) (Nat.le_refl _) (Nat.le_refl _) (Nat.le_of_ble_eq_true rfl) ?_
    refine go_istore [some (.ref this), some (.int a1), some (.int x2), some (.int x3), some (.int r6), none] dX12_pilgrim_99 (by decide) rfl ?_
    refine go_aload_n 0 dX12_pilgrim_101 rfl rfl ?_
    refine go_fR fl_X12_88 dX12_pilgrim_102 h0 (by decide) rfl ?_
    refine go_iload_n 1 dX12_pilgrim_105 rfl rfl ?_
    obtain ⟨g9, hf⟩ := gd_some hf
    refine go_rI dX12_pilgrim_106 (hs.1 _ 12 40 h0 rfl) (ib_in g9) ?_
    refine go_iload_n 3 dX12_pilgrim_107 rfl rfl ?_
    refine go_isub dX12_pilgrim_108 ?_
    obtain ⟨r10, σ11, q12, hf⟩ := bnd_some hf
    refine go_Si (av := [.int ((σ7.1 (ρ this 40) a1.toNatClampNeg) - x3)]) (rest := []) (t_X12_plain hs  q12) ok_X12_plain ml_X12_478 dX12_pilgrim_109 rfl rfl (by decide) (Nat.le_refl _) (Nat.le_refl _) (Nat.le_of_ble_eq_true rfl) ?_
    refine go_istore [some (.ref this), some (.int a1), some (.int x2), some (.int x3), some (.int r6), some (.int r10)] dX12_pilgrim_112 (by decide) rfl ?_
    refine go_iload_n 3 dX12_pilgrim_114 rfl rfl ?_
    refine go_iload_n 2 dX12_pilgrim_115 rfl rfl ?_
    refine go_isub dX12_pilgrim_116 ?_
    refine go_iload dX12_pilgrim_117 rfl ?_
    refine go_iload dX12_pilgrim_119 rfl ?_
    refine go_icmp_ge 129 dX12_pilgrim_121 (by decide) (fun c13 => ?_) (fun c13 => ?_)
    · replace hf := (if_pos c13).symm.trans hf
      refine go_iload dX12_pilgrim_129 rfl ?_
      refine go_msk [false, false, false, false, false, false] [none, none, none, none, none, none] rfl ?_
      exact w_X12_pilgrim_131 hs h0 r10 (x3 - x2) σ11 hf
    · replace hf := (if_neg c13).symm.trans hf
      refine go_iload dX12_pilgrim_124 rfl ?_
      refine go_goto 131 dX12_pilgrim_126 (by decide) ?_
      refine go_msk [false, false, false, false, false, false] [none, none, none, none, none, none] rfl ?_
      exact w_X12_pilgrim_131 hs h0 r6 (x3 - x2) σ11 hf
  · replace hf := (if_neg c4).symm.trans hf
    refine go_aload_n 0 dX12_pilgrim_36 rfl rfl ?_
    refine go_fR fl_X12_76 dX12_pilgrim_37 h0 (by decide) rfl ?_
    refine go_iload dX12_pilgrim_40 rfl ?_
    obtain ⟨g14, hf⟩ := gd_some hf
    refine go_rI dX12_pilgrim_42 (hs.1 _ 12 36 h0 rfl) (ib_in g14) ?_
    refine go_iload_n 2 dX12_pilgrim_43 rfl rfl ?_
    refine go_icmp_ge 57 dX12_pilgrim_44 (by decide) (fun c15 => ?_) (fun c15 => ?_)
    · replace hf := (if_pos c15).symm.trans hf
      refine go_iload_n 2 dX12_pilgrim_57 rfl rfl ?_
      refine go_msk [true, true, false, true, true, false] [some (.ref this), some (.int a1), none, some (.int x3), some (.int x4), none] rfl ?_
      exact w_X12_pilgrim_58 hs h0 rec27 hrec27 x3 x4 x2 σ hf
    · replace hf := (if_neg c15).symm.trans hf
      refine go_aload_n 0 dX12_pilgrim_47 rfl rfl ?_
      refine go_fR fl_X12_76 dX12_pilgrim_48 h0 (by decide) rfl ?_
      refine go_iload dX12_pilgrim_51 rfl ?_
      obtain ⟨g16, hf⟩ := gd_some hf
      refine go_rI dX12_pilgrim_53 (hs.1 _ 12 36 h0 rfl) (ib_in g16) ?_
      refine go_goto 58 dX12_pilgrim_54 (by decide) ?_
      refine go_msk [true, true, false, true, true, false] [some (.ref this), some (.int a1), none, some (.int x3), some (.int x4), none] rfl ?_
      exact w_X12_pilgrim_58 hs h0 rec27 hrec27 x3 x4 (σ.1 (ρ this 36) x4.toNatClampNeg) σ hf
theorem w_X12_pilgrim_27 {N : Nat} {Γ : SG} {ρ : Nat → Nat → Nat} (hs : Sh Γ ρ) {this : Nat} {a1 : Int32} (h0 : Γ[this]? = some (0, 12)) {n0 : Nat} {r : Int32} {σr : St} : ∀ (n : Nat) (x2 : Int32) (x3 : Int32) (x4 : Int32) (σ : St), f_X12_pilgrim_27 N ρ this a1 n x2 x3 x4 σ = some (r, σr) → Go mX12_pilgrim 2 0 0 n0 (Ki Γ ρ r σr) 0 0 27 [some (.ref this), some (.int a1), some (.int x2), some (.int x3), some (.int x4), none] [] (hp Γ ρ σ) := by
  intro n
  induction n with
  | zero => intro x2 x3 x4 σ hf; cases hf
  | succ n ih => intro x2 x3 x4 σ hf; exact v_X12_pilgrim_27 hs h0 _ ih x2 x3 x4 σ hf
set_option maxRecDepth 100000 in
set_option maxHeartbeats 4000000 in
theorem t_X12_pilgrim {N : Nat} {Γ : SG} {ρ : Nat → Nat → Nat} (hs : Sh Γ ρ) {this : Nat} {a1 : Int32} (h0 : Γ[this]? = some (0, 12)) {σ : St} {r : Int32} {σr : St} (hf : f_X12_pilgrim N ρ this a1 σ = some (r, σr)) : Tri mX12_pilgrim 2 0 0 [.ref this, .int a1] (hp Γ ρ σ) (Ki Γ ρ r σr) := by
  unfold f_X12_pilgrim at hf
  refine tri_of [some (.ref this), some (.int a1), none, none, none, none] (plainFor_of_name rfl) rfl (Nat.le_of_ble_eq_true rfl) ?_
  refine go_aload_n 0 dX12_pilgrim_0 rfl rfl ?_
  refine go_iload_n 1 dX12_pilgrim_1 rfl rfl ?_
  obtain ⟨r17, σ18, q19, hf⟩ := bnd_some hf
  refine go_Vi (av := [.int a1]) (rest := []) (t_X12_isStool hs h0 q19) ok_X12_isStool ml_X12_454 dX12_pilgrim_2 h0 rfl rfl (by decide) (Nat.le_refl _) (Nat.le_refl _) (Nat.le_of_ble_eq_true rfl) ?_
  refine go_if_ne 10 dX12_pilgrim_5 (by decide) (fun c20 => ?_) (fun c20 => ?_)
  · replace hf := (if_neg c20).symm.trans hf
    refine go_aload_n 0 dX12_pilgrim_10 rfl rfl ?_
    refine go_fI fl_X12_392 dX12_pilgrim_11 h0 (by decide) rfl ?_
    refine go_if_ne 19 dX12_pilgrim_14 (by decide) (fun c21 => ?_) (fun c21 => ?_)
    · replace hf := (if_neg c21).symm.trans hf
      refine go_bipush 99 dX12_pilgrim_19 (by decide) ?_
      refine go_istore_n 2 [some (.ref this), some (.int a1), some (.int 99), none, none, none] dX12_pilgrim_21 rfl (by decide) rfl ?_
      refine go_iconst 0 dX12_pilgrim_22 (by decide) ?_
      refine go_istore_n 3 [some (.ref this), some (.int a1), some (.int 99), some (.int 0), none, none] dX12_pilgrim_23 rfl (by decide) rfl ?_
      refine go_iconst 0 dX12_pilgrim_24 (by decide) ?_
      refine go_istore [some (.ref this), some (.int a1), some (.int 99), some (.int 0), some (.int 0), none] dX12_pilgrim_25 (by decide) rfl ?_
      exact w_X12_pilgrim_27 hs h0 N 99 0 0 σ18 hf
    · replace hf := (if_pos c21).symm.trans hf
      refine go_iconst 0 dX12_pilgrim_17 (by decide) ?_
      cases hf
      exact go_iret rfl dX12_pilgrim_18 (Nat.le_refl _) ⟨rfl, rfl⟩
  · replace hf := (if_pos c20).symm.trans hf
    refine go_iconst (-1) dX12_pilgrim_8 (by decide) ?_
    cases hf
    exact go_iret rfl dX12_pilgrim_9 (Nat.le_refl _) ⟨rfl, rfl⟩
def f_X12_will_18 (N : Nat) (ρ : Nat → Nat → Nat) (this : Nat) (a1 : Int32) (a2 : Int32) (σ : St) : Option (Int32 × St) :=
  some ((-1), σ)
def b_X12_will_26 (N : Nat) (ρ : Nat → Nat → Nat) (this : Nat) (a1 : Int32) (a2 : Int32) (rec26 : Int32 → St → Option (Int32 × St)) (x3 : Int32) (σ : St) : Option (Int32 × St) :=
  if a2 ≤ (x3 : Int32) then
    gd (ib (10 + a1) 22) <|
    some (σ.1 (ρ this 57) (10 + a1).toNatClampNeg, σ)
  else
    bnd (f_X12_drawCold N ρ this σ) fun r3 σ4 =>
    bnd (f_X12_goEvening N ρ this r3 σ4) fun _ σ7 =>
    rec26 (x3 + 1) σ7
def f_X12_will_26 (N : Nat) (ρ : Nat → Nat → Nat) (this : Nat) (a1 : Int32) (a2 : Int32) : Nat → Int32 → St → Option (Int32 × St)
  | 0, _, _ => none
  | n + 1, x3, σ => b_X12_will_26 N ρ this a1 a2 (f_X12_will_26 N ρ this a1 a2 n) x3 σ
def f_X12_will (N : Nat) (ρ : Nat → Nat → Nat) (this : Nat) (a1 : Int32) (a2 : Int32) (σ : St) : Option (Int32 × St) :=
  bnd (f_X12_isStool N ρ this a1 σ) fun r9 σ10 =>
  if (r9 : Int32) = 0 then
    f_X12_will_18 N ρ this a1 a2 σ10
  else
    bnd (f_X12_isIn N ρ a2 0 60 σ10) fun r13 σ14 =>
    if (r13 : Int32) = 0 then
      f_X12_will_18 N ρ this a1 a2 σ14
    else
      bnd (f_X12_fill N ρ this σ14) fun _ σ18 =>
      f_X12_will_26 N ρ this a1 a2 N 0 σ18
set_option maxRecDepth 100000 in
set_option maxHeartbeats 4000000 in
theorem w_X12_will_18 {N : Nat} {Γ : SG} {ρ : Nat → Nat → Nat} (hs : Sh Γ ρ) {this : Nat} {a1 : Int32} {a2 : Int32} (h0 : Γ[this]? = some (0, 12)) {n0 : Nat} {r : Int32} {σr : St} (σ : St) (hf : f_X12_will_18 N ρ this a1 a2 σ = some (r, σr)) : Go mX12_will 7 0 0 n0 (Ki Γ ρ r σr) 0 0 18 [none, none, none, none] [] (hp Γ ρ σ) := by
  unfold f_X12_will_18 at hf
  refine go_iconst (-1) dX12_will_18 (by decide) ?_
  cases hf
  exact go_iret rfl dX12_will_19 (Nat.le_refl _) ⟨rfl, rfl⟩
set_option maxRecDepth 100000 in
set_option maxHeartbeats 4000000 in
theorem v_X12_will_26 {N : Nat} {Γ : SG} {ρ : Nat → Nat → Nat} (hs : Sh Γ ρ) {this : Nat} {a1 : Int32} {a2 : Int32} (h0 : Γ[this]? = some (0, 12)) {n0 : Nat} {r : Int32} {σr : St} (rec26 : Int32 → St → Option (Int32 × St)) (hrec26 : ∀ (x3 : Int32) (σ : St), rec26 x3 σ = some (r, σr) → Go mX12_will 7 0 0 n0 (Ki Γ ρ r σr) 0 0 26 [some (.ref this), some (.int a1), some (.int a2), some (.int x3)] [] (hp Γ ρ σ)) (x3 : Int32) (σ : St) (hf : b_X12_will_26 N ρ this a1 a2 rec26 x3 σ = some (r, σr)) : Go mX12_will 7 0 0 n0 (Ki Γ ρ r σr) 0 0 26 [some (.ref this), some (.int a1), some (.int a2), some (.int x3)] [] (hp Γ ρ σ) := by
  unfold b_X12_will_26 at hf
  refine go_iload_n 3 dX12_will_26 rfl rfl ?_
  refine go_iload_n 2 dX12_will_27 rfl rfl ?_
  refine go_icmp_ge 45 dX12_will_28 (by decide) (fun c1 => ?_) (fun c1 => ?_)
  · replace hf := (if_pos c1).symm.trans hf
    refine go_aload_n 0 dX12_will_45 rfl rfl ?_
    refine go_fR fl_X12_106 dX12_will_46 h0 (by decide) rfl ?_
    refine go_bipush 10 dX12_will_49 (by decide) ?_
    refine go_iload_n 1 dX12_will_51 rfl rfl ?_
    refine go_iadd dX12_will_52 ?_
    obtain ⟨g2, hf⟩ := gd_some hf
    refine go_rI dX12_will_53 (hs.1 _ 12 57 h0 rfl) (ib_in g2) ?_
    cases hf
    exact go_iret rfl dX12_will_54 (Nat.le_refl _) ⟨rfl, rfl⟩
  · replace hf := (if_neg c1).symm.trans hf
    refine go_aload_n 0 dX12_will_31 rfl rfl ?_
    refine go_aload_n 0 dX12_will_32 rfl rfl ?_
    obtain ⟨r3, σ4, q5, hf⟩ := bnd_some hf
    refine go_Vi (av := []) (rest := [.ref this]) (t_X12_drawCold hs h0 q5) ok_X12_drawCold ml_X12_466 dX12_will_33 h0 rfl rfl (by decide) (Nat.le_refl _) (Nat.le_refl _) (Nat.le_of_ble_eq_true rfl) ?_
    obtain ⟨r6, σ7, q8, hf⟩ := bnd_some hf
    refine go_Vv (av := [.int r3]) (rest := []) (t_X12_goEvening hs h0 q8) ok_X12_goEvening ml_X12_469 dX12_will_36 h0 rfl rfl (by decide) (Nat.le_refl _) (Nat.le_refl _) (Nat.le_of_ble_eq_true rfl) ?_
    refine go_iinc (x3 + 1) [some (.ref this), some (.int a1), some (.int a2), some (.int (x3 + 1))] dX12_will_39 rfl rfl (by decide) rfl ?_
    refine go_goto 26 dX12_will_42 (by decide) ?_
    exact hrec26 (x3 + 1) σ7 hf
theorem w_X12_will_26 {N : Nat} {Γ : SG} {ρ : Nat → Nat → Nat} (hs : Sh Γ ρ) {this : Nat} {a1 : Int32} {a2 : Int32} (h0 : Γ[this]? = some (0, 12)) {n0 : Nat} {r : Int32} {σr : St} : ∀ (n : Nat) (x3 : Int32) (σ : St), f_X12_will_26 N ρ this a1 a2 n x3 σ = some (r, σr) → Go mX12_will 7 0 0 n0 (Ki Γ ρ r σr) 0 0 26 [some (.ref this), some (.int a1), some (.int a2), some (.int x3)] [] (hp Γ ρ σ) := by
  intro n
  induction n with
  | zero => intro x3 σ hf; cases hf
  | succ n ih => intro x3 σ hf; exact v_X12_will_26 hs h0 _ ih x3 σ hf
set_option maxRecDepth 100000 in
set_option maxHeartbeats 4000000 in
theorem t_X12_will {N : Nat} {Γ : SG} {ρ : Nat → Nat → Nat} (hs : Sh Γ ρ) {this : Nat} {a1 : Int32} {a2 : Int32} (h0 : Γ[this]? = some (0, 12)) {σ : St} {r : Int32} {σr : St} (hf : f_X12_will N ρ this a1 a2 σ = some (r, σr)) : Tri mX12_will 7 0 0 [.ref this, .int a1, .int a2] (hp Γ ρ σ) (Ki Γ ρ r σr) := by
  unfold f_X12_will at hf
  refine tri_of [some (.ref this), some (.int a1), some (.int a2), none] (plainFor_of_name rfl) rfl (Nat.le_of_ble_eq_true rfl) ?_
  refine go_aload_n 0 dX12_will_0 rfl rfl ?_
  refine go_iload_n 1 dX12_will_1 rfl rfl ?_
  obtain ⟨r9, σ10, q11, hf⟩ := bnd_some hf
  refine go_Vi (av := [.int a1]) (rest := []) (t_X12_isStool hs h0 q11) ok_X12_isStool ml_X12_454 dX12_will_2 h0 rfl rfl (by decide) (Nat.le_refl _) (Nat.le_refl _) (Nat.le_of_ble_eq_true rfl) ?_
  refine go_if_eq 18 dX12_will_5 (by decide) (fun c12 => ?_) (fun c12 => ?_)
  · replace hf := (if_pos c12).symm.trans hf
    refine go_msk [false, false, false, false] [none, none, none, none] rfl ?_
    exact w_X12_will_18 hs h0 σ10 hf
  · replace hf := (if_neg c12).symm.trans hf
    refine go_iload_n 2 dX12_will_8 rfl rfl ?_
    refine go_iconst 0 dX12_will_9 (by decide) ?_
    refine go_bipush 60 dX12_will_10 (by decide) ?_
    obtain ⟨r13, σ14, q15, hf⟩ := bnd_some hf
    refine go_Si (av := [.int a2, .int 0, .int 60]) (rest := []) (t_X12_isIn hs  q15) ok_X12_isIn ml_X12_422 dX12_will_12 rfl rfl (by decide) (Nat.le_refl _) (Nat.le_refl _) (Nat.le_of_ble_eq_true rfl) ?_
    refine go_if_ne 20 dX12_will_15 (by decide) (fun c16 => ?_) (fun c16 => ?_)
    · replace hf := (if_neg c16).symm.trans hf
      refine go_aload_n 0 dX12_will_20 rfl rfl ?_
      obtain ⟨r17, σ18, q19, hf⟩ := bnd_some hf
      refine go_Vv (av := []) (rest := []) (t_X12_fill hs h0 q19) ok_X12_fill ml_X12_451 dX12_will_21 h0 rfl rfl (by decide) (Nat.le_refl _) (Nat.le_refl _) (Nat.le_of_ble_eq_true rfl) ?_
      refine go_iconst 0 dX12_will_24 (by decide) ?_
      refine go_istore_n 3 [some (.ref this), some (.int a1), some (.int a2), some (.int 0)] dX12_will_25 rfl (by decide) rfl ?_
      exact w_X12_will_26 hs h0 N 0 σ18 hf
    · replace hf := (if_pos c16).symm.trans hf
      refine go_msk [false, false, false, false] [none, none, none, none] rfl ?_
      exact w_X12_will_18 hs h0 σ14 hf
def f_X12_strength_18 (N : Nat) (ρ : Nat → Nat → Nat) (this : Nat) (a1 : Int32) (a2 : Int32) (σ : St) : Option (Int32 × St) :=
  some ((-1), σ)
def b_X12_strength_26 (N : Nat) (ρ : Nat → Nat → Nat) (this : Nat) (a1 : Int32) (a2 : Int32) (rec26 : Int32 → St → Option (Int32 × St)) (x3 : Int32) (σ : St) : Option (Int32 × St) :=
  if a2 ≤ (x3 : Int32) then
    gd (ib a1 22) <|
    some (σ.1 (ρ this 57) a1.toNatClampNeg, σ)
  else
    bnd (f_X12_goEvening N ρ this 0 σ) fun _ σ4 =>
    rec26 (x3 + 1) σ4
def f_X12_strength_26 (N : Nat) (ρ : Nat → Nat → Nat) (this : Nat) (a1 : Int32) (a2 : Int32) : Nat → Int32 → St → Option (Int32 × St)
  | 0, _, _ => none
  | n + 1, x3, σ => b_X12_strength_26 N ρ this a1 a2 (f_X12_strength_26 N ρ this a1 a2 n) x3 σ
def f_X12_strength (N : Nat) (ρ : Nat → Nat → Nat) (this : Nat) (a1 : Int32) (a2 : Int32) (σ : St) : Option (Int32 × St) :=
  bnd (f_X12_isStool N ρ this a1 σ) fun r6 σ7 =>
  if (r6 : Int32) = 0 then
    f_X12_strength_18 N ρ this a1 a2 σ7
  else
    bnd (f_X12_isIn N ρ a2 0 60 σ7) fun r10 σ11 =>
    if (r10 : Int32) = 0 then
      f_X12_strength_18 N ρ this a1 a2 σ11
    else
      bnd (f_X12_fill N ρ this σ11) fun _ σ15 =>
      f_X12_strength_26 N ρ this a1 a2 N 0 σ15
set_option maxRecDepth 100000 in
set_option maxHeartbeats 4000000 in
theorem w_X12_strength_18 {N : Nat} {Γ : SG} {ρ : Nat → Nat → Nat} (hs : Sh Γ ρ) {this : Nat} {a1 : Int32} {a2 : Int32} (h0 : Γ[this]? = some (0, 12)) {n0 : Nat} {r : Int32} {σr : St} (σ : St) (hf : f_X12_strength_18 N ρ this a1 a2 σ = some (r, σr)) : Go mX12_strength 7 0 0 n0 (Ki Γ ρ r σr) 0 0 18 [none, none, none, none] [] (hp Γ ρ σ) := by
  unfold f_X12_strength_18 at hf
  refine go_iconst (-1) dX12_strength_18 (by decide) ?_
  cases hf
  exact go_iret rfl dX12_strength_19 (Nat.le_refl _) ⟨rfl, rfl⟩
set_option maxRecDepth 100000 in
set_option maxHeartbeats 4000000 in
theorem v_X12_strength_26 {N : Nat} {Γ : SG} {ρ : Nat → Nat → Nat} (hs : Sh Γ ρ) {this : Nat} {a1 : Int32} {a2 : Int32} (h0 : Γ[this]? = some (0, 12)) {n0 : Nat} {r : Int32} {σr : St} (rec26 : Int32 → St → Option (Int32 × St)) (hrec26 : ∀ (x3 : Int32) (σ : St), rec26 x3 σ = some (r, σr) → Go mX12_strength 7 0 0 n0 (Ki Γ ρ r σr) 0 0 26 [some (.ref this), some (.int a1), some (.int a2), some (.int x3)] [] (hp Γ ρ σ)) (x3 : Int32) (σ : St) (hf : b_X12_strength_26 N ρ this a1 a2 rec26 x3 σ = some (r, σr)) : Go mX12_strength 7 0 0 n0 (Ki Γ ρ r σr) 0 0 26 [some (.ref this), some (.int a1), some (.int a2), some (.int x3)] [] (hp Γ ρ σ) := by
  unfold b_X12_strength_26 at hf
  refine go_iload_n 3 dX12_strength_26 rfl rfl ?_
  refine go_iload_n 2 dX12_strength_27 rfl rfl ?_
  refine go_icmp_ge 42 dX12_strength_28 (by decide) (fun c1 => ?_) (fun c1 => ?_)
  · replace hf := (if_pos c1).symm.trans hf
    refine go_aload_n 0 dX12_strength_42 rfl rfl ?_
    refine go_fR fl_X12_106 dX12_strength_43 h0 (by decide) rfl ?_
    refine go_iload_n 1 dX12_strength_46 rfl rfl ?_
    obtain ⟨g2, hf⟩ := gd_some hf
    refine go_rI dX12_strength_47 (hs.1 _ 12 57 h0 rfl) (ib_in g2) ?_
    cases hf
    exact go_iret rfl dX12_strength_48 (Nat.le_refl _) ⟨rfl, rfl⟩
  · replace hf := (if_neg c1).symm.trans hf
    refine go_aload_n 0 dX12_strength_31 rfl rfl ?_
    refine go_iconst 0 dX12_strength_32 (by decide) ?_
    obtain ⟨r3, σ4, q5, hf⟩ := bnd_some hf
    refine go_Vv (av := [.int 0]) (rest := []) (t_X12_goEvening hs h0 q5) ok_X12_goEvening ml_X12_469 dX12_strength_33 h0 rfl rfl (by decide) (Nat.le_refl _) (Nat.le_refl _) (Nat.le_of_ble_eq_true rfl) ?_
    refine go_iinc (x3 + 1) [some (.ref this), some (.int a1), some (.int a2), some (.int (x3 + 1))] dX12_strength_36 rfl rfl (by decide) rfl ?_
    refine go_goto 26 dX12_strength_39 (by decide) ?_
    exact hrec26 (x3 + 1) σ4 hf
theorem w_X12_strength_26 {N : Nat} {Γ : SG} {ρ : Nat → Nat → Nat} (hs : Sh Γ ρ) {this : Nat} {a1 : Int32} {a2 : Int32} (h0 : Γ[this]? = some (0, 12)) {n0 : Nat} {r : Int32} {σr : St} : ∀ (n : Nat) (x3 : Int32) (σ : St), f_X12_strength_26 N ρ this a1 a2 n x3 σ = some (r, σr) → Go mX12_strength 7 0 0 n0 (Ki Γ ρ r σr) 0 0 26 [some (.ref this), some (.int a1), some (.int a2), some (.int x3)] [] (hp Γ ρ σ) := by
  intro n
  induction n with
  | zero => intro x3 σ hf; cases hf
  | succ n ih => intro x3 σ hf; exact v_X12_strength_26 hs h0 _ ih x3 σ hf
set_option maxRecDepth 100000 in
set_option maxHeartbeats 4000000 in
theorem t_X12_strength {N : Nat} {Γ : SG} {ρ : Nat → Nat → Nat} (hs : Sh Γ ρ) {this : Nat} {a1 : Int32} {a2 : Int32} (h0 : Γ[this]? = some (0, 12)) {σ : St} {r : Int32} {σr : St} (hf : f_X12_strength N ρ this a1 a2 σ = some (r, σr)) : Tri mX12_strength 7 0 0 [.ref this, .int a1, .int a2] (hp Γ ρ σ) (Ki Γ ρ r σr) := by
  unfold f_X12_strength at hf
  refine tri_of [some (.ref this), some (.int a1), some (.int a2), none] (plainFor_of_name rfl) rfl (Nat.le_of_ble_eq_true rfl) ?_
  refine go_aload_n 0 dX12_strength_0 rfl rfl ?_
  refine go_iload_n 1 dX12_strength_1 rfl rfl ?_
  obtain ⟨r6, σ7, q8, hf⟩ := bnd_some hf
  refine go_Vi (av := [.int a1]) (rest := []) (t_X12_isStool hs h0 q8) ok_X12_isStool ml_X12_454 dX12_strength_2 h0 rfl rfl (by decide) (Nat.le_refl _) (Nat.le_refl _) (Nat.le_of_ble_eq_true rfl) ?_
  refine go_if_eq 18 dX12_strength_5 (by decide) (fun c9 => ?_) (fun c9 => ?_)
  · replace hf := (if_pos c9).symm.trans hf
    refine go_msk [false, false, false, false] [none, none, none, none] rfl ?_
    exact w_X12_strength_18 hs h0 σ7 hf
  · replace hf := (if_neg c9).symm.trans hf
    refine go_iload_n 2 dX12_strength_8 rfl rfl ?_
    refine go_iconst 0 dX12_strength_9 (by decide) ?_
    refine go_bipush 60 dX12_strength_10 (by decide) ?_
    obtain ⟨r10, σ11, q12, hf⟩ := bnd_some hf
    refine go_Si (av := [.int a2, .int 0, .int 60]) (rest := []) (t_X12_isIn hs  q12) ok_X12_isIn ml_X12_422 dX12_strength_12 rfl rfl (by decide) (Nat.le_refl _) (Nat.le_refl _) (Nat.le_of_ble_eq_true rfl) ?_
    refine go_if_ne 20 dX12_strength_15 (by decide) (fun c13 => ?_) (fun c13 => ?_)
    · replace hf := (if_neg c13).symm.trans hf
      refine go_aload_n 0 dX12_strength_20 rfl rfl ?_
      obtain ⟨r14, σ15, q16, hf⟩ := bnd_some hf
      refine go_Vv (av := []) (rest := []) (t_X12_fill hs h0 q16) ok_X12_fill ml_X12_451 dX12_strength_21 h0 rfl rfl (by decide) (Nat.le_refl _) (Nat.le_refl _) (Nat.le_of_ble_eq_true rfl) ?_
      refine go_iconst 0 dX12_strength_24 (by decide) ?_
      refine go_istore_n 3 [some (.ref this), some (.int a1), some (.int a2), some (.int 0)] dX12_strength_25 rfl (by decide) rfl ?_
      exact w_X12_strength_26 hs h0 N 0 σ15 hf
    · replace hf := (if_pos c13).symm.trans hf
      refine go_msk [false, false, false, false] [none, none, none, none] rfl ?_
      exact w_X12_strength_18 hs h0 σ11 hf
def b_X12_savedOnes_4 (N : Nat) (ρ : Nat → Nat → Nat) (this : Nat) (rec4 : Int32 → Int32 → St → Option (Int32 × St)) (x1 : Int32) (x2 : Int32) (σ : St) : Option (Int32 × St) :=
  if (σ.1 this 50) ≤ (x2 : Int32) then
    some (x1, σ)
  else
    bnd (f_X12_isSaved N ρ this x2 σ) fun r2 σ3 =>
    bnd (f_X12_truth N ρ r2 σ3) fun r5 σ6 =>
    nmd (x1 ||| (r5 <<< (x2 &&& 31))) fun y8 =>
    rec4 y8 (x2 + 1) σ6
def f_X12_savedOnes_4 (N : Nat) (ρ : Nat → Nat → Nat) (this : Nat) : Nat → Int32 → Int32 → St → Option (Int32 × St)
  | 0, _, _, _ => none
  | n + 1, x1, x2, σ => b_X12_savedOnes_4 N ρ this (f_X12_savedOnes_4 N ρ this n) x1 x2 σ
def f_X12_savedOnes (N : Nat) (ρ : Nat → Nat → Nat) (this : Nat) (σ : St) : Option (Int32 × St) :=
  f_X12_savedOnes_4 N ρ this N 0 0 σ
set_option maxRecDepth 100000 in
set_option maxHeartbeats 4000000 in
theorem v_X12_savedOnes_4 {N : Nat} {Γ : SG} {ρ : Nat → Nat → Nat} (hs : Sh Γ ρ) {this : Nat} (h0 : Γ[this]? = some (0, 12)) {n0 : Nat} {r : Int32} {σr : St} (rec4 : Int32 → Int32 → St → Option (Int32 × St)) (hrec4 : ∀ (x1 : Int32) (x2 : Int32) (σ : St), rec4 x1 x2 σ = some (r, σr) → Go mX12_savedOnes 1 0 0 n0 (Ki Γ ρ r σr) 0 0 4 [some (.ref this), some (.int x1), some (.int x2)] [] (hp Γ ρ σ)) (x1 : Int32) (x2 : Int32) (σ : St) (hf : b_X12_savedOnes_4 N ρ this rec4 x1 x2 σ = some (r, σr)) : Go mX12_savedOnes 1 0 0 n0 (Ki Γ ρ r σr) 0 0 4 [some (.ref this), some (.int x1), some (.int x2)] [] (hp Γ ρ σ) := by
  unfold b_X12_savedOnes_4 at hf
  refine go_iload_n 2 dX12_savedOnes_4 rfl rfl ?_
  refine go_aload_n 0 dX12_savedOnes_5 rfl rfl ?_
  refine go_fI fl_X12_395 dX12_savedOnes_6 h0 (by decide) rfl ?_
  refine go_icmp_ge 31 dX12_savedOnes_9 (by decide) (fun c1 => ?_) (fun c1 => ?_)
  · replace hf := (if_pos c1).symm.trans hf
    refine go_iload_n 1 dX12_savedOnes_31 rfl rfl ?_
    cases hf
    exact go_iret rfl dX12_savedOnes_32 (Nat.le_refl _) ⟨rfl, rfl⟩
  · replace hf := (if_neg c1).symm.trans hf
    refine go_iload_n 1 dX12_savedOnes_12 rfl rfl ?_
    refine go_aload_n 0 dX12_savedOnes_13 rfl rfl ?_
    refine go_iload_n 2 dX12_savedOnes_14 rfl rfl ?_
    obtain ⟨r2, σ3, q4, hf⟩ := bnd_some hf
    refine go_Vi (av := [.int x2]) (rest := [.int x1]) (t_X12_isSaved hs h0 q4) ok_X12_isSaved ml_X12_457 dX12_savedOnes_15 h0 rfl rfl (by decide) (Nat.le_refl _) (Nat.le_refl _) (Nat.le_of_ble_eq_true rfl) ?_
    obtain ⟨r5, σ6, q7, hf⟩ := bnd_some hf
    refine go_Si (av := [.int r2]) (rest := [.int x1]) (t_X12_truth hs  q7) ok_X12_truth ml_X12_329 dX12_savedOnes_18 rfl rfl (by decide) (Nat.le_refl _) (Nat.le_refl _) (Nat.le_of_ble_eq_true rfl) ?_
    refine go_iload_n 2 dX12_savedOnes_21 rfl rfl ?_
    refine go_ishl dX12_savedOnes_22 ?_
    refine go_ior dX12_savedOnes_23 ?_
    obtain ⟨y8, ey8, hf⟩ := nmd_some hf
    refine go_nm ey8 ?_
    refine go_istore_n 1 [some (.ref this), some (.int y8), some (.int x2)] dX12_savedOnes_24 rfl (by decide) rfl ?_
    refine go_iinc (x2 + 1) [some (.ref this), some (.int y8), some (.int (x2 + 1))] dX12_savedOnes_25 rfl rfl (by decide) rfl ?_
    refine go_goto 4 dX12_savedOnes_28 (by decide) ?_
    exact hrec4 y8 (x2 + 1) σ6 hf
theorem w_X12_savedOnes_4 {N : Nat} {Γ : SG} {ρ : Nat → Nat → Nat} (hs : Sh Γ ρ) {this : Nat} (h0 : Γ[this]? = some (0, 12)) {n0 : Nat} {r : Int32} {σr : St} : ∀ (n : Nat) (x1 : Int32) (x2 : Int32) (σ : St), f_X12_savedOnes_4 N ρ this n x1 x2 σ = some (r, σr) → Go mX12_savedOnes 1 0 0 n0 (Ki Γ ρ r σr) 0 0 4 [some (.ref this), some (.int x1), some (.int x2)] [] (hp Γ ρ σ) := by
  intro n
  induction n with
  | zero => intro x1 x2 σ hf; cases hf
  | succ n ih => intro x1 x2 σ hf; exact v_X12_savedOnes_4 hs h0 _ ih x1 x2 σ hf
set_option maxRecDepth 100000 in
set_option maxHeartbeats 4000000 in
theorem t_X12_savedOnes {N : Nat} {Γ : SG} {ρ : Nat → Nat → Nat} (hs : Sh Γ ρ) {this : Nat} (h0 : Γ[this]? = some (0, 12)) {σ : St} {r : Int32} {σr : St} (hf : f_X12_savedOnes N ρ this σ = some (r, σr)) : Tri mX12_savedOnes 1 0 0 [.ref this] (hp Γ ρ σ) (Ki Γ ρ r σr) := by
  unfold f_X12_savedOnes at hf
  refine tri_of [some (.ref this), none, none] (plainFor_of_name rfl) rfl (Nat.le_of_ble_eq_true rfl) ?_
  refine go_iconst 0 dX12_savedOnes_0 (by decide) ?_
  refine go_istore_n 1 [some (.ref this), some (.int 0), none] dX12_savedOnes_1 rfl (by decide) rfl ?_
  refine go_iconst 0 dX12_savedOnes_2 (by decide) ?_
  refine go_istore_n 2 [some (.ref this), some (.int 0), some (.int 0)] dX12_savedOnes_3 rfl (by decide) rfl ?_
  exact w_X12_savedOnes_4 hs h0 N 0 0 σ hf
def f_X12_saved (N : Nat) (ρ : Nat → Nat → Nat) (this : Nat) (σ : St) : Option (Int32 × St) :=
  bnd (f_X12_fill N ρ this σ) fun _ σ2 =>
  bnd (f_X12_savedOnes N ρ this σ2) fun r4 σ5 =>
  some (r4, σ5)
set_option maxRecDepth 100000 in
set_option maxHeartbeats 4000000 in
theorem t_X12_saved {N : Nat} {Γ : SG} {ρ : Nat → Nat → Nat} (hs : Sh Γ ρ) {this : Nat} (h0 : Γ[this]? = some (0, 12)) {σ : St} {r : Int32} {σr : St} (hf : f_X12_saved N ρ this σ = some (r, σr)) : Tri mX12_saved 2 0 0 [.ref this] (hp Γ ρ σ) (Ki Γ ρ r σr) := by
  unfold f_X12_saved at hf
  refine tri_of [some (.ref this)] (plainFor_of_name rfl) rfl (Nat.le_of_ble_eq_true rfl) ?_
  refine go_aload_n 0 dX12_saved_0 rfl rfl ?_
  obtain ⟨r1, σ2, q3, hf⟩ := bnd_some hf
  refine go_Vv (av := []) (rest := []) (t_X12_fill hs h0 q3) ok_X12_fill ml_X12_451 dX12_saved_1 h0 rfl rfl (by decide) (Nat.le_refl _) (Nat.le_refl _) (Nat.le_of_ble_eq_true rfl) ?_
  refine go_aload_n 0 dX12_saved_4 rfl rfl ?_
  obtain ⟨r4, σ5, q6, hf⟩ := bnd_some hf
  refine go_Vi (av := []) (rest := []) (t_X12_savedOnes hs h0 q6) ok_X12_savedOnes ml_X12_521 dX12_saved_5 h0 rfl rfl (by decide) (Nat.le_refl _) (Nat.le_refl _) (Nat.le_of_ble_eq_true rfl) ?_
  cases hf
  exact go_iret rfl dX12_saved_8 (Nat.le_refl _) ⟨rfl, rfl⟩
def b_X12_grace_6 (N : Nat) (ρ : Nat → Nat → Nat) (this : Nat) (rec6 : Int32 → St → Option (Int32 × St)) (x1 : Int32) (σ : St) : Option (Int32 × St) :=
  if 60 < (x1 : Int32) then
    some ((-1), σ)
  else
    bnd (f_X12_savedOnes N ρ this σ) fun r2 σ3 =>
    bnd (f_X12_members N ρ r2 σ3) fun r5 σ6 =>
    if (r5 : Int32) = (σ6.1 this 50) then
      some (x1, σ6)
    else
      bnd (f_X12_goEvening N ρ this 0 σ6) fun _ σ10 =>
      rec6 (x1 + 1) σ10
def f_X12_grace_6 (N : Nat) (ρ : Nat → Nat → Nat) (this : Nat) : Nat → Int32 → St → Option (Int32 × St)
  | 0, _, _ => none
  | n + 1, x1, σ => b_X12_grace_6 N ρ this (f_X12_grace_6 N ρ this n) x1 σ
def f_X12_grace (N : Nat) (ρ : Nat → Nat → Nat) (this : Nat) (σ : St) : Option (Int32 × St) :=
  bnd (f_X12_fill N ρ this σ) fun _ σ13 =>
  f_X12_grace_6 N ρ this N 0 σ13
set_option maxRecDepth 100000 in
set_option maxHeartbeats 4000000 in
theorem v_X12_grace_6 {N : Nat} {Γ : SG} {ρ : Nat → Nat → Nat} (hs : Sh Γ ρ) {this : Nat} (h0 : Γ[this]? = some (0, 12)) {n0 : Nat} {r : Int32} {σr : St} (rec6 : Int32 → St → Option (Int32 × St)) (hrec6 : ∀ (x1 : Int32) (σ : St), rec6 x1 σ = some (r, σr) → Go mX12_grace 7 0 0 n0 (Ki Γ ρ r σr) 0 0 6 [some (.ref this), some (.int x1)] [] (hp Γ ρ σ)) (x1 : Int32) (σ : St) (hf : b_X12_grace_6 N ρ this rec6 x1 σ = some (r, σr)) : Go mX12_grace 7 0 0 n0 (Ki Γ ρ r σr) 0 0 6 [some (.ref this), some (.int x1)] [] (hp Γ ρ σ) := by
  unfold b_X12_grace_6 at hf
  refine go_iload_n 1 dX12_grace_6 rfl rfl ?_
  refine go_bipush 60 dX12_grace_7 (by decide) ?_
  refine go_icmp_gt 39 dX12_grace_9 (by decide) (fun c1 => ?_) (fun c1 => ?_)
  · replace hf := (if_pos c1).symm.trans hf
    refine go_iconst (-1) dX12_grace_39 (by decide) ?_
    cases hf
    exact go_iret rfl dX12_grace_40 (Nat.le_refl _) ⟨rfl, rfl⟩
  · replace hf := (if_neg c1).symm.trans hf
    refine go_aload_n 0 dX12_grace_12 rfl rfl ?_
    obtain ⟨r2, σ3, q4, hf⟩ := bnd_some hf
    refine go_Vi (av := []) (rest := []) (t_X12_savedOnes hs h0 q4) ok_X12_savedOnes ml_X12_521 dX12_grace_13 h0 rfl rfl (by decide) (Nat.le_refl _) (Nat.le_refl _) (Nat.le_of_ble_eq_true rfl) ?_
    obtain ⟨r5, σ6, q7, hf⟩ := bnd_some hf
    refine go_Si (av := [.int r2]) (rest := []) (t_X12_members hs  q7) ok_X12_members ml_X12_433 dX12_grace_16 rfl rfl (by decide) (Nat.le_refl _) (Nat.le_refl _) (Nat.le_of_ble_eq_true rfl) ?_
    refine go_aload_n 0 dX12_grace_19 rfl rfl ?_
    refine go_fI fl_X12_395 dX12_grace_20 h0 (by decide) rfl ?_
    refine go_icmp_ne 28 dX12_grace_23 (by decide) (fun c8 => ?_) (fun c8 => ?_)
    · replace hf := (if_neg c8).symm.trans hf
      refine go_aload_n 0 dX12_grace_28 rfl rfl ?_
      refine go_iconst 0 dX12_grace_29 (by decide) ?_
      obtain ⟨r9, σ10, q11, hf⟩ := bnd_some hf
      refine go_Vv (av := [.int 0]) (rest := []) (t_X12_goEvening hs h0 q11) ok_X12_goEvening ml_X12_469 dX12_grace_30 h0 rfl rfl (by decide) (Nat.le_refl _) (Nat.le_refl _) (Nat.le_of_ble_eq_true rfl) ?_
      refine go_iinc (x1 + 1) [some (.ref this), some (.int (x1 + 1))] dX12_grace_33 rfl rfl (by decide) rfl ?_
      refine go_goto 6 dX12_grace_36 (by decide) ?_
      exact hrec6 (x1 + 1) σ10 hf
    · replace hf := (if_pos c8).symm.trans hf
      refine go_iload_n 1 dX12_grace_26 rfl rfl ?_
      cases hf
      exact go_iret rfl dX12_grace_27 (Nat.le_refl _) ⟨rfl, rfl⟩
theorem w_X12_grace_6 {N : Nat} {Γ : SG} {ρ : Nat → Nat → Nat} (hs : Sh Γ ρ) {this : Nat} (h0 : Γ[this]? = some (0, 12)) {n0 : Nat} {r : Int32} {σr : St} : ∀ (n : Nat) (x1 : Int32) (σ : St), f_X12_grace_6 N ρ this n x1 σ = some (r, σr) → Go mX12_grace 7 0 0 n0 (Ki Γ ρ r σr) 0 0 6 [some (.ref this), some (.int x1)] [] (hp Γ ρ σ) := by
  intro n
  induction n with
  | zero => intro x1 σ hf; cases hf
  | succ n ih => intro x1 σ hf; exact v_X12_grace_6 hs h0 _ ih x1 σ hf
set_option maxRecDepth 100000 in
set_option maxHeartbeats 4000000 in
theorem t_X12_grace {N : Nat} {Γ : SG} {ρ : Nat → Nat → Nat} (hs : Sh Γ ρ) {this : Nat} (h0 : Γ[this]? = some (0, 12)) {σ : St} {r : Int32} {σr : St} (hf : f_X12_grace N ρ this σ = some (r, σr)) : Tri mX12_grace 7 0 0 [.ref this] (hp Γ ρ σ) (Ki Γ ρ r σr) := by
  unfold f_X12_grace at hf
  refine tri_of [some (.ref this), none] (plainFor_of_name rfl) rfl (Nat.le_of_ble_eq_true rfl) ?_
  refine go_aload_n 0 dX12_grace_0 rfl rfl ?_
  obtain ⟨r12, σ13, q14, hf⟩ := bnd_some hf
  refine go_Vv (av := []) (rest := []) (t_X12_fill hs h0 q14) ok_X12_fill ml_X12_451 dX12_grace_1 h0 rfl rfl (by decide) (Nat.le_refl _) (Nat.le_refl _) (Nat.le_of_ble_eq_true rfl) ?_
  refine go_iconst 0 dX12_grace_4 (by decide) ?_
  refine go_istore_n 1 [some (.ref this), some (.int 0)] dX12_grace_5 rfl (by decide) rfl ?_
  exact w_X12_grace_6 hs h0 N 0 σ13 hf
def f_X12_easiest_58 (N : Nat) (ρ : Nat → Nat → Nat) (this : Nat) (a1 : Int32) (rec18 : Int32 → Int32 → St → Option (Int32 × St)) (x2 : Int32) (x3 : Int32) (σ : St) : Option (Int32 × St) :=
  rec18 x2 (x3 + 1) σ
def f_X12_easiest_56 (N : Nat) (ρ : Nat → Nat → Nat) (this : Nat) (a1 : Int32) (rec18 : Int32 → Int32 → St → Option (Int32 × St)) (x3 : Int32) (σ : St) : Option (Int32 × St) :=
  f_X12_easiest_58 N ρ this a1 rec18 x3 x3 σ
def b_X12_easiest_18 (N : Nat) (ρ : Nat → Nat → Nat) (this : Nat) (a1 : Int32) (rec18 : Int32 → Int32 → St → Option (Int32 × St)) (x2 : Int32) (x3 : Int32) (σ : St) : Option (Int32 × St) :=
  if (σ.1 this 49) ≤ (x3 : Int32) then
    some (x2, σ)
  else
    bnd (f_X12_countsAlone N ρ this a1 x3 σ) fun r2 σ3 =>
    if (r2 : Int32) = 0 then
      f_X12_easiest_58 N ρ this a1 rec18 x2 x3 σ3
    else
      if (x2 : Int32) < 0 then
        f_X12_easiest_56 N ρ this a1 rec18 x3 σ3
      else
        bnd (f_X12_loadAt N ρ this a1 x3 1 σ3) fun r7 σ8 =>
        bnd (f_X12_loadAt N ρ this a1 x2 1 σ8) fun r10 σ11 =>
        if r10 ≤ (r7 : Int32) then
          f_X12_easiest_58 N ρ this a1 rec18 x2 x3 σ11
        else
          f_X12_easiest_56 N ρ this a1 rec18 x3 σ11
def f_X12_easiest_18 (N : Nat) (ρ : Nat → Nat → Nat) (this : Nat) (a1 : Int32) : Nat → Int32 → Int32 → St → Option (Int32 × St)
  | 0, _, _, _ => none
  | n + 1, x2, x3, σ => b_X12_easiest_18 N ρ this a1 (f_X12_easiest_18 N ρ this a1 n) x2 x3 σ
def f_X12_easiest (N : Nat) (ρ : Nat → Nat → Nat) (this : Nat) (a1 : Int32) (σ : St) : Option (Int32 × St) :=
  bnd (f_X12_isStool N ρ this a1 σ) fun r14 σ15 =>
  if (r14 : Int32) = 0 then
    some ((-1), σ15)
  else
    bnd (f_X12_fill N ρ this σ15) fun _ σ19 =>
    f_X12_easiest_18 N ρ this a1 N (-1) 0 σ19
set_option maxRecDepth 100000 in
set_option maxHeartbeats 4000000 in
theorem w_X12_easiest_58 {N : Nat} {Γ : SG} {ρ : Nat → Nat → Nat} (hs : Sh Γ ρ) {this : Nat} {a1 : Int32} (h0 : Γ[this]? = some (0, 12)) {n0 : Nat} {r : Int32} {σr : St} (rec18 : Int32 → Int32 → St → Option (Int32 × St)) (hrec18 : ∀ (x2 : Int32) (x3 : Int32) (σ : St), rec18 x2 x3 σ = some (r, σr) → Go mX12_easiest 7 0 0 n0 (Ki Γ ρ r σr) 0 0 18 [some (.ref this), some (.int a1), some (.int x2), some (.int x3)] [] (hp Γ ρ σ)) (x2 : Int32) (x3 : Int32) (σ : St) (hf : f_X12_easiest_58 N ρ this a1 rec18 x2 x3 σ = some (r, σr)) : Go mX12_easiest 7 0 0 n0 (Ki Γ ρ r σr) 0 0 58 [some (.ref this), some (.int a1), some (.int x2), some (.int x3)] [] (hp Γ ρ σ) := by
  unfold f_X12_easiest_58 at hf
  refine go_iinc (x3 + 1) [some (.ref this), some (.int a1), some (.int x2), some (.int (x3 + 1))] dX12_easiest_58 rfl rfl (by decide) rfl ?_
  refine go_goto 18 dX12_easiest_61 (by decide) ?_
  exact hrec18 x2 (x3 + 1) σ hf
set_option maxRecDepth 100000 in
set_option maxHeartbeats 4000000 in
theorem w_X12_easiest_56 {N : Nat} {Γ : SG} {ρ : Nat → Nat → Nat} (hs : Sh Γ ρ) {this : Nat} {a1 : Int32} (h0 : Γ[this]? = some (0, 12)) {n0 : Nat} {r : Int32} {σr : St} (rec18 : Int32 → Int32 → St → Option (Int32 × St)) (hrec18 : ∀ (x2 : Int32) (x3 : Int32) (σ : St), rec18 x2 x3 σ = some (r, σr) → Go mX12_easiest 7 0 0 n0 (Ki Γ ρ r σr) 0 0 18 [some (.ref this), some (.int a1), some (.int x2), some (.int x3)] [] (hp Γ ρ σ)) (x3 : Int32) (σ : St) (hf : f_X12_easiest_56 N ρ this a1 rec18 x3 σ = some (r, σr)) : Go mX12_easiest 7 0 0 n0 (Ki Γ ρ r σr) 0 0 56 [some (.ref this), some (.int a1), none, some (.int x3)] [] (hp Γ ρ σ) := by
  unfold f_X12_easiest_56 at hf
  refine go_iload_n 3 dX12_easiest_56 rfl rfl ?_
  refine go_istore_n 2 [some (.ref this), some (.int a1), some (.int x3), some (.int x3)] dX12_easiest_57 rfl (by decide) rfl ?_
  exact w_X12_easiest_58 hs h0 rec18 hrec18 x3 x3 σ hf
set_option maxRecDepth 100000 in
set_option maxHeartbeats 4000000 in
theorem v_X12_easiest_18 {N : Nat} {Γ : SG} {ρ : Nat → Nat → Nat} (hs : Sh Γ ρ) {this : Nat} {a1 : Int32} (h0 : Γ[this]? = some (0, 12)) {n0 : Nat} {r : Int32} {σr : St} (rec18 : Int32 → Int32 → St → Option (Int32 × St)) (hrec18 : ∀ (x2 : Int32) (x3 : Int32) (σ : St), rec18 x2 x3 σ = some (r, σr) → Go mX12_easiest 7 0 0 n0 (Ki Γ ρ r σr) 0 0 18 [some (.ref this), some (.int a1), some (.int x2), some (.int x3)] [] (hp Γ ρ σ)) (x2 : Int32) (x3 : Int32) (σ : St) (hf : b_X12_easiest_18 N ρ this a1 rec18 x2 x3 σ = some (r, σr)) : Go mX12_easiest 7 0 0 n0 (Ki Γ ρ r σr) 0 0 18 [some (.ref this), some (.int a1), some (.int x2), some (.int x3)] [] (hp Γ ρ σ) := by
  unfold b_X12_easiest_18 at hf
  refine go_iload_n 3 dX12_easiest_18 rfl rfl ?_
  refine go_aload_n 0 dX12_easiest_19 rfl rfl ?_
  refine go_fI fl_X12_392 dX12_easiest_20 h0 (by decide) rfl ?_
  refine go_icmp_ge 64 dX12_easiest_23 (by decide) (fun c1 => ?_) (fun c1 => ?_)
  · replace hf := (if_pos c1).symm.trans hf
    refine go_iload_n 2 dX12_easiest_64 rfl rfl ?_
    cases hf
    exact go_iret rfl dX12_easiest_65 (Nat.le_refl _) ⟨rfl, rfl⟩
  · replace hf := (if_neg c1).symm.trans hf
    refine go_aload_n 0 dX12_easiest_26 rfl rfl ?_
    refine go_iload_n 1 dX12_easiest_27 rfl rfl ?_
    refine go_iload_n 3 dX12_easiest_28 rfl rfl ?_
    obtain ⟨r2, σ3, q4, hf⟩ := bnd_some hf
    refine go_Vi (av := [.int a1, .int x3]) (rest := []) (t_X12_countsAlone hs h0 q4) ok_X12_countsAlone ml_X12_503 dX12_easiest_29 h0 rfl rfl (by decide) (Nat.le_refl _) (Nat.le_refl _) (Nat.le_of_ble_eq_true rfl) ?_
    refine go_if_eq 58 dX12_easiest_32 (by decide) (fun c5 => ?_) (fun c5 => ?_)
    · replace hf := (if_pos c5).symm.trans hf
      exact w_X12_easiest_58 hs h0 rec18 hrec18 x2 x3 σ3 hf
    · replace hf := (if_neg c5).symm.trans hf
      refine go_iload_n 2 dX12_easiest_35 rfl rfl ?_
      refine go_if_lt 56 dX12_easiest_36 (by decide) (fun c6 => ?_) (fun c6 => ?_)
      · replace hf := (if_pos c6).symm.trans hf
        refine go_msk [true, true, false, true] [some (.ref this), some (.int a1), none, some (.int x3)] rfl ?_
        exact w_X12_easiest_56 hs h0 rec18 hrec18 x3 σ3 hf
      · replace hf := (if_neg c6).symm.trans hf
        refine go_aload_n 0 dX12_easiest_39 rfl rfl ?_
        refine go_iload_n 1 dX12_easiest_40 rfl rfl ?_
        refine go_iload_n 3 dX12_easiest_41 rfl rfl ?_
        refine go_iconst 1 dX12_easiest_42 (by decide) ?_
        obtain ⟨r7, σ8, q9, hf⟩ := bnd_some hf
        refine go_Vi (av := [.int a1, .int x3, .int 1]) (rest := []) (t_X12_loadAt hs h0 q9) ok_X12_loadAt ml_X12_436 dX12_easiest_43 h0 rfl rfl (by decide) (Nat.le_refl _) (Nat.le_refl _) (Nat.le_of_ble_eq_true rfl) ?_
        refine go_aload_n 0 dX12_easiest_46 rfl rfl ?_
        refine go_iload_n 1 dX12_easiest_47 rfl rfl ?_
        refine go_iload_n 2 dX12_easiest_48 rfl rfl ?_
        refine go_iconst 1 dX12_easiest_49 (by decide) ?_
        obtain ⟨r10, σ11, q12, hf⟩ := bnd_some hf
        refine go_Vi (av := [.int a1, .int x2, .int 1]) (rest := [.int r7]) (t_X12_loadAt hs h0 q12) ok_X12_loadAt ml_X12_436 dX12_easiest_50 h0 rfl rfl (by decide) (Nat.le_refl _) (Nat.le_refl _) (Nat.le_of_ble_eq_true rfl) ?_
        refine go_icmp_ge 58 dX12_easiest_53 (by decide) (fun c13 => ?_) (fun c13 => ?_)
        · replace hf := (if_pos c13).symm.trans hf
          exact w_X12_easiest_58 hs h0 rec18 hrec18 x2 x3 σ11 hf
        · replace hf := (if_neg c13).symm.trans hf
          refine go_msk [true, true, false, true] [some (.ref this), some (.int a1), none, some (.int x3)] rfl ?_
          exact w_X12_easiest_56 hs h0 rec18 hrec18 x3 σ11 hf
theorem w_X12_easiest_18 {N : Nat} {Γ : SG} {ρ : Nat → Nat → Nat} (hs : Sh Γ ρ) {this : Nat} {a1 : Int32} (h0 : Γ[this]? = some (0, 12)) {n0 : Nat} {r : Int32} {σr : St} : ∀ (n : Nat) (x2 : Int32) (x3 : Int32) (σ : St), f_X12_easiest_18 N ρ this a1 n x2 x3 σ = some (r, σr) → Go mX12_easiest 7 0 0 n0 (Ki Γ ρ r σr) 0 0 18 [some (.ref this), some (.int a1), some (.int x2), some (.int x3)] [] (hp Γ ρ σ) := by
  intro n
  induction n with
  | zero => intro x2 x3 σ hf; cases hf
  | succ n ih => intro x2 x3 σ hf; exact v_X12_easiest_18 hs h0 _ ih x2 x3 σ hf
set_option maxRecDepth 100000 in
set_option maxHeartbeats 4000000 in
theorem t_X12_easiest {N : Nat} {Γ : SG} {ρ : Nat → Nat → Nat} (hs : Sh Γ ρ) {this : Nat} {a1 : Int32} (h0 : Γ[this]? = some (0, 12)) {σ : St} {r : Int32} {σr : St} (hf : f_X12_easiest N ρ this a1 σ = some (r, σr)) : Tri mX12_easiest 7 0 0 [.ref this, .int a1] (hp Γ ρ σ) (Ki Γ ρ r σr) := by
  unfold f_X12_easiest at hf
  refine tri_of [some (.ref this), some (.int a1), none, none] (plainFor_of_name rfl) rfl (Nat.le_of_ble_eq_true rfl) ?_
  refine go_aload_n 0 dX12_easiest_0 rfl rfl ?_
  refine go_iload_n 1 dX12_easiest_1 rfl rfl ?_
  obtain ⟨r14, σ15, q16, hf⟩ := bnd_some hf
  refine go_Vi (av := [.int a1]) (rest := []) (t_X12_isStool hs h0 q16) ok_X12_isStool ml_X12_454 dX12_easiest_2 h0 rfl rfl (by decide) (Nat.le_refl _) (Nat.le_refl _) (Nat.le_of_ble_eq_true rfl) ?_
  refine go_if_ne 10 dX12_easiest_5 (by decide) (fun c17 => ?_) (fun c17 => ?_)
  · replace hf := (if_neg c17).symm.trans hf
    refine go_aload_n 0 dX12_easiest_10 rfl rfl ?_
    obtain ⟨r18, σ19, q20, hf⟩ := bnd_some hf
    refine go_Vv (av := []) (rest := []) (t_X12_fill hs h0 q20) ok_X12_fill ml_X12_451 dX12_easiest_11 h0 rfl rfl (by decide) (Nat.le_refl _) (Nat.le_refl _) (Nat.le_of_ble_eq_true rfl) ?_
    refine go_iconst (-1) dX12_easiest_14 (by decide) ?_
    refine go_istore_n 2 [some (.ref this), some (.int a1), some (.int (-1)), none] dX12_easiest_15 rfl (by decide) rfl ?_
    refine go_iconst 0 dX12_easiest_16 (by decide) ?_
    refine go_istore_n 3 [some (.ref this), some (.int a1), some (.int (-1)), some (.int 0)] dX12_easiest_17 rfl (by decide) rfl ?_
    exact w_X12_easiest_18 hs h0 N (-1) 0 σ19 hf
  · replace hf := (if_pos c17).symm.trans hf
    refine go_iconst (-1) dX12_easiest_8 (by decide) ?_
    cases hf
    exact go_iret rfl dX12_easiest_9 (Nat.le_refl _) ⟨rfl, rfl⟩
def b_X12_forlorn_15 (N : Nat) (ρ : Nat → Nat → Nat) (this : Nat) (rec15 : Int32 → Int32 → St → Option (Int32 × St)) (x1 : Int32) (x2 : Int32) (σ : St) : Option (Int32 × St) :=
  if (σ.1 this 50) ≤ (x2 : Int32) then
    some (x1, σ)
  else
    gd (ib x2 5) <|
    nmd (x1 &&& ((σ.1 (ρ this 67) x2.toNatClampNeg) ^^^ (-1))) fun y3 =>
    rec15 y3 (x2 + 1) σ
def f_X12_forlorn_15 (N : Nat) (ρ : Nat → Nat → Nat) (this : Nat) : Nat → Int32 → Int32 → St → Option (Int32 × St)
  | 0, _, _, _ => none
  | n + 1, x1, x2, σ => b_X12_forlorn_15 N ρ this (f_X12_forlorn_15 N ρ this n) x1 x2 σ
def f_X12_forlorn (N : Nat) (ρ : Nat → Nat → Nat) (this : Nat) (σ : St) : Option (Int32 × St) :=
  bnd (f_X12_layCould N ρ this σ) fun _ σ5 =>
  nmd ((1 <<< ((σ5.1 this 49) &&& 31)) - 1) fun y7 =>
  f_X12_forlorn_15 N ρ this N y7 0 σ5
set_option maxRecDepth 100000 in
set_option maxHeartbeats 4000000 in
theorem v_X12_forlorn_15 {N : Nat} {Γ : SG} {ρ : Nat → Nat → Nat} (hs : Sh Γ ρ) {this : Nat} (h0 : Γ[this]? = some (0, 12)) {n0 : Nat} {r : Int32} {σr : St} (rec15 : Int32 → Int32 → St → Option (Int32 × St)) (hrec15 : ∀ (x1 : Int32) (x2 : Int32) (σ : St), rec15 x1 x2 σ = some (r, σr) → Go mX12_forlorn 8 0 0 n0 (Ki Γ ρ r σr) 0 0 15 [some (.ref this), some (.int x1), some (.int x2)] [] (hp Γ ρ σ)) (x1 : Int32) (x2 : Int32) (σ : St) (hf : b_X12_forlorn_15 N ρ this rec15 x1 x2 σ = some (r, σr)) : Go mX12_forlorn 8 0 0 n0 (Ki Γ ρ r σr) 0 0 15 [some (.ref this), some (.int x1), some (.int x2)] [] (hp Γ ρ σ) := by
  unfold b_X12_forlorn_15 at hf
  refine go_iload_n 2 dX12_forlorn_15 rfl rfl ?_
  refine go_aload_n 0 dX12_forlorn_16 rfl rfl ?_
  refine go_fI fl_X12_395 dX12_forlorn_17 h0 (by decide) rfl ?_
  refine go_icmp_ge 40 dX12_forlorn_20 (by decide) (fun c1 => ?_) (fun c1 => ?_)
  · replace hf := (if_pos c1).symm.trans hf
    refine go_iload_n 1 dX12_forlorn_40 rfl rfl ?_
    cases hf
    exact go_iret rfl dX12_forlorn_41 (Nat.le_refl _) ⟨rfl, rfl⟩
  · replace hf := (if_neg c1).symm.trans hf
    refine go_iload_n 1 dX12_forlorn_23 rfl rfl ?_
    refine go_aload_n 0 dX12_forlorn_24 rfl rfl ?_
    refine go_fR fl_X12_127 dX12_forlorn_25 h0 (by decide) rfl ?_
    refine go_iload_n 2 dX12_forlorn_28 rfl rfl ?_
    obtain ⟨g2, hf⟩ := gd_some hf
    refine go_rI dX12_forlorn_29 (hs.1 _ 12 67 h0 rfl) (ib_in g2) ?_
    refine go_iconst (-1) dX12_forlorn_30 (by decide) ?_
    refine go_ixor dX12_forlorn_31 ?_
    refine go_iand dX12_forlorn_32 ?_
    obtain ⟨y3, ey3, hf⟩ := nmd_some hf
    refine go_nm ey3 ?_
    refine go_istore_n 1 [some (.ref this), some (.int y3), some (.int x2)] dX12_forlorn_33 rfl (by decide) rfl ?_
    refine go_iinc (x2 + 1) [some (.ref this), some (.int y3), some (.int (x2 + 1))] dX12_forlorn_34 rfl rfl (by decide) rfl ?_
    refine go_goto 15 dX12_forlorn_37 (by decide) ?_
    exact hrec15 y3 (x2 + 1) σ hf
theorem w_X12_forlorn_15 {N : Nat} {Γ : SG} {ρ : Nat → Nat → Nat} (hs : Sh Γ ρ) {this : Nat} (h0 : Γ[this]? = some (0, 12)) {n0 : Nat} {r : Int32} {σr : St} : ∀ (n : Nat) (x1 : Int32) (x2 : Int32) (σ : St), f_X12_forlorn_15 N ρ this n x1 x2 σ = some (r, σr) → Go mX12_forlorn 8 0 0 n0 (Ki Γ ρ r σr) 0 0 15 [some (.ref this), some (.int x1), some (.int x2)] [] (hp Γ ρ σ) := by
  intro n
  induction n with
  | zero => intro x1 x2 σ hf; cases hf
  | succ n ih => intro x1 x2 σ hf; exact v_X12_forlorn_15 hs h0 _ ih x1 x2 σ hf
set_option maxRecDepth 100000 in
set_option maxHeartbeats 4000000 in
theorem t_X12_forlorn {N : Nat} {Γ : SG} {ρ : Nat → Nat → Nat} (hs : Sh Γ ρ) {this : Nat} (h0 : Γ[this]? = some (0, 12)) {σ : St} {r : Int32} {σr : St} (hf : f_X12_forlorn N ρ this σ = some (r, σr)) : Tri mX12_forlorn 8 0 0 [.ref this] (hp Γ ρ σ) (Ki Γ ρ r σr) := by
  unfold f_X12_forlorn at hf
  refine tri_of [some (.ref this), none, none] (plainFor_of_name rfl) rfl (Nat.le_of_ble_eq_true rfl) ?_
  refine go_aload_n 0 dX12_forlorn_0 rfl rfl ?_
  obtain ⟨r4, σ5, q6, hf⟩ := bnd_some hf
  refine go_Vv (av := []) (rest := []) (t_X12_layCould hs h0 q6) ok_X12_layCould ml_X12_518 dX12_forlorn_1 h0 rfl rfl (by decide) (Nat.le_refl _) (Nat.le_refl _) (Nat.le_of_ble_eq_true rfl) ?_
  refine go_iconst 1 dX12_forlorn_4 (by decide) ?_
  refine go_aload_n 0 dX12_forlorn_5 rfl rfl ?_
  refine go_fI fl_X12_392 dX12_forlorn_6 h0 (by decide) rfl ?_
  refine go_ishl dX12_forlorn_9 ?_
  refine go_iconst 1 dX12_forlorn_10 (by decide) ?_
  refine go_isub dX12_forlorn_11 ?_
  obtain ⟨y7, ey7, hf⟩ := nmd_some hf
  refine go_nm ey7 ?_
  refine go_istore_n 1 [some (.ref this), some (.int y7), none] dX12_forlorn_12 rfl (by decide) rfl ?_
  refine go_iconst 0 dX12_forlorn_13 (by decide) ?_
  refine go_istore_n 2 [some (.ref this), some (.int y7), some (.int 0)] dX12_forlorn_14 rfl (by decide) rfl ?_
  exact w_X12_forlorn_15 hs h0 N y7 0 σ5 hf
def f_X12_nearest_55 (N : Nat) (ρ : Nat → Nat → Nat) (this : Nat) (a1 : Int32) (rec18 : Int32 → Int32 → St → Option (Int32 × St)) (x2 : Int32) (x3 : Int32) (σ : St) : Option (Int32 × St) :=
  rec18 x2 (x3 + 1) σ
def f_X12_nearest_53 (N : Nat) (ρ : Nat → Nat → Nat) (this : Nat) (a1 : Int32) (rec18 : Int32 → Int32 → St → Option (Int32 × St)) (x3 : Int32) (σ : St) : Option (Int32 × St) :=
  f_X12_nearest_55 N ρ this a1 rec18 x3 x3 σ
def b_X12_nearest_18 (N : Nat) (ρ : Nat → Nat → Nat) (this : Nat) (a1 : Int32) (rec18 : Int32 → Int32 → St → Option (Int32 × St)) (x2 : Int32) (x3 : Int32) (σ : St) : Option (Int32 × St) :=
  if (σ.1 this 49) ≤ (x3 : Int32) then
    some (x2, σ)
  else
    bnd (f_X12_hasRoom N ρ this x3 σ) fun r2 σ3 =>
    if (r2 : Int32) = 0 then
      f_X12_nearest_55 N ρ this a1 rec18 x2 x3 σ3
    else
      if (x2 : Int32) < 0 then
        f_X12_nearest_53 N ρ this a1 rec18 x3 σ3
      else
        bnd (f_X12_wayOf N ρ this a1 x3 σ3) fun r7 σ8 =>
        bnd (f_X12_wayOf N ρ this a1 x2 σ8) fun r10 σ11 =>
        if r10 ≤ (r7 : Int32) then
          f_X12_nearest_55 N ρ this a1 rec18 x2 x3 σ11
        else
          f_X12_nearest_53 N ρ this a1 rec18 x3 σ11
def f_X12_nearest_18 (N : Nat) (ρ : Nat → Nat → Nat) (this : Nat) (a1 : Int32) : Nat → Int32 → Int32 → St → Option (Int32 × St)
  | 0, _, _, _ => none
  | n + 1, x2, x3, σ => b_X12_nearest_18 N ρ this a1 (f_X12_nearest_18 N ρ this a1 n) x2 x3 σ
def f_X12_nearest (N : Nat) (ρ : Nat → Nat → Nat) (this : Nat) (a1 : Int32) (σ : St) : Option (Int32 × St) :=
  bnd (f_X12_isStool N ρ this a1 σ) fun r14 σ15 =>
  if (r14 : Int32) = 0 then
    some ((-1), σ15)
  else
    bnd (f_X12_fill N ρ this σ15) fun _ σ19 =>
    f_X12_nearest_18 N ρ this a1 N (-1) 0 σ19
set_option maxRecDepth 100000 in
set_option maxHeartbeats 4000000 in
theorem w_X12_nearest_55 {N : Nat} {Γ : SG} {ρ : Nat → Nat → Nat} (hs : Sh Γ ρ) {this : Nat} {a1 : Int32} (h0 : Γ[this]? = some (0, 12)) {n0 : Nat} {r : Int32} {σr : St} (rec18 : Int32 → Int32 → St → Option (Int32 × St)) (hrec18 : ∀ (x2 : Int32) (x3 : Int32) (σ : St), rec18 x2 x3 σ = some (r, σr) → Go mX12_nearest 3 0 0 n0 (Ki Γ ρ r σr) 0 0 18 [some (.ref this), some (.int a1), some (.int x2), some (.int x3)] [] (hp Γ ρ σ)) (x2 : Int32) (x3 : Int32) (σ : St) (hf : f_X12_nearest_55 N ρ this a1 rec18 x2 x3 σ = some (r, σr)) : Go mX12_nearest 3 0 0 n0 (Ki Γ ρ r σr) 0 0 55 [some (.ref this), some (.int a1), some (.int x2), some (.int x3)] [] (hp Γ ρ σ) := by
  unfold f_X12_nearest_55 at hf
  refine go_iinc (x3 + 1) [some (.ref this), some (.int a1), some (.int x2), some (.int (x3 + 1))] dX12_nearest_55 rfl rfl (by decide) rfl ?_
  refine go_goto 18 dX12_nearest_58 (by decide) ?_
  exact hrec18 x2 (x3 + 1) σ hf
set_option maxRecDepth 100000 in
set_option maxHeartbeats 4000000 in
theorem w_X12_nearest_53 {N : Nat} {Γ : SG} {ρ : Nat → Nat → Nat} (hs : Sh Γ ρ) {this : Nat} {a1 : Int32} (h0 : Γ[this]? = some (0, 12)) {n0 : Nat} {r : Int32} {σr : St} (rec18 : Int32 → Int32 → St → Option (Int32 × St)) (hrec18 : ∀ (x2 : Int32) (x3 : Int32) (σ : St), rec18 x2 x3 σ = some (r, σr) → Go mX12_nearest 3 0 0 n0 (Ki Γ ρ r σr) 0 0 18 [some (.ref this), some (.int a1), some (.int x2), some (.int x3)] [] (hp Γ ρ σ)) (x3 : Int32) (σ : St) (hf : f_X12_nearest_53 N ρ this a1 rec18 x3 σ = some (r, σr)) : Go mX12_nearest 3 0 0 n0 (Ki Γ ρ r σr) 0 0 53 [some (.ref this), some (.int a1), none, some (.int x3)] [] (hp Γ ρ σ) := by
  unfold f_X12_nearest_53 at hf
  refine go_iload_n 3 dX12_nearest_53 rfl rfl ?_
  refine go_istore_n 2 [some (.ref this), some (.int a1), some (.int x3), some (.int x3)] dX12_nearest_54 rfl (by decide) rfl ?_
  exact w_X12_nearest_55 hs h0 rec18 hrec18 x3 x3 σ hf
set_option maxRecDepth 100000 in
set_option maxHeartbeats 4000000 in
theorem v_X12_nearest_18 {N : Nat} {Γ : SG} {ρ : Nat → Nat → Nat} (hs : Sh Γ ρ) {this : Nat} {a1 : Int32} (h0 : Γ[this]? = some (0, 12)) {n0 : Nat} {r : Int32} {σr : St} (rec18 : Int32 → Int32 → St → Option (Int32 × St)) (hrec18 : ∀ (x2 : Int32) (x3 : Int32) (σ : St), rec18 x2 x3 σ = some (r, σr) → Go mX12_nearest 3 0 0 n0 (Ki Γ ρ r σr) 0 0 18 [some (.ref this), some (.int a1), some (.int x2), some (.int x3)] [] (hp Γ ρ σ)) (x2 : Int32) (x3 : Int32) (σ : St) (hf : b_X12_nearest_18 N ρ this a1 rec18 x2 x3 σ = some (r, σr)) : Go mX12_nearest 3 0 0 n0 (Ki Γ ρ r σr) 0 0 18 [some (.ref this), some (.int a1), some (.int x2), some (.int x3)] [] (hp Γ ρ σ) := by
  unfold b_X12_nearest_18 at hf
  refine go_iload_n 3 dX12_nearest_18 rfl rfl ?_
  refine go_aload_n 0 dX12_nearest_19 rfl rfl ?_
  refine go_fI fl_X12_392 dX12_nearest_20 h0 (by decide) rfl ?_
  refine go_icmp_ge 61 dX12_nearest_23 (by decide) (fun c1 => ?_) (fun c1 => ?_)
  · replace hf := (if_pos c1).symm.trans hf
    refine go_iload_n 2 dX12_nearest_61 rfl rfl ?_
    cases hf
    exact go_iret rfl dX12_nearest_62 (Nat.le_refl _) ⟨rfl, rfl⟩
  · replace hf := (if_neg c1).symm.trans hf
    refine go_aload_n 0 dX12_nearest_26 rfl rfl ?_
    refine go_iload_n 3 dX12_nearest_27 rfl rfl ?_
    obtain ⟨r2, σ3, q4, hf⟩ := bnd_some hf
    refine go_Vi (av := [.int x3]) (rest := []) (t_X12_hasRoom hs h0 q4) ok_X12_hasRoom ml_X12_460 dX12_nearest_28 h0 rfl rfl (by decide) (Nat.le_refl _) (Nat.le_refl _) (Nat.le_of_ble_eq_true rfl) ?_
    refine go_if_eq 55 dX12_nearest_31 (by decide) (fun c5 => ?_) (fun c5 => ?_)
    · replace hf := (if_pos c5).symm.trans hf
      exact w_X12_nearest_55 hs h0 rec18 hrec18 x2 x3 σ3 hf
    · replace hf := (if_neg c5).symm.trans hf
      refine go_iload_n 2 dX12_nearest_34 rfl rfl ?_
      refine go_if_lt 53 dX12_nearest_35 (by decide) (fun c6 => ?_) (fun c6 => ?_)
      · replace hf := (if_pos c6).symm.trans hf
        refine go_msk [true, true, false, true] [some (.ref this), some (.int a1), none, some (.int x3)] rfl ?_
        exact w_X12_nearest_53 hs h0 rec18 hrec18 x3 σ3 hf
      · replace hf := (if_neg c6).symm.trans hf
        refine go_aload_n 0 dX12_nearest_38 rfl rfl ?_
        refine go_iload_n 1 dX12_nearest_39 rfl rfl ?_
        refine go_iload_n 3 dX12_nearest_40 rfl rfl ?_
        obtain ⟨r7, σ8, q9, hf⟩ := bnd_some hf
        refine go_Vi (av := [.int a1, .int x3]) (rest := []) (t_X12_wayOf hs h0 q9) ok_X12_wayOf ml_X12_481 dX12_nearest_41 h0 rfl rfl (by decide) (Nat.le_refl _) (Nat.le_refl _) (Nat.le_of_ble_eq_true rfl) ?_
        refine go_aload_n 0 dX12_nearest_44 rfl rfl ?_
        refine go_iload_n 1 dX12_nearest_45 rfl rfl ?_
        refine go_iload_n 2 dX12_nearest_46 rfl rfl ?_
        obtain ⟨r10, σ11, q12, hf⟩ := bnd_some hf
        refine go_Vi (av := [.int a1, .int x2]) (rest := [.int r7]) (t_X12_wayOf hs h0 q12) ok_X12_wayOf ml_X12_481 dX12_nearest_47 h0 rfl rfl (by decide) (Nat.le_refl _) (Nat.le_refl _) (Nat.le_of_ble_eq_true rfl) ?_
        refine go_icmp_ge 55 dX12_nearest_50 (by decide) (fun c13 => ?_) (fun c13 => ?_)
        · replace hf := (if_pos c13).symm.trans hf
          exact w_X12_nearest_55 hs h0 rec18 hrec18 x2 x3 σ11 hf
        · replace hf := (if_neg c13).symm.trans hf
          refine go_msk [true, true, false, true] [some (.ref this), some (.int a1), none, some (.int x3)] rfl ?_
          exact w_X12_nearest_53 hs h0 rec18 hrec18 x3 σ11 hf
theorem w_X12_nearest_18 {N : Nat} {Γ : SG} {ρ : Nat → Nat → Nat} (hs : Sh Γ ρ) {this : Nat} {a1 : Int32} (h0 : Γ[this]? = some (0, 12)) {n0 : Nat} {r : Int32} {σr : St} : ∀ (n : Nat) (x2 : Int32) (x3 : Int32) (σ : St), f_X12_nearest_18 N ρ this a1 n x2 x3 σ = some (r, σr) → Go mX12_nearest 3 0 0 n0 (Ki Γ ρ r σr) 0 0 18 [some (.ref this), some (.int a1), some (.int x2), some (.int x3)] [] (hp Γ ρ σ) := by
  intro n
  induction n with
  | zero => intro x2 x3 σ hf; cases hf
  | succ n ih => intro x2 x3 σ hf; exact v_X12_nearest_18 hs h0 _ ih x2 x3 σ hf
set_option maxRecDepth 100000 in
set_option maxHeartbeats 4000000 in
theorem t_X12_nearest {N : Nat} {Γ : SG} {ρ : Nat → Nat → Nat} (hs : Sh Γ ρ) {this : Nat} {a1 : Int32} (h0 : Γ[this]? = some (0, 12)) {σ : St} {r : Int32} {σr : St} (hf : f_X12_nearest N ρ this a1 σ = some (r, σr)) : Tri mX12_nearest 3 0 0 [.ref this, .int a1] (hp Γ ρ σ) (Ki Γ ρ r σr) := by
  unfold f_X12_nearest at hf
  refine tri_of [some (.ref this), some (.int a1), none, none] (plainFor_of_name rfl) rfl (Nat.le_of_ble_eq_true rfl) ?_
  refine go_aload_n 0 dX12_nearest_0 rfl rfl ?_
  refine go_iload_n 1 dX12_nearest_1 rfl rfl ?_
  obtain ⟨r14, σ15, q16, hf⟩ := bnd_some hf
  refine go_Vi (av := [.int a1]) (rest := []) (t_X12_isStool hs h0 q16) ok_X12_isStool ml_X12_454 dX12_nearest_2 h0 rfl rfl (by decide) (Nat.le_refl _) (Nat.le_refl _) (Nat.le_of_ble_eq_true rfl) ?_
  refine go_if_ne 10 dX12_nearest_5 (by decide) (fun c17 => ?_) (fun c17 => ?_)
  · replace hf := (if_neg c17).symm.trans hf
    refine go_aload_n 0 dX12_nearest_10 rfl rfl ?_
    obtain ⟨r18, σ19, q20, hf⟩ := bnd_some hf
    refine go_Vv (av := []) (rest := []) (t_X12_fill hs h0 q20) ok_X12_fill ml_X12_451 dX12_nearest_11 h0 rfl rfl (by decide) (Nat.le_refl _) (Nat.le_refl _) (Nat.le_of_ble_eq_true rfl) ?_
    refine go_iconst (-1) dX12_nearest_14 (by decide) ?_
    refine go_istore_n 2 [some (.ref this), some (.int a1), some (.int (-1)), none] dX12_nearest_15 rfl (by decide) rfl ?_
    refine go_iconst 0 dX12_nearest_16 (by decide) ?_
    refine go_istore_n 3 [some (.ref this), some (.int a1), some (.int (-1)), some (.int 0)] dX12_nearest_17 rfl (by decide) rfl ?_
    exact w_X12_nearest_18 hs h0 N (-1) 0 σ19 hf
  · replace hf := (if_pos c17).symm.trans hf
    refine go_iconst (-1) dX12_nearest_8 (by decide) ?_
    cases hf
    exact go_iret rfl dX12_nearest_9 (Nat.le_refl _) ⟨rfl, rfl⟩
def f_X12_law (N : Nat) (ρ : Nat → Nat → Nat) (this : Nat) (a1 : Int32) (σ : St) : Option (Int32 × St) :=
  bnd (f_X12_isIn N ρ a1 (-99) 99 σ) fun r1 σ2 =>
  if (r1 : Int32) = 0 then
    some ((-1), σ2)
  else
    bnd (f_X12_fill N ρ this σ2) fun _ σ6 =>
    nmd (sI σ6 this 27 a1) fun σ8 =>
    bnd (f_X12_whoFares N ρ this 1 σ8) fun r9 σ10 =>
    bnd (f_X12_members N ρ r9 σ10) fun r12 σ13 =>
    nmd (sI σ13 this 27 0) fun σ15 =>
    some (r12, σ15)
set_option maxRecDepth 100000 in
set_option maxHeartbeats 4000000 in
theorem t_X12_law {N : Nat} {Γ : SG} {ρ : Nat → Nat → Nat} (hs : Sh Γ ρ) {this : Nat} {a1 : Int32} (h0 : Γ[this]? = some (0, 12)) {σ : St} {r : Int32} {σr : St} (hf : f_X12_law N ρ this a1 σ = some (r, σr)) : Tri mX12_law 7 0 0 [.ref this, .int a1] (hp Γ ρ σ) (Ki Γ ρ r σr) := by
  unfold f_X12_law at hf
  refine tri_of [some (.ref this), some (.int a1), none] (plainFor_of_name rfl) rfl (Nat.le_of_ble_eq_true rfl) ?_
  refine go_iload_n 1 dX12_law_0 rfl rfl ?_
  refine go_bipush (-99) dX12_law_1 (by decide) ?_
  refine go_bipush 99 dX12_law_3 (by decide) ?_
  obtain ⟨r1, σ2, q3, hf⟩ := bnd_some hf
  refine go_Si (av := [.int a1, .int (-99), .int 99]) (rest := []) (t_X12_isIn hs  q3) ok_X12_isIn ml_X12_422 dX12_law_5 rfl rfl (by decide) (Nat.le_refl _) (Nat.le_refl _) (Nat.le_of_ble_eq_true rfl) ?_
  refine go_if_ne 13 dX12_law_8 (by decide) (fun c4 => ?_) (fun c4 => ?_)
  · replace hf := (if_neg c4).symm.trans hf
    refine go_aload_n 0 dX12_law_13 rfl rfl ?_
    obtain ⟨r5, σ6, q7, hf⟩ := bnd_some hf
    refine go_Vv (av := []) (rest := []) (t_X12_fill hs h0 q7) ok_X12_fill ml_X12_451 dX12_law_14 h0 rfl rfl (by decide) (Nat.le_refl _) (Nat.le_refl _) (Nat.le_of_ble_eq_true rfl) ?_
    refine go_aload_n 0 dX12_law_17 rfl rfl ?_
    refine go_iload_n 1 dX12_law_18 rfl rfl ?_
    obtain ⟨σ8, eσ8, hf⟩ := nmd_some hf
    refine go_pI fl_X12_333 ft_12_27 (okv_i _) dX12_law_19 h0 (by decide) rfl ?_
    rw [eσ8]
    refine go_aload_n 0 dX12_law_22 rfl rfl ?_
    refine go_iconst 1 dX12_law_23 (by decide) ?_
    obtain ⟨r9, σ10, q11, hf⟩ := bnd_some hf
    refine go_Vi (av := [.int 1]) (rest := []) (t_X12_whoFares hs h0 q11) ok_X12_whoFares ml_X12_475 dX12_law_24 h0 rfl rfl (by decide) (Nat.le_refl _) (Nat.le_refl _) (Nat.le_of_ble_eq_true rfl) ?_
    obtain ⟨r12, σ13, q14, hf⟩ := bnd_some hf
    refine go_Si (av := [.int r9]) (rest := []) (t_X12_members hs  q14) ok_X12_members ml_X12_433 dX12_law_27 rfl rfl (by decide) (Nat.le_refl _) (Nat.le_refl _) (Nat.le_of_ble_eq_true rfl) ?_
    refine go_istore_n 2 [some (.ref this), some (.int a1), some (.int r12)] dX12_law_30 rfl (by decide) rfl ?_
    refine go_aload_n 0 dX12_law_31 rfl rfl ?_
    refine go_iconst 0 dX12_law_32 (by decide) ?_
    obtain ⟨σ15, eσ15, hf⟩ := nmd_some hf
    refine go_pI fl_X12_333 ft_12_27 (okv_i _) dX12_law_33 h0 (by decide) rfl ?_
    rw [eσ15]
    refine go_iload_n 2 dX12_law_36 rfl rfl ?_
    cases hf
    exact go_iret rfl dX12_law_37 (Nat.le_refl _) ⟨rfl, rfl⟩
  · replace hf := (if_pos c4).symm.trans hf
    refine go_iconst (-1) dX12_law_11 (by decide) ?_
    cases hf
    exact go_iret rfl dX12_law_12 (Nat.le_refl _) ⟨rfl, rfl⟩
def f_X12_schisms_40 (N : Nat) (ρ : Nat → Nat → Nat) (this : Nat) (rec4 : Int32 → Int32 → St → Option (Int32 × St)) (rec14 : Int32 → Int32 → Int32 → St → Option (Int32 × St)) (x2 : Int32) (x3 : Int32) (s0 : Int32) (s1 : Int32) (σ : St) : Option (Int32 × St) :=
  bnd (f_X12_truth N ρ s0 σ) fun r1 σ2 =>
  nmd (s1 + r1) fun y4 =>
  rec14 y4 x2 (x3 + 1) σ2
def b_X12_schisms_14 (N : Nat) (ρ : Nat → Nat → Nat) (this : Nat) (rec4 : Int32 → Int32 → St → Option (Int32 × St)) (rec14 : Int32 → Int32 → Int32 → St → Option (Int32 × St)) (x1 : Int32) (x2 : Int32) (x3 : Int32) (σ : St) : Option (Int32 × St) :=
  if x2 ≤ (x3 : Int32) then
    rec4 x1 (x2 + 1) σ
  else
    gd (ib x2 5) <|
    gd (ib x3 5) <|
    if (σ.1 (ρ this 42) x2.toNatClampNeg : Int32) = (σ.1 (ρ this 42) x3.toNatClampNeg) then
      f_X12_schisms_40 N ρ this rec4 rec14 x2 x3 0 x1 σ
    else
      f_X12_schisms_40 N ρ this rec4 rec14 x2 x3 1 x1 σ
def f_X12_schisms_14 (N : Nat) (ρ : Nat → Nat → Nat) (this : Nat) (rec4 : Int32 → Int32 → St → Option (Int32 × St)) : Nat → Int32 → Int32 → Int32 → St → Option (Int32 × St)
  | 0, _, _, _, _ => none
  | n + 1, x1, x2, x3, σ => b_X12_schisms_14 N ρ this rec4 (f_X12_schisms_14 N ρ this rec4 n) x1 x2 x3 σ
def b_X12_schisms_4 (N : Nat) (ρ : Nat → Nat → Nat) (this : Nat) (rec4 : Int32 → Int32 → St → Option (Int32 × St)) (x1 : Int32) (x2 : Int32) (σ : St) : Option (Int32 × St) :=
  if (σ.1 this 50) ≤ (x2 : Int32) then
    some (x1, σ)
  else
    f_X12_schisms_14 N ρ this rec4 N x1 x2 0 σ
def f_X12_schisms_4 (N : Nat) (ρ : Nat → Nat → Nat) (this : Nat) : Nat → Int32 → Int32 → St → Option (Int32 × St)
  | 0, _, _, _ => none
  | n + 1, x1, x2, σ => b_X12_schisms_4 N ρ this (f_X12_schisms_4 N ρ this n) x1 x2 σ
def f_X12_schisms (N : Nat) (ρ : Nat → Nat → Nat) (this : Nat) (σ : St) : Option (Int32 × St) :=
  f_X12_schisms_4 N ρ this N 0 0 σ
set_option maxRecDepth 100000 in
set_option maxHeartbeats 4000000 in
theorem w_X12_schisms_40 {N : Nat} {Γ : SG} {ρ : Nat → Nat → Nat} (hs : Sh Γ ρ) {this : Nat} (h0 : Γ[this]? = some (0, 12)) {n0 : Nat} {r : Int32} {σr : St} (rec4 : Int32 → Int32 → St → Option (Int32 × St)) (hrec4 : ∀ (x1 : Int32) (x2 : Int32) (σ : St), rec4 x1 x2 σ = some (r, σr) → Go mX12_schisms 1 0 0 n0 (Ki Γ ρ r σr) 0 0 4 [some (.ref this), some (.int x1), some (.int x2), none] [] (hp Γ ρ σ)) (rec14 : Int32 → Int32 → Int32 → St → Option (Int32 × St)) (hrec14 : ∀ (x1 : Int32) (x2 : Int32) (x3 : Int32) (σ : St), rec14 x1 x2 x3 σ = some (r, σr) → Go mX12_schisms 1 0 0 n0 (Ki Γ ρ r σr) 0 0 14 [some (.ref this), some (.int x1), some (.int x2), some (.int x3)] [] (hp Γ ρ σ)) (x2 : Int32) (x3 : Int32) (s0 : Int32) (s1 : Int32) (σ : St) (hf : f_X12_schisms_40 N ρ this rec4 rec14 x2 x3 s0 s1 σ = some (r, σr)) : Go mX12_schisms 1 0 0 n0 (Ki Γ ρ r σr) 0 0 40 [some (.ref this), none, some (.int x2), some (.int x3)] [.int s0, .int s1] (hp Γ ρ σ) := by
  unfold f_X12_schisms_40 at hf
  obtain ⟨r1, σ2, q3, hf⟩ := bnd_some hf
  refine go_Si (av := [.int s0]) (rest := [.int s1]) (t_X12_truth hs  q3) ok_X12_truth ml_X12_329 dX12_schisms_40 rfl rfl (by decide) (Nat.le_refl _) (Nat.le_refl _) (Nat.le_of_ble_eq_true rfl) ?_
  refine go_iadd dX12_schisms_43 ?_
  obtain ⟨y4, ey4, hf⟩ := nmd_some hf
  refine go_nm ey4 ?_
  refine go_istore_n 1 [some (.ref this), some (.int y4), some (.int x2), some (.int x3)] dX12_schisms_44 rfl (by decide) rfl ?_
  refine go_iinc (x3 + 1) [some (.ref this), some (.int y4), some (.int x2), some (.int (x3 + 1))] dX12_schisms_45 rfl rfl (by decide) rfl ?_
  refine go_goto 14 dX12_schisms_48 (by decide) ?_
  exact hrec14 y4 x2 (x3 + 1) σ2 hf
set_option maxRecDepth 100000 in
set_option maxHeartbeats 4000000 in
theorem v_X12_schisms_14 {N : Nat} {Γ : SG} {ρ : Nat → Nat → Nat} (hs : Sh Γ ρ) {this : Nat} (h0 : Γ[this]? = some (0, 12)) {n0 : Nat} {r : Int32} {σr : St} (rec4 : Int32 → Int32 → St → Option (Int32 × St)) (hrec4 : ∀ (x1 : Int32) (x2 : Int32) (σ : St), rec4 x1 x2 σ = some (r, σr) → Go mX12_schisms 1 0 0 n0 (Ki Γ ρ r σr) 0 0 4 [some (.ref this), some (.int x1), some (.int x2), none] [] (hp Γ ρ σ)) (rec14 : Int32 → Int32 → Int32 → St → Option (Int32 × St)) (hrec14 : ∀ (x1 : Int32) (x2 : Int32) (x3 : Int32) (σ : St), rec14 x1 x2 x3 σ = some (r, σr) → Go mX12_schisms 1 0 0 n0 (Ki Γ ρ r σr) 0 0 14 [some (.ref this), some (.int x1), some (.int x2), some (.int x3)] [] (hp Γ ρ σ)) (x1 : Int32) (x2 : Int32) (x3 : Int32) (σ : St) (hf : b_X12_schisms_14 N ρ this rec4 rec14 x1 x2 x3 σ = some (r, σr)) : Go mX12_schisms 1 0 0 n0 (Ki Γ ρ r σr) 0 0 14 [some (.ref this), some (.int x1), some (.int x2), some (.int x3)] [] (hp Γ ρ σ) := by
  unfold b_X12_schisms_14 at hf
  refine go_iload_n 3 dX12_schisms_14 rfl rfl ?_
  refine go_iload_n 2 dX12_schisms_15 rfl rfl ?_
  refine go_icmp_ge 51 dX12_schisms_16 (by decide) (fun c5 => ?_) (fun c5 => ?_)
  · replace hf := (if_pos c5).symm.trans hf
    refine go_iinc (x2 + 1) [some (.ref this), some (.int x1), some (.int (x2 + 1)), some (.int x3)] dX12_schisms_51 rfl rfl (by decide) rfl ?_
    refine go_goto 4 dX12_schisms_54 (by decide) ?_
    refine go_msk [true, true, true, false] [some (.ref this), some (.int x1), some (.int (x2 + 1)), none] rfl ?_
    exact hrec4 x1 (x2 + 1) σ hf
  · replace hf := (if_neg c5).symm.trans hf
    refine go_iload_n 1 dX12_schisms_19 rfl rfl ?_
    refine go_aload_n 0 dX12_schisms_20 rfl rfl ?_
    refine go_fR fl_X12_94 dX12_schisms_21 h0 (by decide) rfl ?_
    refine go_iload_n 2 dX12_schisms_24 rfl rfl ?_
    obtain ⟨g6, hf⟩ := gd_some hf
    refine go_rI dX12_schisms_25 (hs.1 _ 12 42 h0 rfl) (ib_in g6) ?_
    refine go_aload_n 0 dX12_schisms_26 rfl rfl ?_
    refine go_fR fl_X12_94 dX12_schisms_27 h0 (by decide) rfl ?_
    refine go_iload_n 3 dX12_schisms_30 rfl rfl ?_
    obtain ⟨g7, hf⟩ := gd_some hf
    refine go_rI dX12_schisms_31 (hs.1 _ 12 42 h0 rfl) (ib_in g7) ?_
    refine go_icmp_eq 39 dX12_schisms_32 (by decide) (fun c8 => ?_) (fun c8 => ?_)
    · replace hf := (if_pos c8).symm.trans hf
      refine go_iconst 0 dX12_schisms_39 (by decide) ?_
      refine go_msk [true, false, true, true] [some (.ref this), none, some (.int x2), some (.int x3)] rfl ?_
      exact w_X12_schisms_40 hs h0 rec4 hrec4 rec14 hrec14 x2 x3 0 x1 σ hf
    · replace hf := (if_neg c8).symm.trans hf
      refine go_iconst 1 dX12_schisms_35 (by decide) ?_
      refine go_goto 40 dX12_schisms_36 (by decide) ?_
      refine go_msk [true, false, true, true] [some (.ref this), none, some (.int x2), some (.int x3)] rfl ?_
      exact w_X12_schisms_40 hs h0 rec4 hrec4 rec14 hrec14 x2 x3 1 x1 σ hf
theorem w_X12_schisms_14 {N : Nat} {Γ : SG} {ρ : Nat → Nat → Nat} (hs : Sh Γ ρ) {this : Nat} (h0 : Γ[this]? = some (0, 12)) {n0 : Nat} {r : Int32} {σr : St} (rec4 : Int32 → Int32 → St → Option (Int32 × St)) (hrec4 : ∀ (x1 : Int32) (x2 : Int32) (σ : St), rec4 x1 x2 σ = some (r, σr) → Go mX12_schisms 1 0 0 n0 (Ki Γ ρ r σr) 0 0 4 [some (.ref this), some (.int x1), some (.int x2), none] [] (hp Γ ρ σ)) : ∀ (n : Nat) (x1 : Int32) (x2 : Int32) (x3 : Int32) (σ : St), f_X12_schisms_14 N ρ this rec4 n x1 x2 x3 σ = some (r, σr) → Go mX12_schisms 1 0 0 n0 (Ki Γ ρ r σr) 0 0 14 [some (.ref this), some (.int x1), some (.int x2), some (.int x3)] [] (hp Γ ρ σ) := by
  intro n
  induction n with
  | zero => intro x1 x2 x3 σ hf; cases hf
  | succ n ih => intro x1 x2 x3 σ hf; exact v_X12_schisms_14 hs h0 rec4 hrec4 _ ih x1 x2 x3 σ hf
set_option maxRecDepth 100000 in
set_option maxHeartbeats 4000000 in
theorem v_X12_schisms_4 {N : Nat} {Γ : SG} {ρ : Nat → Nat → Nat} (hs : Sh Γ ρ) {this : Nat} (h0 : Γ[this]? = some (0, 12)) {n0 : Nat} {r : Int32} {σr : St} (rec4 : Int32 → Int32 → St → Option (Int32 × St)) (hrec4 : ∀ (x1 : Int32) (x2 : Int32) (σ : St), rec4 x1 x2 σ = some (r, σr) → Go mX12_schisms 1 0 0 n0 (Ki Γ ρ r σr) 0 0 4 [some (.ref this), some (.int x1), some (.int x2), none] [] (hp Γ ρ σ)) (x1 : Int32) (x2 : Int32) (σ : St) (hf : b_X12_schisms_4 N ρ this rec4 x1 x2 σ = some (r, σr)) : Go mX12_schisms 1 0 0 n0 (Ki Γ ρ r σr) 0 0 4 [some (.ref this), some (.int x1), some (.int x2), none] [] (hp Γ ρ σ) := by
  unfold b_X12_schisms_4 at hf
  refine go_iload_n 2 dX12_schisms_4 rfl rfl ?_
  refine go_aload_n 0 dX12_schisms_5 rfl rfl ?_
  refine go_fI fl_X12_395 dX12_schisms_6 h0 (by decide) rfl ?_
  refine go_icmp_ge 57 dX12_schisms_9 (by decide) (fun c9 => ?_) (fun c9 => ?_)
  · replace hf := (if_pos c9).symm.trans hf
    refine go_iload_n 1 dX12_schisms_57 rfl rfl ?_
    cases hf
    exact go_iret rfl dX12_schisms_58 (Nat.le_refl _) ⟨rfl, rfl⟩
  · replace hf := (if_neg c9).symm.trans hf
    refine go_iconst 0 dX12_schisms_12 (by decide) ?_
    refine go_istore_n 3 [some (.ref this), some (.int x1), some (.int x2), some (.int 0)] dX12_schisms_13 rfl (by decide) rfl ?_
    exact w_X12_schisms_14 hs h0 rec4 hrec4 N x1 x2 0 σ hf
theorem w_X12_schisms_4 {N : Nat} {Γ : SG} {ρ : Nat → Nat → Nat} (hs : Sh Γ ρ) {this : Nat} (h0 : Γ[this]? = some (0, 12)) {n0 : Nat} {r : Int32} {σr : St} : ∀ (n : Nat) (x1 : Int32) (x2 : Int32) (σ : St), f_X12_schisms_4 N ρ this n x1 x2 σ = some (r, σr) → Go mX12_schisms 1 0 0 n0 (Ki Γ ρ r σr) 0 0 4 [some (.ref this), some (.int x1), some (.int x2), none] [] (hp Γ ρ σ) := by
  intro n
  induction n with
  | zero => intro x1 x2 σ hf; cases hf
  | succ n ih => intro x1 x2 σ hf; exact v_X12_schisms_4 hs h0 _ ih x1 x2 σ hf
set_option maxRecDepth 100000 in
set_option maxHeartbeats 4000000 in
theorem t_X12_schisms {N : Nat} {Γ : SG} {ρ : Nat → Nat → Nat} (hs : Sh Γ ρ) {this : Nat} (h0 : Γ[this]? = some (0, 12)) {σ : St} {r : Int32} {σr : St} (hf : f_X12_schisms N ρ this σ = some (r, σr)) : Tri mX12_schisms 1 0 0 [.ref this] (hp Γ ρ σ) (Ki Γ ρ r σr) := by
  unfold f_X12_schisms at hf
  refine tri_of [some (.ref this), none, none, none] (plainFor_of_name rfl) rfl (Nat.le_of_ble_eq_true rfl) ?_
  refine go_iconst 0 dX12_schisms_0 (by decide) ?_
  refine go_istore_n 1 [some (.ref this), some (.int 0), none, none] dX12_schisms_1 rfl (by decide) rfl ?_
  refine go_iconst 0 dX12_schisms_2 (by decide) ?_
  refine go_istore_n 2 [some (.ref this), some (.int 0), some (.int 0), none] dX12_schisms_3 rfl (by decide) rfl ?_
  exact w_X12_schisms_4 hs h0 N 0 0 σ hf
def b_X12_divisor_4 (N : Nat) (ρ : Nat → Nat → Nat) (a1 : Int32) (a2 : Int32) (rec4 : Int32 → Int32 → St → Option (Int32 × St)) (x2 : Int32) (x3 : Int32) (σ : St) : Option (Int32 × St) :=
  if (x3 : Int32) ≤ 0 then
    some (x2, σ)
  else
    gd (nz x3) <|
    nmd (irem x2 x3) fun y3 =>
    rec4 x3 y3 σ
def f_X12_divisor_4 (N : Nat) (ρ : Nat → Nat → Nat) (a1 : Int32) (a2 : Int32) : Nat → Int32 → Int32 → St → Option (Int32 × St)
  | 0, _, _, _ => none
  | n + 1, x2, x3, σ => b_X12_divisor_4 N ρ a1 a2 (f_X12_divisor_4 N ρ a1 a2 n) x2 x3 σ
def f_X12_divisor (N : Nat) (ρ : Nat → Nat → Nat) (a1 : Int32) (a2 : Int32) (σ : St) : Option (Int32 × St) :=
  f_X12_divisor_4 N ρ a1 a2 N a1 a2 σ
set_option maxRecDepth 100000 in
set_option maxHeartbeats 4000000 in
theorem v_X12_divisor_4 {N : Nat} {Γ : SG} {ρ : Nat → Nat → Nat} (hs : Sh Γ ρ) {a1 : Int32} {a2 : Int32} {n0 : Nat} {r : Int32} {σr : St} (rec4 : Int32 → Int32 → St → Option (Int32 × St)) (hrec4 : ∀ (x2 : Int32) (x3 : Int32) (σ : St), rec4 x2 x3 σ = some (r, σr) → Go mX12_divisor 0 0 0 n0 (Ki Γ ρ r σr) 0 0 4 [none, none, some (.int x2), some (.int x3), none] [] (hp Γ ρ σ)) (x2 : Int32) (x3 : Int32) (σ : St) (hf : b_X12_divisor_4 N ρ a1 a2 rec4 x2 x3 σ = some (r, σr)) : Go mX12_divisor 0 0 0 n0 (Ki Γ ρ r σr) 0 0 4 [none, none, some (.int x2), some (.int x3), none] [] (hp Γ ρ σ) := by
  unfold b_X12_divisor_4 at hf
  refine go_iload_n 3 dX12_divisor_4 rfl rfl ?_
  refine go_if_le 21 dX12_divisor_5 (by decide) (fun c1 => ?_) (fun c1 => ?_)
  · replace hf := (if_pos c1).symm.trans hf
    refine go_iload_n 2 dX12_divisor_21 rfl rfl ?_
    cases hf
    exact go_iret rfl dX12_divisor_22 (Nat.le_refl _) ⟨rfl, rfl⟩
  · replace hf := (if_neg c1).symm.trans hf
    refine go_iload_n 2 dX12_divisor_8 rfl rfl ?_
    refine go_iload_n 3 dX12_divisor_9 rfl rfl ?_
    obtain ⟨g2, hf⟩ := gd_some hf
    refine go_irem dX12_divisor_10 (nz_of g2) ?_
    obtain ⟨y3, ey3, hf⟩ := nmd_some hf
    refine go_nm ey3 ?_
    refine go_istore [none, none, some (.int x2), some (.int x3), some (.int y3)] dX12_divisor_11 (by decide) rfl ?_
    refine go_iload_n 3 dX12_divisor_13 rfl rfl ?_
    refine go_istore_n 2 [none, none, some (.int x3), some (.int x3), some (.int y3)] dX12_divisor_14 rfl (by decide) rfl ?_
    refine go_iload dX12_divisor_15 rfl ?_
    refine go_istore_n 3 [none, none, some (.int x3), some (.int y3), some (.int y3)] dX12_divisor_17 rfl (by decide) rfl ?_
    refine go_goto 4 dX12_divisor_18 (by decide) ?_
    refine go_msk [false, false, true, true, false] [none, none, some (.int x3), some (.int y3), none] rfl ?_
    exact hrec4 x3 y3 σ hf
theorem w_X12_divisor_4 {N : Nat} {Γ : SG} {ρ : Nat → Nat → Nat} (hs : Sh Γ ρ) {a1 : Int32} {a2 : Int32} {n0 : Nat} {r : Int32} {σr : St} : ∀ (n : Nat) (x2 : Int32) (x3 : Int32) (σ : St), f_X12_divisor_4 N ρ a1 a2 n x2 x3 σ = some (r, σr) → Go mX12_divisor 0 0 0 n0 (Ki Γ ρ r σr) 0 0 4 [none, none, some (.int x2), some (.int x3), none] [] (hp Γ ρ σ) := by
  intro n
  induction n with
  | zero => intro x2 x3 σ hf; cases hf
  | succ n ih => intro x2 x3 σ hf; exact v_X12_divisor_4 hs _ ih x2 x3 σ hf
set_option maxRecDepth 100000 in
set_option maxHeartbeats 4000000 in
theorem t_X12_divisor {N : Nat} {Γ : SG} {ρ : Nat → Nat → Nat} (hs : Sh Γ ρ) {a1 : Int32} {a2 : Int32} {σ : St} {r : Int32} {σr : St} (hf : f_X12_divisor N ρ a1 a2 σ = some (r, σr)) : Tri mX12_divisor 0 0 0 [.int a1, .int a2] (hp Γ ρ σ) (Ki Γ ρ r σr) := by
  unfold f_X12_divisor at hf
  refine tri_of [some (.int a1), some (.int a2), none, none, none] (plainFor_of_name rfl) rfl (Nat.le_of_ble_eq_true rfl) ?_
  refine go_iload_n 0 dX12_divisor_0 rfl rfl ?_
  refine go_istore_n 2 [some (.int a1), some (.int a2), some (.int a1), none, none] dX12_divisor_1 rfl (by decide) rfl ?_
  refine go_iload_n 1 dX12_divisor_2 rfl rfl ?_
  refine go_istore_n 3 [some (.int a1), some (.int a2), some (.int a1), some (.int a2), none] dX12_divisor_3 rfl (by decide) rfl ?_
  refine go_msk [false, false, true, true, false] [none, none, some (.int a1), some (.int a2), none] rfl ?_
  exact w_X12_divisor_4 hs N a1 a2 σ hf
def f_X12_odds_18 (N : Nat) (ρ : Nat → Nat → Nat) (this : Nat) (a1 : Int32) (a2 : Int32) (σ : St) : Option (Int32 × St) :=
  some ((-1), σ)
def f_X12_odds_64 (N : Nat) (ρ : Nat → Nat → Nat) (this : Nat) (a1 : Int32) (a2 : Int32) (s0 : Int32) (σ : St) : Option (Int32 × St) :=
  some (s0, σ)
def f_X12_odds (N : Nat) (ρ : Nat → Nat → Nat) (this : Nat) (a1 : Int32) (a2 : Int32) (σ : St) : Option (Int32 × St) :=
  bnd (f_X12_isIn N ρ a1 0 4 σ) fun r1 σ2 =>
  if (r1 : Int32) = 0 then
    f_X12_odds_18 N ρ this a1 a2 σ2
  else
    bnd (f_X12_isIn N ρ a2 0 1 σ2) fun r5 σ6 =>
    if (r5 : Int32) = 0 then
      f_X12_odds_18 N ρ this a1 a2 σ6
    else
      bnd (f_X12_power N ρ (100 - (σ6.1 this 52)) a1 σ6) fun r9 σ10 =>
      bnd (f_X12_power N ρ 100 a1 σ10) fun r12 σ13 =>
      bnd (f_X12_divisor N ρ r12 r9 σ13) fun r15 σ16 =>
      if (a2 : Int32) = 0 then
        gd (nz r15) <|
        f_X12_odds_64 N ρ this a1 a2 (r9 / r15) σ16
      else
        gd (nz r15) <|
        f_X12_odds_64 N ρ this a1 a2 (r12 / r15) σ16
set_option maxRecDepth 100000 in
set_option maxHeartbeats 4000000 in
theorem w_X12_odds_18 {N : Nat} {Γ : SG} {ρ : Nat → Nat → Nat} (hs : Sh Γ ρ) {this : Nat} {a1 : Int32} {a2 : Int32} (h0 : Γ[this]? = some (0, 12)) {n0 : Nat} {r : Int32} {σr : St} (σ : St) (hf : f_X12_odds_18 N ρ this a1 a2 σ = some (r, σr)) : Go mX12_odds 1 0 0 n0 (Ki Γ ρ r σr) 0 0 18 [none, none, none, none, none, none] [] (hp Γ ρ σ) := by
  unfold f_X12_odds_18 at hf
  refine go_iconst (-1) dX12_odds_18 (by decide) ?_
  cases hf
  exact go_iret rfl dX12_odds_19 (Nat.le_refl _) ⟨rfl, rfl⟩
set_option maxRecDepth 100000 in
set_option maxHeartbeats 4000000 in
theorem w_X12_odds_64 {N : Nat} {Γ : SG} {ρ : Nat → Nat → Nat} (hs : Sh Γ ρ) {this : Nat} {a1 : Int32} {a2 : Int32} (h0 : Γ[this]? = some (0, 12)) {n0 : Nat} {r : Int32} {σr : St} (s0 : Int32) (σ : St) (hf : f_X12_odds_64 N ρ this a1 a2 s0 σ = some (r, σr)) : Go mX12_odds 1 0 0 n0 (Ki Γ ρ r σr) 0 0 64 [none, none, none, none, none, none] [.int s0] (hp Γ ρ σ) := by
  unfold f_X12_odds_64 at hf
  cases hf
  exact go_iret rfl dX12_odds_64 (Nat.le_refl _) ⟨rfl, rfl⟩
set_option maxRecDepth 100000 in
set_option maxHeartbeats 4000000 in
theorem t_X12_odds {N : Nat} {Γ : SG} {ρ : Nat → Nat → Nat} (hs : Sh Γ ρ) {this : Nat} {a1 : Int32} {a2 : Int32} (h0 : Γ[this]? = some (0, 12)) {σ : St} {r : Int32} {σr : St} (hf : f_X12_odds N ρ this a1 a2 σ = some (r, σr)) : Tri mX12_odds 1 0 0 [.ref this, .int a1, .int a2] (hp Γ ρ σ) (Ki Γ ρ r σr) := by
  unfold f_X12_odds at hf
  refine tri_of [some (.ref this), some (.int a1), some (.int a2), none, none, none] (plainFor_of_name rfl) rfl (Nat.le_of_ble_eq_true rfl) ?_
  refine go_iload_n 1 dX12_odds_0 rfl rfl ?_
  refine go_iconst 0 dX12_odds_1 (by decide) ?_
  refine go_iconst 4 dX12_odds_2 (by decide) ?_
  obtain ⟨r1, σ2, q3, hf⟩ := bnd_some hf
  refine go_Si (av := [.int a1, .int 0, .int 4]) (rest := []) (t_X12_isIn hs  q3) ok_X12_isIn ml_X12_422 dX12_odds_3 rfl rfl (by decide) (Nat.le_refl _) (Nat.le_refl _) (Nat.le_of_ble_eq_true rfl) ?_
  refine go_if_eq 18 dX12_odds_6 (by decide) (fun c4 => ?_) (fun c4 => ?_)
  · replace hf := (if_pos c4).symm.trans hf
    refine go_msk [false, false, false, false, false, false] [none, none, none, none, none, none] rfl ?_
    exact w_X12_odds_18 hs h0 σ2 hf
  · replace hf := (if_neg c4).symm.trans hf
    refine go_iload_n 2 dX12_odds_9 rfl rfl ?_
    refine go_iconst 0 dX12_odds_10 (by decide) ?_
    refine go_iconst 1 dX12_odds_11 (by decide) ?_
    obtain ⟨r5, σ6, q7, hf⟩ := bnd_some hf
    refine go_Si (av := [.int a2, .int 0, .int 1]) (rest := []) (t_X12_isIn hs  q7) ok_X12_isIn ml_X12_422 dX12_odds_12 rfl rfl (by decide) (Nat.le_refl _) (Nat.le_refl _) (Nat.le_of_ble_eq_true rfl) ?_
    refine go_if_ne 20 dX12_odds_15 (by decide) (fun c8 => ?_) (fun c8 => ?_)
    · replace hf := (if_neg c8).symm.trans hf
      refine go_bipush 100 dX12_odds_20 (by decide) ?_
      refine go_aload_n 0 dX12_odds_22 rfl rfl ?_
      refine go_fI fl_X12_398 dX12_odds_23 h0 (by decide) rfl ?_
      refine go_isub dX12_odds_26 ?_
      refine go_iload_n 1 dX12_odds_27 rfl rfl ?_
      obtain ⟨r9, σ10, q11, hf⟩ := bnd_some hf
      refine go_Si (av := [.int (100 - (σ6.1 this 52)), .int a1]) (rest := []) (t_X12_power hs  q11) ok_X12_power ml_X12_487 dX12_odds_28 rfl rfl (by decide) (Nat.le_refl _) (Nat.le_refl _) (Nat.le_of_ble_eq_true rfl) ?_
      refine go_istore_n 3 [some (.ref this), some (.int a1), some (.int a2), some (.int r9), none, none] dX12_odds_31 rfl (by decide) rfl ?_
      refine go_bipush 100 dX12_odds_32 (by decide) ?_
      refine go_iload_n 1 dX12_odds_34 rfl rfl ?_
      obtain ⟨r12, σ13, q14, hf⟩ := bnd_some hf
      refine go_Si (av := [.int 100, .int a1]) (rest := []) (t_X12_power hs  q14) ok_X12_power ml_X12_487 dX12_odds_35 rfl rfl (by decide) (Nat.le_refl _) (Nat.le_refl _) (Nat.le_of_ble_eq_true rfl) ?_
      refine go_istore [some (.ref this), some (.int a1), some (.int a2), some (.int r9), some (.int r12), none] dX12_odds_38 (by decide) rfl ?_
      refine go_iload dX12_odds_40 rfl ?_
      refine go_iload_n 3 dX12_odds_42 rfl rfl ?_
      obtain ⟨r15, σ16, q17, hf⟩ := bnd_some hf
      refine go_Si (av := [.int r12, .int r9]) (rest := []) (t_X12_divisor hs  q17) ok_X12_divisor ml_X12_524 dX12_odds_43 rfl rfl (by decide) (Nat.le_refl _) (Nat.le_refl _) (Nat.le_of_ble_eq_true rfl) ?_
      refine go_istore [some (.ref this), some (.int a1), some (.int a2), some (.int r9), some (.int r12), some (.int r15)] dX12_odds_46 (by decide) rfl ?_
      refine go_iload_n 2 dX12_odds_48 rfl rfl ?_
      refine go_if_ne 59 dX12_odds_49 (by decide) (fun c18 => ?_) (fun c18 => ?_)
      · replace hf := (if_neg c18).symm.trans hf
        refine go_iload dX12_odds_59 rfl ?_
        refine go_iload dX12_odds_61 rfl ?_
        obtain ⟨g19, hf⟩ := gd_some hf
        refine go_idiv dX12_odds_63 (nz_of g19) ?_
        refine go_msk [false, false, false, false, false, false] [none, none, none, none, none, none] rfl ?_
        exact w_X12_odds_64 hs h0 (r12 / r15) σ16 hf
      · replace hf := (if_pos c18).symm.trans hf
        refine go_iload_n 3 dX12_odds_52 rfl rfl ?_
        refine go_iload dX12_odds_53 rfl ?_
        obtain ⟨g20, hf⟩ := gd_some hf
        refine go_idiv dX12_odds_55 (nz_of g20) ?_
        refine go_goto 64 dX12_odds_56 (by decide) ?_
        refine go_msk [false, false, false, false, false, false] [none, none, none, none, none, none] rfl ?_
        exact w_X12_odds_64 hs h0 (r9 / r15) σ16 hf
    · replace hf := (if_pos c8).symm.trans hf
      refine go_msk [false, false, false, false, false, false] [none, none, none, none, none, none] rfl ?_
      exact w_X12_odds_18 hs h0 σ6 hf
def f_X12_lies_25 (N : Nat) (ρ : Nat → Nat → Nat) (this : Nat) (a1 : Int32) (s0 : Int32) (σ : St) : Option (Int32 × St) :=
  some (s0, σ)
def f_X12_lies (N : Nat) (ρ : Nat → Nat → Nat) (this : Nat) (a1 : Int32) (σ : St) : Option (Int32 × St) :=
  bnd (f_X12_isIn N ρ a1 0 ((σ.1 this 65) - 1) σ) fun r1 σ2 =>
  if (r1 : Int32) = 0 then
    f_X12_lies_25 N ρ this a1 (-2) σ2
  else
    gd (ib a1 5) <|
    f_X12_lies_25 N ρ this a1 (σ2.1 (ρ this 64) a1.toNatClampNeg) σ2
set_option maxRecDepth 100000 in
set_option maxHeartbeats 4000000 in
theorem w_X12_lies_25 {N : Nat} {Γ : SG} {ρ : Nat → Nat → Nat} (hs : Sh Γ ρ) {this : Nat} {a1 : Int32} (h0 : Γ[this]? = some (0, 12)) {n0 : Nat} {r : Int32} {σr : St} (s0 : Int32) (σ : St) (hf : f_X12_lies_25 N ρ this a1 s0 σ = some (r, σr)) : Go mX12_lies 1 0 0 n0 (Ki Γ ρ r σr) 0 0 25 [none, none] [.int s0] (hp Γ ρ σ) := by
  unfold f_X12_lies_25 at hf
  cases hf
  exact go_iret rfl dX12_lies_25 (Nat.le_refl _) ⟨rfl, rfl⟩
set_option maxRecDepth 100000 in
set_option maxHeartbeats 4000000 in
theorem t_X12_lies {N : Nat} {Γ : SG} {ρ : Nat → Nat → Nat} (hs : Sh Γ ρ) {this : Nat} {a1 : Int32} (h0 : Γ[this]? = some (0, 12)) {σ : St} {r : Int32} {σr : St} (hf : f_X12_lies N ρ this a1 σ = some (r, σr)) : Tri mX12_lies 1 0 0 [.ref this, .int a1] (hp Γ ρ σ) (Ki Γ ρ r σr) := by
  unfold f_X12_lies at hf
  refine tri_of [some (.ref this), some (.int a1)] (plainFor_of_name rfl) rfl (Nat.le_of_ble_eq_true rfl) ?_
  refine go_iload_n 1 dX12_lies_0 rfl rfl ?_
  refine go_iconst 0 dX12_lies_1 (by decide) ?_
  refine go_aload_n 0 dX12_lies_2 rfl rfl ?_
  refine go_fI fl_X12_419 dX12_lies_3 h0 (by decide) rfl ?_
  refine go_iconst 1 dX12_lies_6 (by decide) ?_
  refine go_isub dX12_lies_7 ?_
  obtain ⟨r1, σ2, q3, hf⟩ := bnd_some hf
  refine go_Si (av := [.int a1, .int 0, .int ((σ.1 this 65) - 1)]) (rest := []) (t_X12_isIn hs  q3) ok_X12_isIn ml_X12_422 dX12_lies_8 rfl rfl (by decide) (Nat.le_refl _) (Nat.le_refl _) (Nat.le_of_ble_eq_true rfl) ?_
  refine go_if_eq 23 dX12_lies_11 (by decide) (fun c4 => ?_) (fun c4 => ?_)
  · replace hf := (if_pos c4).symm.trans hf
    refine go_bipush (-2) dX12_lies_23 (by decide) ?_
    refine go_msk [false, false] [none, none] rfl ?_
    exact w_X12_lies_25 hs h0 (-2) σ2 hf
  · replace hf := (if_neg c4).symm.trans hf
    refine go_aload_n 0 dX12_lies_14 rfl rfl ?_
    refine go_fR fl_X12_121 dX12_lies_15 h0 (by decide) rfl ?_
    refine go_iload_n 1 dX12_lies_18 rfl rfl ?_
    obtain ⟨g5, hf⟩ := gd_some hf
    refine go_rI dX12_lies_19 (hs.1 _ 12 64 h0 rfl) (ib_in g5) ?_
    refine go_goto 25 dX12_lies_20 (by decide) ?_
    refine go_msk [false, false] [none, none] rfl ?_
    exact w_X12_lies_25 hs h0 (σ2.1 (ρ this 64) a1.toNatClampNeg) σ2 hf
def f_X12_mark_35 (N : Nat) (ρ : Nat → Nat → Nat) (this : Nat) (a1 : Int32) (a2 : Int32) (a3 : Int32) (a4 : Int32) (σ : St) : Option (Int32 × St) :=
  some ((-1), σ)
def f_X12_mark (N : Nat) (ρ : Nat → Nat → Nat) (this : Nat) (a1 : Int32) (a2 : Int32) (a3 : Int32) (a4 : Int32) (σ : St) : Option (Int32 × St) :=
  if (σ.1 this 50 : Int32) = 0 then
    f_X12_mark_35 N ρ this a1 a2 a3 a4 σ
  else
    bnd (f_X12_isIn N ρ a2 1 3 σ) fun r2 σ3 =>
    if (r2 : Int32) = 0 then
      f_X12_mark_35 N ρ this a1 a2 a3 a4 σ3
    else
      bnd (f_X12_isIn N ρ a3 0 99 σ3) fun r6 σ7 =>
      if (r6 : Int32) = 0 then
        f_X12_mark_35 N ρ this a1 a2 a3 a4 σ7
      else
        if (σ7.1 this 74 : Int32) = 30 then
          f_X12_mark_35 N ρ this a1 a2 a3 a4 σ7
        else
          gd (ib (σ7.1 this 74) 30) <|
          nmd (sI σ7 (ρ this 68) (σ7.1 this 74).toNatClampNeg a1) fun σ12 =>
          gd (ib (σ12.1 this 74) 30) <|
          nmd (sI σ12 (ρ this 69) (σ12.1 this 74).toNatClampNeg a2) fun σ14 =>
          gd (ib (σ14.1 this 74) 30) <|
          nmd (sI σ14 (ρ this 70) (σ14.1 this 74).toNatClampNeg a3) fun σ16 =>
          gd (ib (σ16.1 this 74) 30) <|
          nmd (sI σ16 (ρ this 73) (σ16.1 this 74).toNatClampNeg (vp_nar .boolean a4)) fun σ18 =>
          gd (ib (σ18.1 this 74) 30) <|
          nmd (sI σ18 (ρ this 71) (σ18.1 this 74).toNatClampNeg (σ18.1 this 75)) fun σ20 =>
          gd (ib (σ20.1 this 74) 30) <|
          nmd (sI σ20 (ρ this 72) (σ20.1 this 74).toNatClampNeg (-1)) fun σ22 =>
          nmd (sI σ22 this 74 ((σ22.1 this 74) + 1)) fun σ23 =>
          some ((σ23.1 this 74) - 1, σ23)
set_option maxRecDepth 100000 in
set_option maxHeartbeats 4000000 in
theorem w_X12_mark_35 {N : Nat} {Γ : SG} {ρ : Nat → Nat → Nat} (hs : Sh Γ ρ) {this : Nat} {a1 : Int32} {a2 : Int32} {a3 : Int32} {a4 : Int32} (h0 : Γ[this]? = some (0, 12)) {n0 : Nat} {r : Int32} {σr : St} (σ : St) (hf : f_X12_mark_35 N ρ this a1 a2 a3 a4 σ = some (r, σr)) : Go mX12_mark 1 0 0 n0 (Ki Γ ρ r σr) 0 0 35 [none, none, none, none, none] [] (hp Γ ρ σ) := by
  unfold f_X12_mark_35 at hf
  refine go_iconst (-1) dX12_mark_35 (by decide) ?_
  cases hf
  exact go_iret rfl dX12_mark_36 (Nat.le_refl _) ⟨rfl, rfl⟩
set_option maxRecDepth 100000 in
set_option maxHeartbeats 4000000 in
theorem t_X12_mark {N : Nat} {Γ : SG} {ρ : Nat → Nat → Nat} (hs : Sh Γ ρ) {this : Nat} {a1 : Int32} {a2 : Int32} {a3 : Int32} {a4 : Int32} (h0 : Γ[this]? = some (0, 12)) {σ : St} {r : Int32} {σr : St} (hf : f_X12_mark N ρ this a1 a2 a3 a4 σ = some (r, σr)) : Tri mX12_mark 1 0 0 [.ref this, .int a1, .int a2, .int a3, .int a4] (hp Γ ρ σ) (Ki Γ ρ r σr) := by
  unfold f_X12_mark at hf
  refine tri_of [some (.ref this), some (.int a1), some (.int a2), some (.int a3), some (.int a4)] (plainFor_of_name rfl) rfl (Nat.le_of_ble_eq_true rfl) ?_
  refine go_aload_n 0 dX12_mark_0 rfl rfl ?_
  refine go_fI fl_X12_395 dX12_mark_1 h0 (by decide) rfl ?_
  refine go_if_eq 35 dX12_mark_4 (by decide) (fun c1 => ?_) (fun c1 => ?_)
  · replace hf := (if_pos c1).symm.trans hf
    refine go_msk [false, false, false, false, false] [none, none, none, none, none] rfl ?_
    exact w_X12_mark_35 hs h0 σ hf
  · replace hf := (if_neg c1).symm.trans hf
    refine go_iload_n 2 dX12_mark_7 rfl rfl ?_
    refine go_iconst 1 dX12_mark_8 (by decide) ?_
    refine go_iconst 3 dX12_mark_9 (by decide) ?_
    obtain ⟨r2, σ3, q4, hf⟩ := bnd_some hf
    refine go_Si (av := [.int a2, .int 1, .int 3]) (rest := []) (t_X12_isIn hs  q4) ok_X12_isIn ml_X12_422 dX12_mark_10 rfl rfl (by decide) (Nat.le_refl _) (Nat.le_refl _) (Nat.le_of_ble_eq_true rfl) ?_
    refine go_if_eq 35 dX12_mark_13 (by decide) (fun c5 => ?_) (fun c5 => ?_)
    · replace hf := (if_pos c5).symm.trans hf
      refine go_msk [false, false, false, false, false] [none, none, none, none, none] rfl ?_
      exact w_X12_mark_35 hs h0 σ3 hf
    · replace hf := (if_neg c5).symm.trans hf
      refine go_iload_n 3 dX12_mark_16 rfl rfl ?_
      refine go_iconst 0 dX12_mark_17 (by decide) ?_
      refine go_bipush 99 dX12_mark_18 (by decide) ?_
      obtain ⟨r6, σ7, q8, hf⟩ := bnd_some hf
      refine go_Si (av := [.int a3, .int 0, .int 99]) (rest := []) (t_X12_isIn hs  q8) ok_X12_isIn ml_X12_422 dX12_mark_20 rfl rfl (by decide) (Nat.le_refl _) (Nat.le_refl _) (Nat.le_of_ble_eq_true rfl) ?_
      refine go_if_eq 35 dX12_mark_23 (by decide) (fun c9 => ?_) (fun c9 => ?_)
      · replace hf := (if_pos c9).symm.trans hf
        refine go_msk [false, false, false, false, false] [none, none, none, none, none] rfl ?_
        exact w_X12_mark_35 hs h0 σ7 hf
      · replace hf := (if_neg c9).symm.trans hf
        refine go_aload_n 0 dX12_mark_26 rfl rfl ?_
        refine go_fI fl_X12_416 dX12_mark_27 h0 (by decide) rfl ?_
        refine go_bipush 30 dX12_mark_30 (by decide) ?_
        refine go_icmp_ne 37 dX12_mark_32 (by decide) (fun c10 => ?_) (fun c10 => ?_)
        · replace hf := (if_neg c10).symm.trans hf
          refine go_aload_n 0 dX12_mark_37 rfl rfl ?_
          refine go_fR fl_X12_130 dX12_mark_38 h0 (by decide) rfl ?_
          refine go_aload_n 0 dX12_mark_41 rfl rfl ?_
          refine go_fI fl_X12_416 dX12_mark_42 h0 (by decide) rfl ?_
          refine go_iload_n 1 dX12_mark_45 rfl rfl ?_
          obtain ⟨g11, hf⟩ := gd_some hf
          obtain ⟨σ12, eσ12, hf⟩ := nmd_some hf
          refine go_wI dX12_mark_46 (hs.1 _ 12 68 h0 rfl) (ib_in g11) ?_
          rw [eσ12]
          refine go_aload_n 0 dX12_mark_47 rfl rfl ?_
          refine go_fR fl_X12_133 dX12_mark_48 h0 (by decide) rfl ?_
          refine go_aload_n 0 dX12_mark_51 rfl rfl ?_
          refine go_fI fl_X12_416 dX12_mark_52 h0 (by decide) rfl ?_
          refine go_iload_n 2 dX12_mark_55 rfl rfl ?_
          obtain ⟨g13, hf⟩ := gd_some hf
          obtain ⟨σ14, eσ14, hf⟩ := nmd_some hf
          refine go_wI dX12_mark_56 (hs.1 _ 12 69 h0 rfl) (ib_in g13) ?_
          rw [eσ14]
          refine go_aload_n 0 dX12_mark_57 rfl rfl ?_
          refine go_fR fl_X12_136 dX12_mark_58 h0 (by decide) rfl ?_
          refine go_aload_n 0 dX12_mark_61 rfl rfl ?_
          refine go_fI fl_X12_416 dX12_mark_62 h0 (by decide) rfl ?_
          refine go_iload_n 3 dX12_mark_65 rfl rfl ?_
          obtain ⟨g15, hf⟩ := gd_some hf
          obtain ⟨σ16, eσ16, hf⟩ := nmd_some hf
          refine go_wI dX12_mark_66 (hs.1 _ 12 70 h0 rfl) (ib_in g15) ?_
          rw [eσ16]
          refine go_aload_n 0 dX12_mark_67 rfl rfl ?_
          refine go_fR fl_X12_145 dX12_mark_68 h0 (by decide) rfl ?_
          refine go_aload_n 0 dX12_mark_71 rfl rfl ?_
          refine go_fI fl_X12_416 dX12_mark_72 h0 (by decide) rfl ?_
          refine go_iload dX12_mark_75 rfl ?_
          obtain ⟨g17, hf⟩ := gd_some hf
          obtain ⟨σ18, eσ18, hf⟩ := nmd_some hf
          refine go_wZ dX12_mark_77 (hs.1 _ 12 73 h0 rfl) (ib_in g17) ?_
          rw [eσ18]
          refine go_aload_n 0 dX12_mark_78 rfl rfl ?_
          refine go_fR fl_X12_139 dX12_mark_79 h0 (by decide) rfl ?_
          refine go_aload_n 0 dX12_mark_82 rfl rfl ?_
          refine go_fI fl_X12_416 dX12_mark_83 h0 (by decide) rfl ?_
          refine go_aload_n 0 dX12_mark_86 rfl rfl ?_
          refine go_fI fl_X12_527 dX12_mark_87 h0 (by decide) rfl ?_
          obtain ⟨g19, hf⟩ := gd_some hf
          obtain ⟨σ20, eσ20, hf⟩ := nmd_some hf
          refine go_wI dX12_mark_90 (hs.1 _ 12 71 h0 rfl) (ib_in g19) ?_
          rw [eσ20]
          refine go_aload_n 0 dX12_mark_91 rfl rfl ?_
          refine go_fR fl_X12_142 dX12_mark_92 h0 (by decide) rfl ?_
          refine go_aload_n 0 dX12_mark_95 rfl rfl ?_
          refine go_fI fl_X12_416 dX12_mark_96 h0 (by decide) rfl ?_
          refine go_iconst (-1) dX12_mark_99 (by decide) ?_
          obtain ⟨g21, hf⟩ := gd_some hf
          obtain ⟨σ22, eσ22, hf⟩ := nmd_some hf
          refine go_wI dX12_mark_100 (hs.1 _ 12 72 h0 rfl) (ib_in g21) ?_
          rw [eσ22]
          refine go_aload_n 0 dX12_mark_101 rfl rfl ?_
          refine go_dup dX12_mark_102 rfl ?_
          refine go_fI fl_X12_416 dX12_mark_103 h0 (by decide) rfl ?_
          refine go_iconst 1 dX12_mark_106 (by decide) ?_
          refine go_iadd dX12_mark_107 ?_
          obtain ⟨σ23, eσ23, hf⟩ := nmd_some hf
          refine go_pI fl_X12_416 ft_12_74 (okv_i _) dX12_mark_108 h0 (by decide) rfl ?_
          rw [eσ23]
          refine go_aload_n 0 dX12_mark_111 rfl rfl ?_
          refine go_fI fl_X12_416 dX12_mark_112 h0 (by decide) rfl ?_
          refine go_iconst 1 dX12_mark_115 (by decide) ?_
          refine go_isub dX12_mark_116 ?_
          cases hf
          exact go_iret rfl dX12_mark_117 (Nat.le_refl _) ⟨rfl, rfl⟩
        · replace hf := (if_pos c10).symm.trans hf
          refine go_msk [false, false, false, false, false] [none, none, none, none, none] rfl ?_
          exact w_X12_mark_35 hs h0 σ7 hf
def f_X12_dented (N : Nat) (ρ : Nat → Nat → Nat) (this : Nat) (a1 : Int32) (a2 : Int32) (a3 : Int32) (σ : St) : Option (Int32 × St) :=
  bnd (f_X12_mark N ρ this 0 a1 a2 a3 σ) fun r1 σ2 =>
  some (r1, σ2)
set_option maxRecDepth 100000 in
set_option maxHeartbeats 4000000 in
theorem t_X12_dented {N : Nat} {Γ : SG} {ρ : Nat → Nat → Nat} (hs : Sh Γ ρ) {this : Nat} {a1 : Int32} {a2 : Int32} {a3 : Int32} (h0 : Γ[this]? = some (0, 12)) {σ : St} {r : Int32} {σr : St} (hf : f_X12_dented N ρ this a1 a2 a3 σ = some (r, σr)) : Tri mX12_dented 2 0 0 [.ref this, .int a1, .int a2, .int a3] (hp Γ ρ σ) (Ki Γ ρ r σr) := by
  unfold f_X12_dented at hf
  refine tri_of [some (.ref this), some (.int a1), some (.int a2), some (.int a3)] (plainFor_of_name rfl) rfl (Nat.le_of_ble_eq_true rfl) ?_
  refine go_aload_n 0 dX12_dented_0 rfl rfl ?_
  refine go_iconst 0 dX12_dented_1 (by decide) ?_
  refine go_iload_n 1 dX12_dented_2 rfl rfl ?_
  refine go_iload_n 2 dX12_dented_3 rfl rfl ?_
  refine go_iload_n 3 dX12_dented_4 rfl rfl ?_
  obtain ⟨r1, σ2, q3, hf⟩ := bnd_some hf
  refine go_Vi (av := [.int 0, .int a1, .int a2, .int a3]) (rest := []) (t_X12_mark hs h0 q3) ok_X12_mark ml_X12_530 dX12_dented_5 h0 rfl rfl (by decide) (Nat.le_refl _) (Nat.le_refl _) (Nat.le_of_ble_eq_true rfl) ?_
  cases hf
  exact go_iret rfl dX12_dented_8 (Nat.le_refl _) ⟨rfl, rfl⟩
def f_X12_held (N : Nat) (ρ : Nat → Nat → Nat) (this : Nat) (a1 : Int32) (a2 : Int32) (a3 : Int32) (σ : St) : Option (Int32 × St) :=
  bnd (f_X12_mark N ρ this 1 a1 a2 a3 σ) fun r1 σ2 =>
  some (r1, σ2)
set_option maxRecDepth 100000 in
set_option maxHeartbeats 4000000 in
theorem t_X12_held {N : Nat} {Γ : SG} {ρ : Nat → Nat → Nat} (hs : Sh Γ ρ) {this : Nat} {a1 : Int32} {a2 : Int32} {a3 : Int32} (h0 : Γ[this]? = some (0, 12)) {σ : St} {r : Int32} {σr : St} (hf : f_X12_held N ρ this a1 a2 a3 σ = some (r, σr)) : Tri mX12_held 2 0 0 [.ref this, .int a1, .int a2, .int a3] (hp Γ ρ σ) (Ki Γ ρ r σr) := by
  unfold f_X12_held at hf
  refine tri_of [some (.ref this), some (.int a1), some (.int a2), some (.int a3)] (plainFor_of_name rfl) rfl (Nat.le_of_ble_eq_true rfl) ?_
  refine go_aload_n 0 dX12_held_0 rfl rfl ?_
  refine go_iconst 1 dX12_held_1 (by decide) ?_
  refine go_iload_n 1 dX12_held_2 rfl rfl ?_
  refine go_iload_n 2 dX12_held_3 rfl rfl ?_
  refine go_iload_n 3 dX12_held_4 rfl rfl ?_
  obtain ⟨r1, σ2, q3, hf⟩ := bnd_some hf
  refine go_Vi (av := [.int 1, .int a1, .int a2, .int a3]) (rest := []) (t_X12_mark hs h0 q3) ok_X12_mark ml_X12_530 dX12_held_5 h0 rfl rfl (by decide) (Nat.le_refl _) (Nat.le_refl _) (Nat.le_of_ble_eq_true rfl) ?_
  cases hf
  exact go_iret rfl dX12_held_8 (Nat.le_refl _) ⟨rfl, rfl⟩
def f_X12_untell_23 (N : Nat) (ρ : Nat → Nat → Nat) (this : Nat) (a1 : Int32) (σ : St) : Option (Int32 × St) :=
  some (0, σ)
def f_X12_untell (N : Nat) (ρ : Nat → Nat → Nat) (this : Nat) (a1 : Int32) (σ : St) : Option (Int32 × St) :=
  bnd (f_X12_isIn N ρ a1 0 ((σ.1 this 74) - 1) σ) fun r1 σ2 =>
  if (r1 : Int32) = 0 then
    f_X12_untell_23 N ρ this a1 σ2
  else
    gd (ib a1 30) <|
    if (σ2.1 (ρ this 72) a1.toNatClampNeg : Int32) < 0 then
      gd (ib a1 30) <|
      nmd (sI σ2 (ρ this 72) a1.toNatClampNeg (σ2.1 this 75)) fun σ8 =>
      some (1, σ8)
    else
      f_X12_untell_23 N ρ this a1 σ2
set_option maxRecDepth 100000 in
set_option maxHeartbeats 4000000 in
theorem w_X12_untell_23 {N : Nat} {Γ : SG} {ρ : Nat → Nat → Nat} (hs : Sh Γ ρ) {this : Nat} {a1 : Int32} (h0 : Γ[this]? = some (0, 12)) {n0 : Nat} {r : Int32} {σr : St} (σ : St) (hf : f_X12_untell_23 N ρ this a1 σ = some (r, σr)) : Go mX12_untell 1 0 0 n0 (Ki Γ ρ r σr) 0 0 23 [none, none] [] (hp Γ ρ σ) := by
  unfold f_X12_untell_23 at hf
  refine go_iconst 0 dX12_untell_23 (by decide) ?_
  cases hf
  exact go_zret rfl (by decide) dX12_untell_24 (Nat.le_refl _) ⟨rfl, rfl⟩
set_option maxRecDepth 100000 in
set_option maxHeartbeats 4000000 in
theorem t_X12_untell {N : Nat} {Γ : SG} {ρ : Nat → Nat → Nat} (hs : Sh Γ ρ) {this : Nat} {a1 : Int32} (h0 : Γ[this]? = some (0, 12)) {σ : St} {r : Int32} {σr : St} (hf : f_X12_untell N ρ this a1 σ = some (r, σr)) : Tri mX12_untell 1 0 0 [.ref this, .int a1] (hp Γ ρ σ) (Ki Γ ρ r σr) := by
  unfold f_X12_untell at hf
  refine tri_of [some (.ref this), some (.int a1)] (plainFor_of_name rfl) rfl (Nat.le_of_ble_eq_true rfl) ?_
  refine go_iload_n 1 dX12_untell_0 rfl rfl ?_
  refine go_iconst 0 dX12_untell_1 (by decide) ?_
  refine go_aload_n 0 dX12_untell_2 rfl rfl ?_
  refine go_fI fl_X12_416 dX12_untell_3 h0 (by decide) rfl ?_
  refine go_iconst 1 dX12_untell_6 (by decide) ?_
  refine go_isub dX12_untell_7 ?_
  obtain ⟨r1, σ2, q3, hf⟩ := bnd_some hf
  refine go_Si (av := [.int a1, .int 0, .int ((σ.1 this 74) - 1)]) (rest := []) (t_X12_isIn hs  q3) ok_X12_isIn ml_X12_422 dX12_untell_8 rfl rfl (by decide) (Nat.le_refl _) (Nat.le_refl _) (Nat.le_of_ble_eq_true rfl) ?_
  refine go_if_eq 23 dX12_untell_11 (by decide) (fun c4 => ?_) (fun c4 => ?_)
  · replace hf := (if_pos c4).symm.trans hf
    refine go_msk [false, false] [none, none] rfl ?_
    exact w_X12_untell_23 hs h0 σ2 hf
  · replace hf := (if_neg c4).symm.trans hf
    refine go_aload_n 0 dX12_untell_14 rfl rfl ?_
    refine go_fR fl_X12_142 dX12_untell_15 h0 (by decide) rfl ?_
    refine go_iload_n 1 dX12_untell_18 rfl rfl ?_
    obtain ⟨g5, hf⟩ := gd_some hf
    refine go_rI dX12_untell_19 (hs.1 _ 12 72 h0 rfl) (ib_in g5) ?_
    refine go_if_lt 25 dX12_untell_20 (by decide) (fun c6 => ?_) (fun c6 => ?_)
    · replace hf := (if_pos c6).symm.trans hf
      refine go_aload_n 0 dX12_untell_25 rfl rfl ?_
      refine go_fR fl_X12_142 dX12_untell_26 h0 (by decide) rfl ?_
      refine go_iload_n 1 dX12_untell_29 rfl rfl ?_
      refine go_aload_n 0 dX12_untell_30 rfl rfl ?_
      refine go_fI fl_X12_527 dX12_untell_31 h0 (by decide) rfl ?_
      obtain ⟨g7, hf⟩ := gd_some hf
      obtain ⟨σ8, eσ8, hf⟩ := nmd_some hf
      refine go_wI dX12_untell_34 (hs.1 _ 12 72 h0 rfl) (ib_in g7) ?_
      rw [eσ8]
      refine go_iconst 1 dX12_untell_35 (by decide) ?_
      cases hf
      exact go_zret rfl (by decide) dX12_untell_36 (Nat.le_refl _) ⟨rfl, rfl⟩
    · replace hf := (if_neg c6).symm.trans hf
      refine go_msk [false, false] [none, none] rfl ?_
      exact w_X12_untell_23 hs h0 σ2 hf
def f_X12_later_23 (N : Nat) (ρ : Nat → Nat → Nat) (this : Nat) (a1 : Int32) (σ : St) : Option (Int32 × St) :=
  some ((-1), σ)
def f_X12_later (N : Nat) (ρ : Nat → Nat → Nat) (this : Nat) (a1 : Int32) (σ : St) : Option (Int32 × St) :=
  if (a1 : Int32) < 0 then
    f_X12_later_23 N ρ this a1 σ
  else
    if 1000 < (a1 : Int32) then
      f_X12_later_23 N ρ this a1 σ
    else
      if ((σ.1 this 75) + a1 : Int32) ≤ (100000) then
        nmd (sI σ this 75 ((σ.1 this 75) + a1)) fun σ4 =>
        some (σ4.1 this 75, σ4)
      else
        f_X12_later_23 N ρ this a1 σ
set_option maxRecDepth 100000 in
set_option maxHeartbeats 4000000 in
theorem w_X12_later_23 {N : Nat} {Γ : SG} {ρ : Nat → Nat → Nat} (hs : Sh Γ ρ) {this : Nat} {a1 : Int32} (h0 : Γ[this]? = some (0, 12)) {n0 : Nat} {r : Int32} {σr : St} (σ : St) (hf : f_X12_later_23 N ρ this a1 σ = some (r, σr)) : Go mX12_later 0 0 0 n0 (Ki Γ ρ r σr) 0 0 23 [none, none] [] (hp Γ ρ σ) := by
  unfold f_X12_later_23 at hf
  refine go_iconst (-1) dX12_later_23 (by decide) ?_
  cases hf
  exact go_iret rfl dX12_later_24 (Nat.le_refl _) ⟨rfl, rfl⟩
set_option maxRecDepth 100000 in
set_option maxHeartbeats 4000000 in
theorem t_X12_later {N : Nat} {Γ : SG} {ρ : Nat → Nat → Nat} (hs : Sh Γ ρ) {this : Nat} {a1 : Int32} (h0 : Γ[this]? = some (0, 12)) {σ : St} {r : Int32} {σr : St} (hf : f_X12_later N ρ this a1 σ = some (r, σr)) : Tri mX12_later 0 0 0 [.ref this, .int a1] (hp Γ ρ σ) (Ki Γ ρ r σr) := by
  unfold f_X12_later at hf
  refine tri_of [some (.ref this), some (.int a1)] (plainFor_of_name rfl) rfl (Nat.le_of_ble_eq_true rfl) ?_
  refine go_iload_n 1 dX12_later_0 rfl rfl ?_
  refine go_if_lt 23 dX12_later_1 (by decide) (fun c1 => ?_) (fun c1 => ?_)
  · replace hf := (if_pos c1).symm.trans hf
    refine go_msk [false, false] [none, none] rfl ?_
    exact w_X12_later_23 hs h0 σ hf
  · replace hf := (if_neg c1).symm.trans hf
    refine go_iload_n 1 dX12_later_4 rfl rfl ?_
    refine go_sipush 1000 dX12_later_5 (by decide) ?_
    refine go_icmp_gt 23 dX12_later_8 (by decide) (fun c2 => ?_) (fun c2 => ?_)
    · replace hf := (if_pos c2).symm.trans hf
      refine go_msk [false, false] [none, none] rfl ?_
      exact w_X12_later_23 hs h0 σ hf
    · replace hf := (if_neg c2).symm.trans hf
      refine go_aload_n 0 dX12_later_11 rfl rfl ?_
      refine go_fI fl_X12_527 dX12_later_12 h0 (by decide) rfl ?_
      refine go_iload_n 1 dX12_later_15 rfl rfl ?_
      refine go_iadd dX12_later_16 ?_
      refine go_ldcw (100000) dX12_later_17 cn_X12_534 ?_
      refine go_icmp_le 25 dX12_later_20 (by decide) (fun c3 => ?_) (fun c3 => ?_)
      · replace hf := (if_pos c3).symm.trans hf
        refine go_aload_n 0 dX12_later_25 rfl rfl ?_
        refine go_dup dX12_later_26 rfl ?_
        refine go_fI fl_X12_527 dX12_later_27 h0 (by decide) rfl ?_
        refine go_iload_n 1 dX12_later_30 rfl rfl ?_
        refine go_iadd dX12_later_31 ?_
        obtain ⟨σ4, eσ4, hf⟩ := nmd_some hf
        refine go_pI fl_X12_527 ft_12_75 (okv_i _) dX12_later_32 h0 (by decide) rfl ?_
        rw [eσ4]
        refine go_aload_n 0 dX12_later_35 rfl rfl ?_
        refine go_fI fl_X12_527 dX12_later_36 h0 (by decide) rfl ?_
        cases hf
        exact go_iret rfl dX12_later_39 (Nat.le_refl _) ⟨rfl, rfl⟩
      · replace hf := (if_neg c3).symm.trans hf
        refine go_msk [false, false] [none, none] rfl ?_
        exact w_X12_later_23 hs h0 σ hf
def f_X12_isSo_47 (N : Nat) (ρ : Nat → Nat → Nat) (this : Nat) (a1 : Int32) (s0 : Int32) (σ : St) : Option (Int32 × St) :=
  gd (bb s0) <|
  some (s0, σ)
def f_X12_isSo_33 (N : Nat) (ρ : Nat → Nat → Nat) (this : Nat) (a1 : Int32) (s0 : Int32) (σ : St) : Option (Int32 × St) :=
  gd (ib a1 30) <|
  if (s0 : Int32) < (σ.1 (ρ this 70) a1.toNatClampNeg) then
    f_X12_isSo_47 N ρ this a1 0 σ
  else
    f_X12_isSo_47 N ρ this a1 1 σ
def f_X12_isSo (N : Nat) (ρ : Nat → Nat → Nat) (this : Nat) (a1 : Int32) (σ : St) : Option (Int32 × St) :=
  gd (ib a1 30) <|
  nmd ((σ.1 (ρ this 69) a1.toNatClampNeg) - 1) fun y5 =>
  gd (ib a1 30) <|
  if (σ.1 (ρ this 68) a1.toNatClampNeg : Int32) = 0 then
    gd (ib y5 3) <|
    f_X12_isSo_33 N ρ this a1 (σ.1 (ρ this 77) y5.toNatClampNeg) σ
  else
    gd (ib y5 3) <|
    f_X12_isSo_33 N ρ this a1 (σ.1 (ρ this 78) y5.toNatClampNeg) σ
set_option maxRecDepth 100000 in
set_option maxHeartbeats 4000000 in
theorem w_X12_isSo_47 {N : Nat} {Γ : SG} {ρ : Nat → Nat → Nat} (hs : Sh Γ ρ) {this : Nat} {a1 : Int32} (h0 : Γ[this]? = some (0, 12)) {n0 : Nat} {r : Int32} {σr : St} (s0 : Int32) (σ : St) (hf : f_X12_isSo_47 N ρ this a1 s0 σ = some (r, σr)) : Go mX12_isSo 0 0 0 n0 (Ki Γ ρ r σr) 0 0 47 [none, none, none] [.int s0] (hp Γ ρ σ) := by
  unfold f_X12_isSo_47 at hf
  obtain ⟨g1, hf⟩ := gd_some hf
  cases hf
  exact go_zret rfl (bb_of g1) dX12_isSo_47 (Nat.le_refl _) ⟨rfl, rfl⟩
set_option maxRecDepth 100000 in
set_option maxHeartbeats 4000000 in
theorem w_X12_isSo_33 {N : Nat} {Γ : SG} {ρ : Nat → Nat → Nat} (hs : Sh Γ ρ) {this : Nat} {a1 : Int32} (h0 : Γ[this]? = some (0, 12)) {n0 : Nat} {r : Int32} {σr : St} (s0 : Int32) (σ : St) (hf : f_X12_isSo_33 N ρ this a1 s0 σ = some (r, σr)) : Go mX12_isSo 0 0 0 n0 (Ki Γ ρ r σr) 0 0 33 [some (.ref this), some (.int a1), none] [.int s0] (hp Γ ρ σ) := by
  unfold f_X12_isSo_33 at hf
  refine go_aload_n 0 dX12_isSo_33 rfl rfl ?_
  refine go_fR fl_X12_136 dX12_isSo_34 h0 (by decide) rfl ?_
  refine go_iload_n 1 dX12_isSo_37 rfl rfl ?_
  obtain ⟨g2, hf⟩ := gd_some hf
  refine go_rI dX12_isSo_38 (hs.1 _ 12 70 h0 rfl) (ib_in g2) ?_
  refine go_icmp_lt 46 dX12_isSo_39 (by decide) (fun c3 => ?_) (fun c3 => ?_)
  · replace hf := (if_pos c3).symm.trans hf
    refine go_iconst 0 dX12_isSo_46 (by decide) ?_
    refine go_msk [false, false, false] [none, none, none] rfl ?_
    exact w_X12_isSo_47 hs h0 0 σ hf
  · replace hf := (if_neg c3).symm.trans hf
    refine go_iconst 1 dX12_isSo_42 (by decide) ?_
    refine go_goto 47 dX12_isSo_43 (by decide) ?_
    refine go_msk [false, false, false] [none, none, none] rfl ?_
    exact w_X12_isSo_47 hs h0 1 σ hf
set_option maxRecDepth 100000 in
set_option maxHeartbeats 4000000 in
theorem t_X12_isSo {N : Nat} {Γ : SG} {ρ : Nat → Nat → Nat} (hs : Sh Γ ρ) {this : Nat} {a1 : Int32} (h0 : Γ[this]? = some (0, 12)) {σ : St} {r : Int32} {σr : St} (hf : f_X12_isSo N ρ this a1 σ = some (r, σr)) : Tri mX12_isSo 0 0 0 [.ref this, .int a1] (hp Γ ρ σ) (Ki Γ ρ r σr) := by
  unfold f_X12_isSo at hf
  refine tri_of [some (.ref this), some (.int a1), none] (plainFor_of_name rfl) rfl (Nat.le_of_ble_eq_true rfl) ?_
  refine go_aload_n 0 dX12_isSo_0 rfl rfl ?_
  refine go_fR fl_X12_133 dX12_isSo_1 h0 (by decide) rfl ?_
  refine go_iload_n 1 dX12_isSo_4 rfl rfl ?_
  obtain ⟨g4, hf⟩ := gd_some hf
  refine go_rI dX12_isSo_5 (hs.1 _ 12 69 h0 rfl) (ib_in g4) ?_
  refine go_iconst 1 dX12_isSo_6 (by decide) ?_
  refine go_isub dX12_isSo_7 ?_
  obtain ⟨y5, ey5, hf⟩ := nmd_some hf
  refine go_nm ey5 ?_
  refine go_istore_n 2 [some (.ref this), some (.int a1), some (.int y5)] dX12_isSo_8 rfl (by decide) rfl ?_
  refine go_aload_n 0 dX12_isSo_9 rfl rfl ?_
  refine go_fR fl_X12_130 dX12_isSo_10 h0 (by decide) rfl ?_
  refine go_iload_n 1 dX12_isSo_13 rfl rfl ?_
  obtain ⟨g6, hf⟩ := gd_some hf
  refine go_rI dX12_isSo_14 (hs.1 _ 12 68 h0 rfl) (ib_in g6) ?_
  refine go_if_ne 27 dX12_isSo_15 (by decide) (fun c7 => ?_) (fun c7 => ?_)
  · replace hf := (if_neg c7).symm.trans hf
    refine go_aload_n 0 dX12_isSo_27 rfl rfl ?_
    refine go_fR fl_X12_154 dX12_isSo_28 h0 (by decide) rfl ?_
    refine go_iload_n 2 dX12_isSo_31 rfl rfl ?_
    obtain ⟨g8, hf⟩ := gd_some hf
    refine go_rI dX12_isSo_32 (hs.1 _ 12 78 h0 rfl) (ib_in g8) ?_
    refine go_msk [true, true, false] [some (.ref this), some (.int a1), none] rfl ?_
    exact w_X12_isSo_33 hs h0 (σ.1 (ρ this 78) y5.toNatClampNeg) σ hf
  · replace hf := (if_pos c7).symm.trans hf
    refine go_aload_n 0 dX12_isSo_18 rfl rfl ?_
    refine go_fR fl_X12_151 dX12_isSo_19 h0 (by decide) rfl ?_
    refine go_iload_n 2 dX12_isSo_22 rfl rfl ?_
    obtain ⟨g9, hf⟩ := gd_some hf
    refine go_rI dX12_isSo_23 (hs.1 _ 12 77 h0 rfl) (ib_in g9) ?_
    refine go_goto 33 dX12_isSo_24 (by decide) ?_
    refine go_msk [true, true, false] [some (.ref this), some (.int a1), none] rfl ?_
    exact w_X12_isSo_33 hs h0 (σ.1 (ρ this 77) y5.toNatClampNeg) σ hf
def f_X12_layRows_116 (N : Nat) (ρ : Nat → Nat → Nat) (this : Nat) (a1 : Int32) (rec25 : Int32 → Int32 → St → Option (Int32 × St)) (rec56 : Int32 → Int32 → Int32 → Int32 → St → Option (Int32 × St)) (x2 : Int32) (x3 : Int32) (x4 : Int32) (x5 : Int32) (s0 : Int32) (s1 : Int32) (σ : St) : Option (Int32 × St) :=
  bnd (f_X12_sendJust N ρ this s1 s0 σ) fun _ σ2 =>
  bnd (f_X12_goEvening N ρ this 0 σ2) fun _ σ5 =>
  gd (ib 5 22) <|
  gd (ib x5 3) <|
  nmd (sI σ5 (ρ this 77) x5.toNatClampNeg (σ5.1 (ρ this 57) (5 : Int32).toNatClampNeg)) fun σ9 =>
  gd (ib 0 22) <|
  gd (ib x5 3) <|
  nmd (sI σ9 (ρ this 78) x5.toNatClampNeg (σ9.1 (ρ this 57) (0 : Int32).toNatClampNeg)) fun σ12 =>
  rec56 x2 x3 x4 (x5 + 1) σ12
def f_X12_layRows_229 (N : Nat) (ρ : Nat → Nat → Nat) (this : Nat) (a1 : Int32) (rec25 : Int32 → Int32 → St → Option (Int32 × St)) (rec162 : Int32 → Int32 → Int32 → Int32 → St → Option (Int32 × St)) (x2 : Int32) (x3 : Int32) (x6 : Int32) (s0 : Int32) (σ : St) : Option (Int32 × St) :=
  rec162 x2 x3 s0 (x6 + 1) σ
def f_X12_layRows_224 (N : Nat) (ρ : Nat → Nat → Nat) (this : Nat) (a1 : Int32) (rec25 : Int32 → Int32 → St → Option (Int32 × St)) (rec162 : Int32 → Int32 → Int32 → Int32 → St → Option (Int32 × St)) (x2 : Int32) (x3 : Int32) (x6 : Int32) (σ : St) : Option (Int32 × St) :=
  f_X12_layRows_229 N ρ this a1 rec25 rec162 x2 x3 x6 1 σ
def f_X12_layRows_208 (N : Nat) (ρ : Nat → Nat → Nat) (this : Nat) (a1 : Int32) (rec25 : Int32 → Int32 → St → Option (Int32 × St)) (rec162 : Int32 → Int32 → Int32 → Int32 → St → Option (Int32 × St)) (x2 : Int32) (x3 : Int32) (x6 : Int32) (σ : St) : Option (Int32 × St) :=
  bnd (f_X12_isSo N ρ this x6 σ) fun r13 σ14 =>
  gd (ib x6 30) <|
  if (r13 : Int32) = (σ14.1 (ρ this 73) x6.toNatClampNeg) then
    f_X12_layRows_224 N ρ this a1 rec25 rec162 x2 x3 x6 σ14
  else
    f_X12_layRows_229 N ρ this a1 rec25 rec162 x2 x3 x6 0 σ14
def f_X12_layRows_285 (N : Nat) (ρ : Nat → Nat → Nat) (this : Nat) (a1 : Int32) (rec25 : Int32 → Int32 → St → Option (Int32 × St)) (x2 : Int32) (x3 : Int32) (σ : St) : Option (Int32 × St) :=
  rec25 x2 (x3 + 1) σ
def b_X12_layRows_251 (N : Nat) (ρ : Nat → Nat → Nat) (this : Nat) (a1 : Int32) (rec25 : Int32 → Int32 → St → Option (Int32 × St)) (rec251 : Int32 → Int32 → Int32 → St → Option (Int32 × St)) (x2 : Int32) (x3 : Int32) (x6 : Int32) (σ : St) : Option (Int32 × St) :=
  if 3 ≤ (x6 : Int32) then
    f_X12_layRows_285 N ρ this a1 rec25 x2 x3 σ
  else
    gd (ib x6 3) <|
    gd (ib ((7 * x6) + (σ.1 (ρ this 76) x6.toNatClampNeg)) 21) <|
    gd (ib ((7 * x6) + (σ.1 (ρ this 76) x6.toNatClampNeg)) 21) <|
    nmd (sI σ (ρ this 79) ((7 * x6) + (σ.1 (ρ this 76) x6.toNatClampNeg)).toNatClampNeg ((σ.1 (ρ this 79) ((7 * x6) + (σ.1 (ρ this 76) x6.toNatClampNeg)).toNatClampNeg) + 1)) fun σ22 =>
    rec251 x2 x3 (x6 + 1) σ22
def f_X12_layRows_251 (N : Nat) (ρ : Nat → Nat → Nat) (this : Nat) (a1 : Int32) (rec25 : Int32 → Int32 → St → Option (Int32 × St)) : Nat → Int32 → Int32 → Int32 → St → Option (Int32 × St)
  | 0, _, _, _, _ => none
  | n + 1, x2, x3, x6, σ => b_X12_layRows_251 N ρ this a1 rec25 (f_X12_layRows_251 N ρ this a1 rec25 n) x2 x3 x6 σ
def f_X12_layRows_237 (N : Nat) (ρ : Nat → Nat → Nat) (this : Nat) (a1 : Int32) (rec25 : Int32 → Int32 → St → Option (Int32 × St)) (x2 : Int32) (x3 : Int32) (x5 : Int32) (σ : St) : Option (Int32 × St) :=
  if (x5 : Int32) = 0 then
    f_X12_layRows_285 N ρ this a1 rec25 x2 x3 σ
  else
    f_X12_layRows_251 N ρ this a1 rec25 N (x2 + 1) x3 0 σ
def b_X12_layRows_162 (N : Nat) (ρ : Nat → Nat → Nat) (this : Nat) (a1 : Int32) (rec25 : Int32 → Int32 → St → Option (Int32 × St)) (rec162 : Int32 → Int32 → Int32 → Int32 → St → Option (Int32 × St)) (x2 : Int32) (x3 : Int32) (x5 : Int32) (x6 : Int32) (σ : St) : Option (Int32 × St) :=
  if (σ.1 this 74) ≤ (x6 : Int32) then
    f_X12_layRows_237 N ρ this a1 rec25 x2 x3 x5 σ
  else
    if (x5 : Int32) = 0 then
      f_X12_layRows_237 N ρ this a1 rec25 x2 x3 x5 σ
    else
      gd (ib x6 30) <|
      if a1 < (σ.1 (ρ this 71) x6.toNatClampNeg : Int32) then
        f_X12_layRows_224 N ρ this a1 rec25 rec162 x2 x3 x6 σ
      else
        gd (ib x6 30) <|
        if (σ.1 (ρ this 72) x6.toNatClampNeg : Int32) < 0 then
          f_X12_layRows_208 N ρ this a1 rec25 rec162 x2 x3 x6 σ
        else
          gd (ib x6 30) <|
          if (σ.1 (ρ this 72) x6.toNatClampNeg : Int32) ≤ a1 then
            f_X12_layRows_224 N ρ this a1 rec25 rec162 x2 x3 x6 σ
          else
            f_X12_layRows_208 N ρ this a1 rec25 rec162 x2 x3 x6 σ
def f_X12_layRows_162 (N : Nat) (ρ : Nat → Nat → Nat) (this : Nat) (a1 : Int32) (rec25 : Int32 → Int32 → St → Option (Int32 × St)) : Nat → Int32 → Int32 → Int32 → Int32 → St → Option (Int32 × St)
  | 0, _, _, _, _, _ => none
  | n + 1, x2, x3, x5, x6, σ => b_X12_layRows_162 N ρ this a1 rec25 (f_X12_layRows_162 N ρ this a1 rec25 n) x2 x3 x5 x6 σ
def b_X12_layRows_56 (N : Nat) (ρ : Nat → Nat → Nat) (this : Nat) (a1 : Int32) (rec25 : Int32 → Int32 → St → Option (Int32 × St)) (rec56 : Int32 → Int32 → Int32 → Int32 → St → Option (Int32 × St)) (x2 : Int32) (x3 : Int32) (x4 : Int32) (x5 : Int32) (σ : St) : Option (Int32 × St) :=
  if 3 ≤ (x5 : Int32) then
    f_X12_layRows_162 N ρ this a1 rec25 N x2 x3 1 0 σ
  else
    gd (nz ((σ.1 this 49) + 1)) <|
    gd (ib x5 3) <|
    nmd (sI σ (ρ this 76) x5.toNatClampNeg (irem x4 ((σ.1 this 49) + 1))) fun σ35 =>
    gd (nz ((σ35.1 this 49) + 1)) <|
    nmd (x4 / ((σ35.1 this 49) + 1)) fun y37 =>
    gd (ib x5 3) <|
    if (σ35.1 (ρ this 76) x5.toNatClampNeg : Int32) = (σ35.1 this 49) then
      f_X12_layRows_116 N ρ this a1 rec25 rec56 x2 x3 y37 x5 (-1) 1 σ35
    else
      gd (ib x5 3) <|
      f_X12_layRows_116 N ρ this a1 rec25 rec56 x2 x3 y37 x5 (σ35.1 (ρ this 76) x5.toNatClampNeg) 1 σ35
def f_X12_layRows_56 (N : Nat) (ρ : Nat → Nat → Nat) (this : Nat) (a1 : Int32) (rec25 : Int32 → Int32 → St → Option (Int32 × St)) : Nat → Int32 → Int32 → Int32 → Int32 → St → Option (Int32 × St)
  | 0, _, _, _, _, _ => none
  | n + 1, x2, x3, x4, x5, σ => b_X12_layRows_56 N ρ this a1 rec25 (f_X12_layRows_56 N ρ this a1 rec25 n) x2 x3 x4 x5 σ
def f_X12_layRows_291 (N : Nat) (ρ : Nat → Nat → Nat) (this : Nat) (a1 : Int32) (x2 : Int32) (σ : St) : Option (Int32 × St) :=
  some (x2, σ)
def b_X12_layRows_25 (N : Nat) (ρ : Nat → Nat → Nat) (this : Nat) (a1 : Int32) (rec25 : Int32 → Int32 → St → Option (Int32 × St)) (x2 : Int32) (x3 : Int32) (σ : St) : Option (Int32 × St) :=
  bnd (f_X12_power N ρ ((σ.1 this 49) + 1) 3 σ) fun r41 σ42 =>
  if r41 ≤ (x3 : Int32) then
    f_X12_layRows_291 N ρ this a1 x2 σ42
  else
    if (σ42.1 this 50 : Int32) ≤ 0 then
      f_X12_layRows_291 N ρ this a1 x2 σ42
    else
      bnd (f_X12_begin N ρ this σ42) fun _ σ47 =>
      f_X12_layRows_56 N ρ this a1 rec25 N x2 x3 x3 0 σ47
def f_X12_layRows_25 (N : Nat) (ρ : Nat → Nat → Nat) (this : Nat) (a1 : Int32) : Nat → Int32 → Int32 → St → Option (Int32 × St)
  | 0, _, _, _ => none
  | n + 1, x2, x3, σ => b_X12_layRows_25 N ρ this a1 (f_X12_layRows_25 N ρ this a1 n) x2 x3 σ
def b_X12_layRows_4 (N : Nat) (ρ : Nat → Nat → Nat) (this : Nat) (a1 : Int32) (rec4 : Int32 → Int32 → St → Option (Int32 × St)) (x2 : Int32) (x3 : Int32) (σ : St) : Option (Int32 × St) :=
  if 21 ≤ (x3 : Int32) then
    f_X12_layRows_25 N ρ this a1 N x2 0 σ
  else
    gd (ib x3 21) <|
    nmd (sI σ (ρ this 79) x3.toNatClampNeg 0) fun σ51 =>
    rec4 x2 (x3 + 1) σ51
def f_X12_layRows_4 (N : Nat) (ρ : Nat → Nat → Nat) (this : Nat) (a1 : Int32) : Nat → Int32 → Int32 → St → Option (Int32 × St)
  | 0, _, _, _ => none
  | n + 1, x2, x3, σ => b_X12_layRows_4 N ρ this a1 (f_X12_layRows_4 N ρ this a1 n) x2 x3 σ
def f_X12_layRows (N : Nat) (ρ : Nat → Nat → Nat) (this : Nat) (a1 : Int32) (σ : St) : Option (Int32 × St) :=
  f_X12_layRows_4 N ρ this a1 N 0 0 σ
set_option maxRecDepth 100000 in
set_option maxHeartbeats 4000000 in
theorem w_X12_layRows_116 {N : Nat} {Γ : SG} {ρ : Nat → Nat → Nat} (hs : Sh Γ ρ) {this : Nat} {a1 : Int32} (h0 : Γ[this]? = some (0, 12)) {n0 : Nat} {r : Int32} {σr : St} (rec25 : Int32 → Int32 → St → Option (Int32 × St)) (hrec25 : ∀ (x2 : Int32) (x3 : Int32) (σ : St), rec25 x2 x3 σ = some (r, σr) → Go mX12_layRows 7 0 0 n0 (Ki Γ ρ r σr) 0 0 25 [some (.ref this), some (.int a1), some (.int x2), some (.int x3), none, none, none] [] (hp Γ ρ σ)) (rec56 : Int32 → Int32 → Int32 → Int32 → St → Option (Int32 × St)) (hrec56 : ∀ (x2 : Int32) (x3 : Int32) (x4 : Int32) (x5 : Int32) (σ : St), rec56 x2 x3 x4 x5 σ = some (r, σr) → Go mX12_layRows 7 0 0 n0 (Ki Γ ρ r σr) 0 0 56 [some (.ref this), some (.int a1), some (.int x2), some (.int x3), some (.int x4), some (.int x5), none] [] (hp Γ ρ σ)) (x2 : Int32) (x3 : Int32) (x4 : Int32) (x5 : Int32) (s0 : Int32) (s1 : Int32) (σ : St) (hf : f_X12_layRows_116 N ρ this a1 rec25 rec56 x2 x3 x4 x5 s0 s1 σ = some (r, σr)) : Go mX12_layRows 7 0 0 n0 (Ki Γ ρ r σr) 0 0 116 [some (.ref this), some (.int a1), some (.int x2), some (.int x3), some (.int x4), some (.int x5), none] [.int s0, .int s1, .ref this] (hp Γ ρ σ) := by
  unfold f_X12_layRows_116 at hf
  obtain ⟨r1, σ2, q3, hf⟩ := bnd_some hf
  refine go_Vv (av := [.int s1, .int s0]) (rest := []) (t_X12_sendJust hs h0 q3) ok_X12_sendJust ml_X12_500 dX12_layRows_116 h0 rfl rfl (by decide) (Nat.le_refl _) (Nat.le_refl _) (Nat.le_of_ble_eq_true rfl) ?_
  refine go_aload_n 0 dX12_layRows_119 rfl rfl ?_
  refine go_iconst 0 dX12_layRows_120 (by decide) ?_
  obtain ⟨r4, σ5, q6, hf⟩ := bnd_some hf
  refine go_Vv (av := [.int 0]) (rest := []) (t_X12_goEvening hs h0 q6) ok_X12_goEvening ml_X12_469 dX12_layRows_121 h0 rfl rfl (by decide) (Nat.le_refl _) (Nat.le_refl _) (Nat.le_of_ble_eq_true rfl) ?_
  refine go_aload_n 0 dX12_layRows_124 rfl rfl ?_
  refine go_fR fl_X12_151 dX12_layRows_125 h0 (by decide) rfl ?_
  refine go_iload dX12_layRows_128 rfl ?_
  refine go_aload_n 0 dX12_layRows_130 rfl rfl ?_
  refine go_fR fl_X12_106 dX12_layRows_131 h0 (by decide) rfl ?_
  refine go_iconst 5 dX12_layRows_134 (by decide) ?_
  obtain ⟨g7, hf⟩ := gd_some hf
  refine go_rI dX12_layRows_135 (hs.1 _ 12 57 h0 rfl) (ib_in g7) ?_
  obtain ⟨g8, hf⟩ := gd_some hf
  obtain ⟨σ9, eσ9, hf⟩ := nmd_some hf
  refine go_wI dX12_layRows_136 (hs.1 _ 12 77 h0 rfl) (ib_in g8) ?_
  rw [eσ9]
  refine go_aload_n 0 dX12_layRows_137 rfl rfl ?_
  refine go_fR fl_X12_154 dX12_layRows_138 h0 (by decide) rfl ?_
  refine go_iload dX12_layRows_141 rfl ?_
  refine go_aload_n 0 dX12_layRows_143 rfl rfl ?_
  refine go_fR fl_X12_106 dX12_layRows_144 h0 (by decide) rfl ?_
  refine go_iconst 0 dX12_layRows_147 (by decide) ?_
  obtain ⟨g10, hf⟩ := gd_some hf
  refine go_rI dX12_layRows_148 (hs.1 _ 12 57 h0 rfl) (ib_in g10) ?_
  obtain ⟨g11, hf⟩ := gd_some hf
  obtain ⟨σ12, eσ12, hf⟩ := nmd_some hf
  refine go_wI dX12_layRows_149 (hs.1 _ 12 78 h0 rfl) (ib_in g11) ?_
  rw [eσ12]
  refine go_iinc (x5 + 1) [some (.ref this), some (.int a1), some (.int x2), some (.int x3), some (.int x4), some (.int (x5 + 1)), none] dX12_layRows_150 rfl rfl (by decide) rfl ?_
  refine go_goto 56 dX12_layRows_153 (by decide) ?_
  exact hrec56 x2 x3 x4 (x5 + 1) σ12 hf
set_option maxRecDepth 100000 in
set_option maxHeartbeats 4000000 in
theorem w_X12_layRows_229 {N : Nat} {Γ : SG} {ρ : Nat → Nat → Nat} (hs : Sh Γ ρ) {this : Nat} {a1 : Int32} (h0 : Γ[this]? = some (0, 12)) {n0 : Nat} {r : Int32} {σr : St} (rec25 : Int32 → Int32 → St → Option (Int32 × St)) (hrec25 : ∀ (x2 : Int32) (x3 : Int32) (σ : St), rec25 x2 x3 σ = some (r, σr) → Go mX12_layRows 7 0 0 n0 (Ki Γ ρ r σr) 0 0 25 [some (.ref this), some (.int a1), some (.int x2), some (.int x3), none, none, none] [] (hp Γ ρ σ)) (rec162 : Int32 → Int32 → Int32 → Int32 → St → Option (Int32 × St)) (hrec162 : ∀ (x2 : Int32) (x3 : Int32) (x5 : Int32) (x6 : Int32) (σ : St), rec162 x2 x3 x5 x6 σ = some (r, σr) → Go mX12_layRows 7 0 0 n0 (Ki Γ ρ r σr) 0 0 162 [some (.ref this), some (.int a1), some (.int x2), some (.int x3), none, some (.int x5), some (.int x6)] [] (hp Γ ρ σ)) (x2 : Int32) (x3 : Int32) (x6 : Int32) (s0 : Int32) (σ : St) (hf : f_X12_layRows_229 N ρ this a1 rec25 rec162 x2 x3 x6 s0 σ = some (r, σr)) : Go mX12_layRows 7 0 0 n0 (Ki Γ ρ r σr) 0 0 229 [some (.ref this), some (.int a1), some (.int x2), some (.int x3), none, none, some (.int x6)] [.int s0] (hp Γ ρ σ) := by
  unfold f_X12_layRows_229 at hf
  refine go_istore [some (.ref this), some (.int a1), some (.int x2), some (.int x3), none, some (.int s0), some (.int x6)] dX12_layRows_229 (by decide) rfl ?_
  refine go_iinc (x6 + 1) [some (.ref this), some (.int a1), some (.int x2), some (.int x3), none, some (.int s0), some (.int (x6 + 1))] dX12_layRows_231 rfl rfl (by decide) rfl ?_
  refine go_goto 162 dX12_layRows_234 (by decide) ?_
  exact hrec162 x2 x3 s0 (x6 + 1) σ hf
set_option maxRecDepth 100000 in
set_option maxHeartbeats 4000000 in
theorem w_X12_layRows_224 {N : Nat} {Γ : SG} {ρ : Nat → Nat → Nat} (hs : Sh Γ ρ) {this : Nat} {a1 : Int32} (h0 : Γ[this]? = some (0, 12)) {n0 : Nat} {r : Int32} {σr : St} (rec25 : Int32 → Int32 → St → Option (Int32 × St)) (hrec25 : ∀ (x2 : Int32) (x3 : Int32) (σ : St), rec25 x2 x3 σ = some (r, σr) → Go mX12_layRows 7 0 0 n0 (Ki Γ ρ r σr) 0 0 25 [some (.ref this), some (.int a1), some (.int x2), some (.int x3), none, none, none] [] (hp Γ ρ σ)) (rec162 : Int32 → Int32 → Int32 → Int32 → St → Option (Int32 × St)) (hrec162 : ∀ (x2 : Int32) (x3 : Int32) (x5 : Int32) (x6 : Int32) (σ : St), rec162 x2 x3 x5 x6 σ = some (r, σr) → Go mX12_layRows 7 0 0 n0 (Ki Γ ρ r σr) 0 0 162 [some (.ref this), some (.int a1), some (.int x2), some (.int x3), none, some (.int x5), some (.int x6)] [] (hp Γ ρ σ)) (x2 : Int32) (x3 : Int32) (x6 : Int32) (σ : St) (hf : f_X12_layRows_224 N ρ this a1 rec25 rec162 x2 x3 x6 σ = some (r, σr)) : Go mX12_layRows 7 0 0 n0 (Ki Γ ρ r σr) 0 0 224 [some (.ref this), some (.int a1), some (.int x2), some (.int x3), none, none, some (.int x6)] [] (hp Γ ρ σ) := by
  unfold f_X12_layRows_224 at hf
  refine go_iconst 1 dX12_layRows_224 (by decide) ?_
  refine go_goto 229 dX12_layRows_225 (by decide) ?_
  exact w_X12_layRows_229 hs h0 rec25 hrec25 rec162 hrec162 x2 x3 x6 1 σ hf
set_option maxRecDepth 100000 in
set_option maxHeartbeats 4000000 in
theorem w_X12_layRows_208 {N : Nat} {Γ : SG} {ρ : Nat → Nat → Nat} (hs : Sh Γ ρ) {this : Nat} {a1 : Int32} (h0 : Γ[this]? = some (0, 12)) {n0 : Nat} {r : Int32} {σr : St} (rec25 : Int32 → Int32 → St → Option (Int32 × St)) (hrec25 : ∀ (x2 : Int32) (x3 : Int32) (σ : St), rec25 x2 x3 σ = some (r, σr) → Go mX12_layRows 7 0 0 n0 (Ki Γ ρ r σr) 0 0 25 [some (.ref this), some (.int a1), some (.int x2), some (.int x3), none, none, none] [] (hp Γ ρ σ)) (rec162 : Int32 → Int32 → Int32 → Int32 → St → Option (Int32 × St)) (hrec162 : ∀ (x2 : Int32) (x3 : Int32) (x5 : Int32) (x6 : Int32) (σ : St), rec162 x2 x3 x5 x6 σ = some (r, σr) → Go mX12_layRows 7 0 0 n0 (Ki Γ ρ r σr) 0 0 162 [some (.ref this), some (.int a1), some (.int x2), some (.int x3), none, some (.int x5), some (.int x6)] [] (hp Γ ρ σ)) (x2 : Int32) (x3 : Int32) (x6 : Int32) (σ : St) (hf : f_X12_layRows_208 N ρ this a1 rec25 rec162 x2 x3 x6 σ = some (r, σr)) : Go mX12_layRows 7 0 0 n0 (Ki Γ ρ r σr) 0 0 208 [some (.ref this), some (.int a1), some (.int x2), some (.int x3), none, none, some (.int x6)] [] (hp Γ ρ σ) := by
  unfold f_X12_layRows_208 at hf
  refine go_aload_n 0 dX12_layRows_208 rfl rfl ?_
  refine go_iload dX12_layRows_209 rfl ?_
  obtain ⟨r13, σ14, q15, hf⟩ := bnd_some hf
  refine go_Vi (av := [.int x6]) (rest := []) (t_X12_isSo hs h0 q15) ok_X12_isSo ml_X12_535 dX12_layRows_211 h0 rfl rfl (by decide) (Nat.le_refl _) (Nat.le_refl _) (Nat.le_of_ble_eq_true rfl) ?_
  refine go_aload_n 0 dX12_layRows_214 rfl rfl ?_
  refine go_fR fl_X12_145 dX12_layRows_215 h0 (by decide) rfl ?_
  refine go_iload dX12_layRows_218 rfl ?_
  obtain ⟨g16, hf⟩ := gd_some hf
  refine go_rZ dX12_layRows_220 (hs.1 _ 12 73 h0 rfl) (ib_in g16) ?_
  refine go_icmp_ne 228 dX12_layRows_221 (by decide) (fun c17 => ?_) (fun c17 => ?_)
  · replace hf := (if_neg c17).symm.trans hf
    refine go_iconst 0 dX12_layRows_228 (by decide) ?_
    exact w_X12_layRows_229 hs h0 rec25 hrec25 rec162 hrec162 x2 x3 x6 0 σ14 hf
  · replace hf := (if_pos c17).symm.trans hf
    exact w_X12_layRows_224 hs h0 rec25 hrec25 rec162 hrec162 x2 x3 x6 σ14 hf
set_option maxRecDepth 100000 in
set_option maxHeartbeats 4000000 in
theorem w_X12_layRows_285 {N : Nat} {Γ : SG} {ρ : Nat → Nat → Nat} (hs : Sh Γ ρ) {this : Nat} {a1 : Int32} (h0 : Γ[this]? = some (0, 12)) {n0 : Nat} {r : Int32} {σr : St} (rec25 : Int32 → Int32 → St → Option (Int32 × St)) (hrec25 : ∀ (x2 : Int32) (x3 : Int32) (σ : St), rec25 x2 x3 σ = some (r, σr) → Go mX12_layRows 7 0 0 n0 (Ki Γ ρ r σr) 0 0 25 [some (.ref this), some (.int a1), some (.int x2), some (.int x3), none, none, none] [] (hp Γ ρ σ)) (x2 : Int32) (x3 : Int32) (σ : St) (hf : f_X12_layRows_285 N ρ this a1 rec25 x2 x3 σ = some (r, σr)) : Go mX12_layRows 7 0 0 n0 (Ki Γ ρ r σr) 0 0 285 [some (.ref this), some (.int a1), some (.int x2), some (.int x3), none, none, none] [] (hp Γ ρ σ) := by
  unfold f_X12_layRows_285 at hf
  refine go_iinc (x3 + 1) [some (.ref this), some (.int a1), some (.int x2), some (.int (x3 + 1)), none, none, none] dX12_layRows_285 rfl rfl (by decide) rfl ?_
  refine go_goto 25 dX12_layRows_288 (by decide) ?_
  exact hrec25 x2 (x3 + 1) σ hf
set_option maxRecDepth 100000 in
set_option maxHeartbeats 4000000 in
theorem v_X12_layRows_251 {N : Nat} {Γ : SG} {ρ : Nat → Nat → Nat} (hs : Sh Γ ρ) {this : Nat} {a1 : Int32} (h0 : Γ[this]? = some (0, 12)) {n0 : Nat} {r : Int32} {σr : St} (rec25 : Int32 → Int32 → St → Option (Int32 × St)) (hrec25 : ∀ (x2 : Int32) (x3 : Int32) (σ : St), rec25 x2 x3 σ = some (r, σr) → Go mX12_layRows 7 0 0 n0 (Ki Γ ρ r σr) 0 0 25 [some (.ref this), some (.int a1), some (.int x2), some (.int x3), none, none, none] [] (hp Γ ρ σ)) (rec251 : Int32 → Int32 → Int32 → St → Option (Int32 × St)) (hrec251 : ∀ (x2 : Int32) (x3 : Int32) (x6 : Int32) (σ : St), rec251 x2 x3 x6 σ = some (r, σr) → Go mX12_layRows 7 0 0 n0 (Ki Γ ρ r σr) 0 0 251 [some (.ref this), some (.int a1), some (.int x2), some (.int x3), none, none, some (.int x6)] [] (hp Γ ρ σ)) (x2 : Int32) (x3 : Int32) (x6 : Int32) (σ : St) (hf : b_X12_layRows_251 N ρ this a1 rec25 rec251 x2 x3 x6 σ = some (r, σr)) : Go mX12_layRows 7 0 0 n0 (Ki Γ ρ r σr) 0 0 251 [some (.ref this), some (.int a1), some (.int x2), some (.int x3), none, none, some (.int x6)] [] (hp Γ ρ σ) := by
  unfold b_X12_layRows_251 at hf
  refine go_iload dX12_layRows_251 rfl ?_
  refine go_iconst 3 dX12_layRows_253 (by decide) ?_
  refine go_icmp_ge 285 dX12_layRows_254 (by decide) (fun c18 => ?_) (fun c18 => ?_)
  · replace hf := (if_pos c18).symm.trans hf
    refine go_msk [true, true, true, true, false, false, false] [some (.ref this), some (.int a1), some (.int x2), some (.int x3), none, none, none] rfl ?_
    exact w_X12_layRows_285 hs h0 rec25 hrec25 x2 x3 σ hf
  · replace hf := (if_neg c18).symm.trans hf
    refine go_aload_n 0 dX12_layRows_257 rfl rfl ?_
    refine go_fR fl_X12_157 dX12_layRows_258 h0 (by decide) rfl ?_
    refine go_bipush 7 dX12_layRows_261 (by decide) ?_
    refine go_iload dX12_layRows_263 rfl ?_
    refine go_imul dX12_layRows_265 ?_
    refine go_aload_n 0 dX12_layRows_266 rfl rfl ?_
    refine go_fR fl_X12_148 dX12_layRows_267 h0 (by decide) rfl ?_
    refine go_iload dX12_layRows_270 rfl ?_
    obtain ⟨g19, hf⟩ := gd_some hf
    refine go_rI dX12_layRows_272 (hs.1 _ 12 76 h0 rfl) (ib_in g19) ?_
    refine go_iadd dX12_layRows_273 ?_
    refine go_dup2 dX12_layRows_274 rfl rfl ?_
    obtain ⟨g20, hf⟩ := gd_some hf
    refine go_rI dX12_layRows_275 (hs.1 _ 12 79 h0 rfl) (ib_in g20) ?_
    refine go_iconst 1 dX12_layRows_276 (by decide) ?_
    refine go_iadd dX12_layRows_277 ?_
    obtain ⟨g21, hf⟩ := gd_some hf
    obtain ⟨σ22, eσ22, hf⟩ := nmd_some hf
    refine go_wI dX12_layRows_278 (hs.1 _ 12 79 h0 rfl) (ib_in g21) ?_
    rw [eσ22]
    refine go_iinc (x6 + 1) [some (.ref this), some (.int a1), some (.int x2), some (.int x3), none, none, some (.int (x6 + 1))] dX12_layRows_279 rfl rfl (by decide) rfl ?_
    refine go_goto 251 dX12_layRows_282 (by decide) ?_
    exact hrec251 x2 x3 (x6 + 1) σ22 hf
theorem w_X12_layRows_251 {N : Nat} {Γ : SG} {ρ : Nat → Nat → Nat} (hs : Sh Γ ρ) {this : Nat} {a1 : Int32} (h0 : Γ[this]? = some (0, 12)) {n0 : Nat} {r : Int32} {σr : St} (rec25 : Int32 → Int32 → St → Option (Int32 × St)) (hrec25 : ∀ (x2 : Int32) (x3 : Int32) (σ : St), rec25 x2 x3 σ = some (r, σr) → Go mX12_layRows 7 0 0 n0 (Ki Γ ρ r σr) 0 0 25 [some (.ref this), some (.int a1), some (.int x2), some (.int x3), none, none, none] [] (hp Γ ρ σ)) : ∀ (n : Nat) (x2 : Int32) (x3 : Int32) (x6 : Int32) (σ : St), f_X12_layRows_251 N ρ this a1 rec25 n x2 x3 x6 σ = some (r, σr) → Go mX12_layRows 7 0 0 n0 (Ki Γ ρ r σr) 0 0 251 [some (.ref this), some (.int a1), some (.int x2), some (.int x3), none, none, some (.int x6)] [] (hp Γ ρ σ) := by
  intro n
  induction n with
  | zero => intro x2 x3 x6 σ hf; cases hf
  | succ n ih => intro x2 x3 x6 σ hf; exact v_X12_layRows_251 hs h0 rec25 hrec25 _ ih x2 x3 x6 σ hf
set_option maxRecDepth 100000 in
set_option maxHeartbeats 4000000 in
theorem w_X12_layRows_237 {N : Nat} {Γ : SG} {ρ : Nat → Nat → Nat} (hs : Sh Γ ρ) {this : Nat} {a1 : Int32} (h0 : Γ[this]? = some (0, 12)) {n0 : Nat} {r : Int32} {σr : St} (rec25 : Int32 → Int32 → St → Option (Int32 × St)) (hrec25 : ∀ (x2 : Int32) (x3 : Int32) (σ : St), rec25 x2 x3 σ = some (r, σr) → Go mX12_layRows 7 0 0 n0 (Ki Γ ρ r σr) 0 0 25 [some (.ref this), some (.int a1), some (.int x2), some (.int x3), none, none, none] [] (hp Γ ρ σ)) (x2 : Int32) (x3 : Int32) (x5 : Int32) (σ : St) (hf : f_X12_layRows_237 N ρ this a1 rec25 x2 x3 x5 σ = some (r, σr)) : Go mX12_layRows 7 0 0 n0 (Ki Γ ρ r σr) 0 0 237 [some (.ref this), some (.int a1), some (.int x2), some (.int x3), none, some (.int x5), none] [] (hp Γ ρ σ) := by
  unfold f_X12_layRows_237 at hf
  refine go_iload dX12_layRows_237 rfl ?_
  refine go_if_ne 245 dX12_layRows_239 (by decide) (fun c23 => ?_) (fun c23 => ?_)
  · replace hf := (if_neg c23).symm.trans hf
    refine go_iinc (x2 + 1) [some (.ref this), some (.int a1), some (.int (x2 + 1)), some (.int x3), none, some (.int x5), none] dX12_layRows_245 rfl rfl (by decide) rfl ?_
    refine go_iconst 0 dX12_layRows_248 (by decide) ?_
    refine go_istore [some (.ref this), some (.int a1), some (.int (x2 + 1)), some (.int x3), none, some (.int x5), some (.int 0)] dX12_layRows_249 (by decide) rfl ?_
    refine go_msk [true, true, true, true, false, false, true] [some (.ref this), some (.int a1), some (.int (x2 + 1)), some (.int x3), none, none, some (.int 0)] rfl ?_
    exact w_X12_layRows_251 hs h0 rec25 hrec25 N (x2 + 1) x3 0 σ hf
  · replace hf := (if_pos c23).symm.trans hf
    refine go_goto 285 dX12_layRows_242 (by decide) ?_
    refine go_msk [true, true, true, true, false, false, false] [some (.ref this), some (.int a1), some (.int x2), some (.int x3), none, none, none] rfl ?_
    exact w_X12_layRows_285 hs h0 rec25 hrec25 x2 x3 σ hf
set_option maxRecDepth 100000 in
set_option maxHeartbeats 4000000 in
theorem v_X12_layRows_162 {N : Nat} {Γ : SG} {ρ : Nat → Nat → Nat} (hs : Sh Γ ρ) {this : Nat} {a1 : Int32} (h0 : Γ[this]? = some (0, 12)) {n0 : Nat} {r : Int32} {σr : St} (rec25 : Int32 → Int32 → St → Option (Int32 × St)) (hrec25 : ∀ (x2 : Int32) (x3 : Int32) (σ : St), rec25 x2 x3 σ = some (r, σr) → Go mX12_layRows 7 0 0 n0 (Ki Γ ρ r σr) 0 0 25 [some (.ref this), some (.int a1), some (.int x2), some (.int x3), none, none, none] [] (hp Γ ρ σ)) (rec162 : Int32 → Int32 → Int32 → Int32 → St → Option (Int32 × St)) (hrec162 : ∀ (x2 : Int32) (x3 : Int32) (x5 : Int32) (x6 : Int32) (σ : St), rec162 x2 x3 x5 x6 σ = some (r, σr) → Go mX12_layRows 7 0 0 n0 (Ki Γ ρ r σr) 0 0 162 [some (.ref this), some (.int a1), some (.int x2), some (.int x3), none, some (.int x5), some (.int x6)] [] (hp Γ ρ σ)) (x2 : Int32) (x3 : Int32) (x5 : Int32) (x6 : Int32) (σ : St) (hf : b_X12_layRows_162 N ρ this a1 rec25 rec162 x2 x3 x5 x6 σ = some (r, σr)) : Go mX12_layRows 7 0 0 n0 (Ki Γ ρ r σr) 0 0 162 [some (.ref this), some (.int a1), some (.int x2), some (.int x3), none, some (.int x5), some (.int x6)] [] (hp Γ ρ σ) := by
  unfold b_X12_layRows_162 at hf
  refine go_iload dX12_layRows_162 rfl ?_
  refine go_aload_n 0 dX12_layRows_164 rfl rfl ?_
  refine go_fI fl_X12_416 dX12_layRows_165 h0 (by decide) rfl ?_
  refine go_icmp_ge 237 dX12_layRows_168 (by decide) (fun c24 => ?_) (fun c24 => ?_)
  · replace hf := (if_pos c24).symm.trans hf
    refine go_msk [true, true, true, true, false, true, false] [some (.ref this), some (.int a1), some (.int x2), some (.int x3), none, some (.int x5), none] rfl ?_
    exact w_X12_layRows_237 hs h0 rec25 hrec25 x2 x3 x5 σ hf
  · replace hf := (if_neg c24).symm.trans hf
    refine go_iload dX12_layRows_171 rfl ?_
    refine go_if_eq 237 dX12_layRows_173 (by decide) (fun c25 => ?_) (fun c25 => ?_)
    · replace hf := (if_pos c25).symm.trans hf
      refine go_msk [true, true, true, true, false, true, false] [some (.ref this), some (.int a1), some (.int x2), some (.int x3), none, some (.int x5), none] rfl ?_
      exact w_X12_layRows_237 hs h0 rec25 hrec25 x2 x3 x5 σ hf
    · replace hf := (if_neg c25).symm.trans hf
      refine go_aload_n 0 dX12_layRows_176 rfl rfl ?_
      refine go_fR fl_X12_139 dX12_layRows_177 h0 (by decide) rfl ?_
      refine go_iload dX12_layRows_180 rfl ?_
      obtain ⟨g26, hf⟩ := gd_some hf
      refine go_rI dX12_layRows_182 (hs.1 _ 12 71 h0 rfl) (ib_in g26) ?_
      refine go_iload_n 1 dX12_layRows_183 rfl rfl ?_
      refine go_icmp_gt 224 dX12_layRows_184 (by decide) (fun c27 => ?_) (fun c27 => ?_)
      · replace hf := (if_pos c27).symm.trans hf
        refine go_msk [true, true, true, true, false, false, true] [some (.ref this), some (.int a1), some (.int x2), some (.int x3), none, none, some (.int x6)] rfl ?_
        exact w_X12_layRows_224 hs h0 rec25 hrec25 rec162 hrec162 x2 x3 x6 σ hf
      · replace hf := (if_neg c27).symm.trans hf
        refine go_aload_n 0 dX12_layRows_187 rfl rfl ?_
        refine go_fR fl_X12_142 dX12_layRows_188 h0 (by decide) rfl ?_
        refine go_iload dX12_layRows_191 rfl ?_
        obtain ⟨g28, hf⟩ := gd_some hf
        refine go_rI dX12_layRows_193 (hs.1 _ 12 72 h0 rfl) (ib_in g28) ?_
        refine go_if_lt 208 dX12_layRows_194 (by decide) (fun c29 => ?_) (fun c29 => ?_)
        · replace hf := (if_pos c29).symm.trans hf
          refine go_msk [true, true, true, true, false, false, true] [some (.ref this), some (.int a1), some (.int x2), some (.int x3), none, none, some (.int x6)] rfl ?_
          exact w_X12_layRows_208 hs h0 rec25 hrec25 rec162 hrec162 x2 x3 x6 σ hf
        · replace hf := (if_neg c29).symm.trans hf
          refine go_aload_n 0 dX12_layRows_197 rfl rfl ?_
          refine go_fR fl_X12_142 dX12_layRows_198 h0 (by decide) rfl ?_
          refine go_iload dX12_layRows_201 rfl ?_
          obtain ⟨g30, hf⟩ := gd_some hf
          refine go_rI dX12_layRows_203 (hs.1 _ 12 72 h0 rfl) (ib_in g30) ?_
          refine go_iload_n 1 dX12_layRows_204 rfl rfl ?_
          refine go_icmp_le 224 dX12_layRows_205 (by decide) (fun c31 => ?_) (fun c31 => ?_)
          · replace hf := (if_pos c31).symm.trans hf
            refine go_msk [true, true, true, true, false, false, true] [some (.ref this), some (.int a1), some (.int x2), some (.int x3), none, none, some (.int x6)] rfl ?_
            exact w_X12_layRows_224 hs h0 rec25 hrec25 rec162 hrec162 x2 x3 x6 σ hf
          · replace hf := (if_neg c31).symm.trans hf
            refine go_msk [true, true, true, true, false, false, true] [some (.ref this), some (.int a1), some (.int x2), some (.int x3), none, none, some (.int x6)] rfl ?_
            exact w_X12_layRows_208 hs h0 rec25 hrec25 rec162 hrec162 x2 x3 x6 σ hf
theorem w_X12_layRows_162 {N : Nat} {Γ : SG} {ρ : Nat → Nat → Nat} (hs : Sh Γ ρ) {this : Nat} {a1 : Int32} (h0 : Γ[this]? = some (0, 12)) {n0 : Nat} {r : Int32} {σr : St} (rec25 : Int32 → Int32 → St → Option (Int32 × St)) (hrec25 : ∀ (x2 : Int32) (x3 : Int32) (σ : St), rec25 x2 x3 σ = some (r, σr) → Go mX12_layRows 7 0 0 n0 (Ki Γ ρ r σr) 0 0 25 [some (.ref this), some (.int a1), some (.int x2), some (.int x3), none, none, none] [] (hp Γ ρ σ)) : ∀ (n : Nat) (x2 : Int32) (x3 : Int32) (x5 : Int32) (x6 : Int32) (σ : St), f_X12_layRows_162 N ρ this a1 rec25 n x2 x3 x5 x6 σ = some (r, σr) → Go mX12_layRows 7 0 0 n0 (Ki Γ ρ r σr) 0 0 162 [some (.ref this), some (.int a1), some (.int x2), some (.int x3), none, some (.int x5), some (.int x6)] [] (hp Γ ρ σ) := by
  intro n
  induction n with
  | zero => intro x2 x3 x5 x6 σ hf; cases hf
  | succ n ih => intro x2 x3 x5 x6 σ hf; exact v_X12_layRows_162 hs h0 rec25 hrec25 _ ih x2 x3 x5 x6 σ hf
set_option maxRecDepth 100000 in
set_option maxHeartbeats 4000000 in
theorem v_X12_layRows_56 {N : Nat} {Γ : SG} {ρ : Nat → Nat → Nat} (hs : Sh Γ ρ) {this : Nat} {a1 : Int32} (h0 : Γ[this]? = some (0, 12)) {n0 : Nat} {r : Int32} {σr : St} (rec25 : Int32 → Int32 → St → Option (Int32 × St)) (hrec25 : ∀ (x2 : Int32) (x3 : Int32) (σ : St), rec25 x2 x3 σ = some (r, σr) → Go mX12_layRows 7 0 0 n0 (Ki Γ ρ r σr) 0 0 25 [some (.ref this), some (.int a1), some (.int x2), some (.int x3), none, none, none] [] (hp Γ ρ σ)) (rec56 : Int32 → Int32 → Int32 → Int32 → St → Option (Int32 × St)) (hrec56 : ∀ (x2 : Int32) (x3 : Int32) (x4 : Int32) (x5 : Int32) (σ : St), rec56 x2 x3 x4 x5 σ = some (r, σr) → Go mX12_layRows 7 0 0 n0 (Ki Γ ρ r σr) 0 0 56 [some (.ref this), some (.int a1), some (.int x2), some (.int x3), some (.int x4), some (.int x5), none] [] (hp Γ ρ σ)) (x2 : Int32) (x3 : Int32) (x4 : Int32) (x5 : Int32) (σ : St) (hf : b_X12_layRows_56 N ρ this a1 rec25 rec56 x2 x3 x4 x5 σ = some (r, σr)) : Go mX12_layRows 7 0 0 n0 (Ki Γ ρ r σr) 0 0 56 [some (.ref this), some (.int a1), some (.int x2), some (.int x3), some (.int x4), some (.int x5), none] [] (hp Γ ρ σ) := by
  unfold b_X12_layRows_56 at hf
  refine go_iload dX12_layRows_56 rfl ?_
  refine go_iconst 3 dX12_layRows_58 (by decide) ?_
  refine go_icmp_ge 156 dX12_layRows_59 (by decide) (fun c32 => ?_) (fun c32 => ?_)
  · replace hf := (if_pos c32).symm.trans hf
    refine go_iconst 1 dX12_layRows_156 (by decide) ?_
    refine go_istore [some (.ref this), some (.int a1), some (.int x2), some (.int x3), some (.int x4), some (.int 1), none] dX12_layRows_157 (by decide) rfl ?_
    refine go_iconst 0 dX12_layRows_159 (by decide) ?_
    refine go_istore [some (.ref this), some (.int a1), some (.int x2), some (.int x3), some (.int x4), some (.int 1), some (.int 0)] dX12_layRows_160 (by decide) rfl ?_
    refine go_msk [true, true, true, true, false, true, true] [some (.ref this), some (.int a1), some (.int x2), some (.int x3), none, some (.int 1), some (.int 0)] rfl ?_
    exact w_X12_layRows_162 hs h0 rec25 hrec25 N x2 x3 1 0 σ hf
  · replace hf := (if_neg c32).symm.trans hf
    refine go_aload_n 0 dX12_layRows_62 rfl rfl ?_
    refine go_fR fl_X12_148 dX12_layRows_63 h0 (by decide) rfl ?_
    refine go_iload dX12_layRows_66 rfl ?_
    refine go_iload dX12_layRows_68 rfl ?_
    refine go_aload_n 0 dX12_layRows_70 rfl rfl ?_
    refine go_fI fl_X12_392 dX12_layRows_71 h0 (by decide) rfl ?_
    refine go_iconst 1 dX12_layRows_74 (by decide) ?_
    refine go_iadd dX12_layRows_75 ?_
    obtain ⟨g33, hf⟩ := gd_some hf
    refine go_irem dX12_layRows_76 (nz_of g33) ?_
    obtain ⟨g34, hf⟩ := gd_some hf
    obtain ⟨σ35, eσ35, hf⟩ := nmd_some hf
    refine go_wI dX12_layRows_77 (hs.1 _ 12 76 h0 rfl) (ib_in g34) ?_
    rw [eσ35]
    refine go_iload dX12_layRows_78 rfl ?_
    refine go_aload_n 0 dX12_layRows_80 rfl rfl ?_
    refine go_fI fl_X12_392 dX12_layRows_81 h0 (by decide) rfl ?_
    refine go_iconst 1 dX12_layRows_84 (by decide) ?_
    refine go_iadd dX12_layRows_85 ?_
    obtain ⟨g36, hf⟩ := gd_some hf
    refine go_idiv dX12_layRows_86 (nz_of g36) ?_
    obtain ⟨y37, ey37, hf⟩ := nmd_some hf
    refine go_nm ey37 ?_
    refine go_istore [some (.ref this), some (.int a1), some (.int x2), some (.int x3), some (.int y37), some (.int x5), none] dX12_layRows_87 (by decide) rfl ?_
    refine go_aload_n 0 dX12_layRows_89 rfl rfl ?_
    refine go_iconst 1 dX12_layRows_90 (by decide) ?_
    refine go_aload_n 0 dX12_layRows_91 rfl rfl ?_
    refine go_fR fl_X12_148 dX12_layRows_92 h0 (by decide) rfl ?_
    refine go_iload dX12_layRows_95 rfl ?_
    obtain ⟨g38, hf⟩ := gd_some hf
    refine go_rI dX12_layRows_97 (hs.1 _ 12 76 h0 rfl) (ib_in g38) ?_
    refine go_aload_n 0 dX12_layRows_98 rfl rfl ?_
    refine go_fI fl_X12_392 dX12_layRows_99 h0 (by decide) rfl ?_
    refine go_icmp_ne 109 dX12_layRows_102 (by decide) (fun c39 => ?_) (fun c39 => ?_)
    · replace hf := (if_neg c39).symm.trans hf
      refine go_aload_n 0 dX12_layRows_109 rfl rfl ?_
      refine go_fR fl_X12_148 dX12_layRows_110 h0 (by decide) rfl ?_
      refine go_iload dX12_layRows_113 rfl ?_
      obtain ⟨g40, hf⟩ := gd_some hf
      refine go_rI dX12_layRows_115 (hs.1 _ 12 76 h0 rfl) (ib_in g40) ?_
      exact w_X12_layRows_116 hs h0 rec25 hrec25 rec56 hrec56 x2 x3 y37 x5 (σ35.1 (ρ this 76) x5.toNatClampNeg) 1 σ35 hf
    · replace hf := (if_pos c39).symm.trans hf
      refine go_iconst (-1) dX12_layRows_105 (by decide) ?_
      refine go_goto 116 dX12_layRows_106 (by decide) ?_
      exact w_X12_layRows_116 hs h0 rec25 hrec25 rec56 hrec56 x2 x3 y37 x5 (-1) 1 σ35 hf
theorem w_X12_layRows_56 {N : Nat} {Γ : SG} {ρ : Nat → Nat → Nat} (hs : Sh Γ ρ) {this : Nat} {a1 : Int32} (h0 : Γ[this]? = some (0, 12)) {n0 : Nat} {r : Int32} {σr : St} (rec25 : Int32 → Int32 → St → Option (Int32 × St)) (hrec25 : ∀ (x2 : Int32) (x3 : Int32) (σ : St), rec25 x2 x3 σ = some (r, σr) → Go mX12_layRows 7 0 0 n0 (Ki Γ ρ r σr) 0 0 25 [some (.ref this), some (.int a1), some (.int x2), some (.int x3), none, none, none] [] (hp Γ ρ σ)) : ∀ (n : Nat) (x2 : Int32) (x3 : Int32) (x4 : Int32) (x5 : Int32) (σ : St), f_X12_layRows_56 N ρ this a1 rec25 n x2 x3 x4 x5 σ = some (r, σr) → Go mX12_layRows 7 0 0 n0 (Ki Γ ρ r σr) 0 0 56 [some (.ref this), some (.int a1), some (.int x2), some (.int x3), some (.int x4), some (.int x5), none] [] (hp Γ ρ σ) := by
  intro n
  induction n with
  | zero => intro x2 x3 x4 x5 σ hf; cases hf
  | succ n ih => intro x2 x3 x4 x5 σ hf; exact v_X12_layRows_56 hs h0 rec25 hrec25 _ ih x2 x3 x4 x5 σ hf
set_option maxRecDepth 100000 in
set_option maxHeartbeats 4000000 in
theorem w_X12_layRows_291 {N : Nat} {Γ : SG} {ρ : Nat → Nat → Nat} (hs : Sh Γ ρ) {this : Nat} {a1 : Int32} (h0 : Γ[this]? = some (0, 12)) {n0 : Nat} {r : Int32} {σr : St} (x2 : Int32) (σ : St) (hf : f_X12_layRows_291 N ρ this a1 x2 σ = some (r, σr)) : Go mX12_layRows 7 0 0 n0 (Ki Γ ρ r σr) 0 0 291 [none, none, some (.int x2), none, none, none, none] [] (hp Γ ρ σ) := by
  unfold f_X12_layRows_291 at hf
  refine go_iload_n 2 dX12_layRows_291 rfl rfl ?_
  cases hf
  exact go_iret rfl dX12_layRows_292 (Nat.le_refl _) ⟨rfl, rfl⟩
set_option maxRecDepth 100000 in
set_option maxHeartbeats 4000000 in
theorem v_X12_layRows_25 {N : Nat} {Γ : SG} {ρ : Nat → Nat → Nat} (hs : Sh Γ ρ) {this : Nat} {a1 : Int32} (h0 : Γ[this]? = some (0, 12)) {n0 : Nat} {r : Int32} {σr : St} (rec25 : Int32 → Int32 → St → Option (Int32 × St)) (hrec25 : ∀ (x2 : Int32) (x3 : Int32) (σ : St), rec25 x2 x3 σ = some (r, σr) → Go mX12_layRows 7 0 0 n0 (Ki Γ ρ r σr) 0 0 25 [some (.ref this), some (.int a1), some (.int x2), some (.int x3), none, none, none] [] (hp Γ ρ σ)) (x2 : Int32) (x3 : Int32) (σ : St) (hf : b_X12_layRows_25 N ρ this a1 rec25 x2 x3 σ = some (r, σr)) : Go mX12_layRows 7 0 0 n0 (Ki Γ ρ r σr) 0 0 25 [some (.ref this), some (.int a1), some (.int x2), some (.int x3), none, none, none] [] (hp Γ ρ σ) := by
  unfold b_X12_layRows_25 at hf
  refine go_iload_n 3 dX12_layRows_25 rfl rfl ?_
  refine go_aload_n 0 dX12_layRows_26 rfl rfl ?_
  refine go_fI fl_X12_392 dX12_layRows_27 h0 (by decide) rfl ?_
  refine go_iconst 1 dX12_layRows_30 (by decide) ?_
  refine go_iadd dX12_layRows_31 ?_
  refine go_iconst 3 dX12_layRows_32 (by decide) ?_
  obtain ⟨r41, σ42, q43, hf⟩ := bnd_some hf
  refine go_Si (av := [.int ((σ.1 this 49) + 1), .int 3]) (rest := [.int x3]) (t_X12_power hs  q43) ok_X12_power ml_X12_487 dX12_layRows_33 rfl rfl (by decide) (Nat.le_refl _) (Nat.le_refl _) (Nat.le_of_ble_eq_true rfl) ?_
  refine go_icmp_ge 291 dX12_layRows_36 (by decide) (fun c44 => ?_) (fun c44 => ?_)
  · replace hf := (if_pos c44).symm.trans hf
    refine go_msk [false, false, true, false, false, false, false] [none, none, some (.int x2), none, none, none, none] rfl ?_
    exact w_X12_layRows_291 hs h0 x2 σ42 hf
  · replace hf := (if_neg c44).symm.trans hf
    refine go_aload_n 0 dX12_layRows_39 rfl rfl ?_
    refine go_fI fl_X12_395 dX12_layRows_40 h0 (by decide) rfl ?_
    refine go_if_le 291 dX12_layRows_43 (by decide) (fun c45 => ?_) (fun c45 => ?_)
    · replace hf := (if_pos c45).symm.trans hf
      refine go_msk [false, false, true, false, false, false, false] [none, none, some (.int x2), none, none, none, none] rfl ?_
      exact w_X12_layRows_291 hs h0 x2 σ42 hf
    · replace hf := (if_neg c45).symm.trans hf
      refine go_aload_n 0 dX12_layRows_46 rfl rfl ?_
      obtain ⟨r46, σ47, q48, hf⟩ := bnd_some hf
      refine go_Vv (av := []) (rest := []) (t_X12_begin hs h0 q48) ok_X12_begin ml_X12_404 dX12_layRows_47 h0 rfl rfl (by decide) (Nat.le_refl _) (Nat.le_refl _) (Nat.le_of_ble_eq_true rfl) ?_
      refine go_iload_n 3 dX12_layRows_50 rfl rfl ?_
      refine go_istore [some (.ref this), some (.int a1), some (.int x2), some (.int x3), some (.int x3), none, none] dX12_layRows_51 (by decide) rfl ?_
      refine go_iconst 0 dX12_layRows_53 (by decide) ?_
      refine go_istore [some (.ref this), some (.int a1), some (.int x2), some (.int x3), some (.int x3), some (.int 0), none] dX12_layRows_54 (by decide) rfl ?_
      exact w_X12_layRows_56 hs h0 rec25 hrec25 N x2 x3 x3 0 σ47 hf
theorem w_X12_layRows_25 {N : Nat} {Γ : SG} {ρ : Nat → Nat → Nat} (hs : Sh Γ ρ) {this : Nat} {a1 : Int32} (h0 : Γ[this]? = some (0, 12)) {n0 : Nat} {r : Int32} {σr : St} : ∀ (n : Nat) (x2 : Int32) (x3 : Int32) (σ : St), f_X12_layRows_25 N ρ this a1 n x2 x3 σ = some (r, σr) → Go mX12_layRows 7 0 0 n0 (Ki Γ ρ r σr) 0 0 25 [some (.ref this), some (.int a1), some (.int x2), some (.int x3), none, none, none] [] (hp Γ ρ σ) := by
  intro n
  induction n with
  | zero => intro x2 x3 σ hf; cases hf
  | succ n ih => intro x2 x3 σ hf; exact v_X12_layRows_25 hs h0 _ ih x2 x3 σ hf
set_option maxRecDepth 100000 in
set_option maxHeartbeats 4000000 in
theorem v_X12_layRows_4 {N : Nat} {Γ : SG} {ρ : Nat → Nat → Nat} (hs : Sh Γ ρ) {this : Nat} {a1 : Int32} (h0 : Γ[this]? = some (0, 12)) {n0 : Nat} {r : Int32} {σr : St} (rec4 : Int32 → Int32 → St → Option (Int32 × St)) (hrec4 : ∀ (x2 : Int32) (x3 : Int32) (σ : St), rec4 x2 x3 σ = some (r, σr) → Go mX12_layRows 7 0 0 n0 (Ki Γ ρ r σr) 0 0 4 [some (.ref this), some (.int a1), some (.int x2), some (.int x3), none, none, none] [] (hp Γ ρ σ)) (x2 : Int32) (x3 : Int32) (σ : St) (hf : b_X12_layRows_4 N ρ this a1 rec4 x2 x3 σ = some (r, σr)) : Go mX12_layRows 7 0 0 n0 (Ki Γ ρ r σr) 0 0 4 [some (.ref this), some (.int a1), some (.int x2), some (.int x3), none, none, none] [] (hp Γ ρ σ) := by
  unfold b_X12_layRows_4 at hf
  refine go_iload_n 3 dX12_layRows_4 rfl rfl ?_
  refine go_bipush 21 dX12_layRows_5 (by decide) ?_
  refine go_icmp_ge 23 dX12_layRows_7 (by decide) (fun c49 => ?_) (fun c49 => ?_)
  · replace hf := (if_pos c49).symm.trans hf
    refine go_iconst 0 dX12_layRows_23 (by decide) ?_
    refine go_istore_n 3 [some (.ref this), some (.int a1), some (.int x2), some (.int 0), none, none, none] dX12_layRows_24 rfl (by decide) rfl ?_
    exact w_X12_layRows_25 hs h0 N x2 0 σ hf
  · replace hf := (if_neg c49).symm.trans hf
    refine go_aload_n 0 dX12_layRows_10 rfl rfl ?_
    refine go_fR fl_X12_157 dX12_layRows_11 h0 (by decide) rfl ?_
    refine go_iload_n 3 dX12_layRows_14 rfl rfl ?_
    refine go_iconst 0 dX12_layRows_15 (by decide) ?_
    obtain ⟨g50, hf⟩ := gd_some hf
    obtain ⟨σ51, eσ51, hf⟩ := nmd_some hf
    refine go_wI dX12_layRows_16 (hs.1 _ 12 79 h0 rfl) (ib_in g50) ?_
    rw [eσ51]
    refine go_iinc (x3 + 1) [some (.ref this), some (.int a1), some (.int x2), some (.int (x3 + 1)), none, none, none] dX12_layRows_17 rfl rfl (by decide) rfl ?_
    refine go_goto 4 dX12_layRows_20 (by decide) ?_
    exact hrec4 x2 (x3 + 1) σ51 hf
theorem w_X12_layRows_4 {N : Nat} {Γ : SG} {ρ : Nat → Nat → Nat} (hs : Sh Γ ρ) {this : Nat} {a1 : Int32} (h0 : Γ[this]? = some (0, 12)) {n0 : Nat} {r : Int32} {σr : St} : ∀ (n : Nat) (x2 : Int32) (x3 : Int32) (σ : St), f_X12_layRows_4 N ρ this a1 n x2 x3 σ = some (r, σr) → Go mX12_layRows 7 0 0 n0 (Ki Γ ρ r σr) 0 0 4 [some (.ref this), some (.int a1), some (.int x2), some (.int x3), none, none, none] [] (hp Γ ρ σ) := by
  intro n
  induction n with
  | zero => intro x2 x3 σ hf; cases hf
  | succ n ih => intro x2 x3 σ hf; exact v_X12_layRows_4 hs h0 _ ih x2 x3 σ hf
set_option maxRecDepth 100000 in
set_option maxHeartbeats 4000000 in
theorem t_X12_layRows {N : Nat} {Γ : SG} {ρ : Nat → Nat → Nat} (hs : Sh Γ ρ) {this : Nat} {a1 : Int32} (h0 : Γ[this]? = some (0, 12)) {σ : St} {r : Int32} {σr : St} (hf : f_X12_layRows N ρ this a1 σ = some (r, σr)) : Tri mX12_layRows 7 0 0 [.ref this, .int a1] (hp Γ ρ σ) (Ki Γ ρ r σr) := by
  unfold f_X12_layRows at hf
  refine tri_of [some (.ref this), some (.int a1), none, none, none, none, none] (plainFor_of_name rfl) rfl (Nat.le_of_ble_eq_true rfl) ?_
  refine go_iconst 0 dX12_layRows_0 (by decide) ?_
  refine go_istore_n 2 [some (.ref this), some (.int a1), some (.int 0), none, none, none, none] dX12_layRows_1 rfl (by decide) rfl ?_
  refine go_iconst 0 dX12_layRows_2 (by decide) ?_
  refine go_istore_n 3 [some (.ref this), some (.int a1), some (.int 0), some (.int 0), none, none, none] dX12_layRows_3 rfl (by decide) rfl ?_
  exact w_X12_layRows_4 hs h0 N 0 0 σ hf
def f_X12_rows (N : Nat) (ρ : Nat → Nat → Nat) (this : Nat) (a1 : Int32) (σ : St) : Option (Int32 × St) :=
  bnd (f_X12_layRows N ρ this a1 σ) fun r1 σ2 =>
  some (r1, σ2)
set_option maxRecDepth 100000 in
set_option maxHeartbeats 4000000 in
theorem t_X12_rows {N : Nat} {Γ : SG} {ρ : Nat → Nat → Nat} (hs : Sh Γ ρ) {this : Nat} {a1 : Int32} (h0 : Γ[this]? = some (0, 12)) {σ : St} {r : Int32} {σr : St} (hf : f_X12_rows N ρ this a1 σ = some (r, σr)) : Tri mX12_rows 8 0 0 [.ref this, .int a1] (hp Γ ρ σ) (Ki Γ ρ r σr) := by
  unfold f_X12_rows at hf
  refine tri_of [some (.ref this), some (.int a1)] (plainFor_of_name rfl) rfl (Nat.le_of_ble_eq_true rfl) ?_
  refine go_aload_n 0 dX12_rows_0 rfl rfl ?_
  refine go_iload_n 1 dX12_rows_1 rfl rfl ?_
  obtain ⟨r1, σ2, q3, hf⟩ := bnd_some hf
  refine go_Vi (av := [.int a1]) (rest := []) (t_X12_layRows hs h0 q3) ok_X12_layRows ml_X12_538 dX12_rows_2 h0 rfl rfl (by decide) (Nat.le_refl _) (Nat.le_refl _) (Nat.le_of_ble_eq_true rfl) ?_
  cases hf
  exact go_iret rfl dX12_rows_5 (Nat.le_refl _) ⟨rfl, rfl⟩
def f_X12_sure_76 (N : Nat) (ρ : Nat → Nat → Nat) (this : Nat) (a1 : Int32) (a2 : Int32) (rec32 : Int32 → Int32 → Int32 → St → Option (Int32 × St)) (x3 : Int32) (x4 : Int32) (x5 : Int32) (σ : St) : Option (Int32 × St) :=
  rec32 x3 x4 (x5 + 1) σ
def f_X12_sure_74 (N : Nat) (ρ : Nat → Nat → Nat) (this : Nat) (a1 : Int32) (a2 : Int32) (rec32 : Int32 → Int32 → Int32 → St → Option (Int32 × St)) (x3 : Int32) (x5 : Int32) (s0 : Int32) (σ : St) : Option (Int32 × St) :=
  f_X12_sure_76 N ρ this a1 a2 rec32 x3 s0 x5 σ
def b_X12_sure_32 (N : Nat) (ρ : Nat → Nat → Nat) (this : Nat) (a1 : Int32) (a2 : Int32) (rec32 : Int32 → Int32 → Int32 → St → Option (Int32 × St)) (x3 : Int32) (x4 : Int32) (x5 : Int32) (σ : St) : Option (Int32 × St) :=
  if (σ.1 this 49) < (x5 : Int32) then
    some (x4, σ)
  else
    gd (ib ((7 * (a1 - 1)) + x5) 21) <|
    if (σ.1 (ρ this 79) ((7 * (a1 - 1)) + x5).toNatClampNeg : Int32) = x3 then
      if (x5 : Int32) = (σ.1 this 49) then
        f_X12_sure_74 N ρ this a1 a2 rec32 x3 x5 (-1) σ
      else
        f_X12_sure_74 N ρ this a1 a2 rec32 x3 x5 x5 σ
    else
      f_X12_sure_76 N ρ this a1 a2 rec32 x3 x4 x5 σ
def f_X12_sure_32 (N : Nat) (ρ : Nat → Nat → Nat) (this : Nat) (a1 : Int32) (a2 : Int32) : Nat → Int32 → Int32 → Int32 → St → Option (Int32 × St)
  | 0, _, _, _, _ => none
  | n + 1, x3, x4, x5, σ => b_X12_sure_32 N ρ this a1 a2 (f_X12_sure_32 N ρ this a1 a2 n) x3 x4 x5 σ
def f_X12_sure (N : Nat) (ρ : Nat → Nat → Nat) (this : Nat) (a1 : Int32) (a2 : Int32) (σ : St) : Option (Int32 × St) :=
  bnd (f_X12_isIn N ρ a1 1 3 σ) fun r5 σ6 =>
  if (r5 : Int32) = 0 then
    some ((-3), σ6)
  else
    bnd (f_X12_layRows N ρ this a2 σ6) fun r9 σ10 =>
    if (r9 : Int32) = 0 then
      some ((-3), σ10)
    else
      f_X12_sure_32 N ρ this a1 a2 N r9 (-2) 0 σ10
set_option maxRecDepth 100000 in
set_option maxHeartbeats 4000000 in
theorem w_X12_sure_76 {N : Nat} {Γ : SG} {ρ : Nat → Nat → Nat} (hs : Sh Γ ρ) {this : Nat} {a1 : Int32} {a2 : Int32} (h0 : Γ[this]? = some (0, 12)) {n0 : Nat} {r : Int32} {σr : St} (rec32 : Int32 → Int32 → Int32 → St → Option (Int32 × St)) (hrec32 : ∀ (x3 : Int32) (x4 : Int32) (x5 : Int32) (σ : St), rec32 x3 x4 x5 σ = some (r, σr) → Go mX12_sure 8 0 0 n0 (Ki Γ ρ r σr) 0 0 32 [some (.ref this), some (.int a1), none, some (.int x3), some (.int x4), some (.int x5)] [] (hp Γ ρ σ)) (x3 : Int32) (x4 : Int32) (x5 : Int32) (σ : St) (hf : f_X12_sure_76 N ρ this a1 a2 rec32 x3 x4 x5 σ = some (r, σr)) : Go mX12_sure 8 0 0 n0 (Ki Γ ρ r σr) 0 0 76 [some (.ref this), some (.int a1), none, some (.int x3), some (.int x4), some (.int x5)] [] (hp Γ ρ σ) := by
  unfold f_X12_sure_76 at hf
  refine go_iinc (x5 + 1) [some (.ref this), some (.int a1), none, some (.int x3), some (.int x4), some (.int (x5 + 1))] dX12_sure_76 rfl rfl (by decide) rfl ?_
  refine go_goto 32 dX12_sure_79 (by decide) ?_
  exact hrec32 x3 x4 (x5 + 1) σ hf
set_option maxRecDepth 100000 in
set_option maxHeartbeats 4000000 in
theorem w_X12_sure_74 {N : Nat} {Γ : SG} {ρ : Nat → Nat → Nat} (hs : Sh Γ ρ) {this : Nat} {a1 : Int32} {a2 : Int32} (h0 : Γ[this]? = some (0, 12)) {n0 : Nat} {r : Int32} {σr : St} (rec32 : Int32 → Int32 → Int32 → St → Option (Int32 × St)) (hrec32 : ∀ (x3 : Int32) (x4 : Int32) (x5 : Int32) (σ : St), rec32 x3 x4 x5 σ = some (r, σr) → Go mX12_sure 8 0 0 n0 (Ki Γ ρ r σr) 0 0 32 [some (.ref this), some (.int a1), none, some (.int x3), some (.int x4), some (.int x5)] [] (hp Γ ρ σ)) (x3 : Int32) (x5 : Int32) (s0 : Int32) (σ : St) (hf : f_X12_sure_74 N ρ this a1 a2 rec32 x3 x5 s0 σ = some (r, σr)) : Go mX12_sure 8 0 0 n0 (Ki Γ ρ r σr) 0 0 74 [some (.ref this), some (.int a1), none, some (.int x3), none, some (.int x5)] [.int s0] (hp Γ ρ σ) := by
  unfold f_X12_sure_74 at hf
  refine go_istore [some (.ref this), some (.int a1), none, some (.int x3), some (.int s0), some (.int x5)] dX12_sure_74 (by decide) rfl ?_
  exact w_X12_sure_76 hs h0 rec32 hrec32 x3 s0 x5 σ hf
set_option maxRecDepth 100000 in
set_option maxHeartbeats 4000000 in
theorem v_X12_sure_32 {N : Nat} {Γ : SG} {ρ : Nat → Nat → Nat} (hs : Sh Γ ρ) {this : Nat} {a1 : Int32} {a2 : Int32} (h0 : Γ[this]? = some (0, 12)) {n0 : Nat} {r : Int32} {σr : St} (rec32 : Int32 → Int32 → Int32 → St → Option (Int32 × St)) (hrec32 : ∀ (x3 : Int32) (x4 : Int32) (x5 : Int32) (σ : St), rec32 x3 x4 x5 σ = some (r, σr) → Go mX12_sure 8 0 0 n0 (Ki Γ ρ r σr) 0 0 32 [some (.ref this), some (.int a1), none, some (.int x3), some (.int x4), some (.int x5)] [] (hp Γ ρ σ)) (x3 : Int32) (x4 : Int32) (x5 : Int32) (σ : St) (hf : b_X12_sure_32 N ρ this a1 a2 rec32 x3 x4 x5 σ = some (r, σr)) : Go mX12_sure 8 0 0 n0 (Ki Γ ρ r σr) 0 0 32 [some (.ref this), some (.int a1), none, some (.int x3), some (.int x4), some (.int x5)] [] (hp Γ ρ σ) := by
  unfold b_X12_sure_32 at hf
  refine go_iload dX12_sure_32 rfl ?_
  refine go_aload_n 0 dX12_sure_34 rfl rfl ?_
  refine go_fI fl_X12_392 dX12_sure_35 h0 (by decide) rfl ?_
  refine go_icmp_gt 82 dX12_sure_38 (by decide) (fun c1 => ?_) (fun c1 => ?_)
  · replace hf := (if_pos c1).symm.trans hf
    refine go_iload dX12_sure_82 rfl ?_
    cases hf
    exact go_iret rfl dX12_sure_84 (Nat.le_refl _) ⟨rfl, rfl⟩
  · replace hf := (if_neg c1).symm.trans hf
    refine go_aload_n 0 dX12_sure_41 rfl rfl ?_
    refine go_fR fl_X12_157 dX12_sure_42 h0 (by decide) rfl ?_
    refine go_bipush 7 dX12_sure_45 (by decide) ?_
    refine go_iload_n 1 dX12_sure_47 rfl rfl ?_
    refine go_iconst 1 dX12_sure_48 (by decide) ?_
    refine go_isub dX12_sure_49 ?_
    refine go_imul dX12_sure_50 ?_
    refine go_iload dX12_sure_51 rfl ?_
    refine go_iadd dX12_sure_53 ?_
    obtain ⟨g2, hf⟩ := gd_some hf
    refine go_rI dX12_sure_54 (hs.1 _ 12 79 h0 rfl) (ib_in g2) ?_
    refine go_iload_n 3 dX12_sure_55 rfl rfl ?_
    refine go_icmp_ne 76 dX12_sure_56 (by decide) (fun c3 => ?_) (fun c3 => ?_)
    · replace hf := (if_neg c3).symm.trans hf
      exact w_X12_sure_76 hs h0 rec32 hrec32 x3 x4 x5 σ hf
    · replace hf := (if_pos c3).symm.trans hf
      refine go_iload dX12_sure_59 rfl ?_
      refine go_aload_n 0 dX12_sure_61 rfl rfl ?_
      refine go_fI fl_X12_392 dX12_sure_62 h0 (by decide) rfl ?_
      refine go_icmp_ne 72 dX12_sure_65 (by decide) (fun c4 => ?_) (fun c4 => ?_)
      · replace hf := (if_neg c4).symm.trans hf
        refine go_iload dX12_sure_72 rfl ?_
        refine go_msk [true, true, false, true, false, true] [some (.ref this), some (.int a1), none, some (.int x3), none, some (.int x5)] rfl ?_
        exact w_X12_sure_74 hs h0 rec32 hrec32 x3 x5 x5 σ hf
      · replace hf := (if_pos c4).symm.trans hf
        refine go_iconst (-1) dX12_sure_68 (by decide) ?_
        refine go_goto 74 dX12_sure_69 (by decide) ?_
        refine go_msk [true, true, false, true, false, true] [some (.ref this), some (.int a1), none, some (.int x3), none, some (.int x5)] rfl ?_
        exact w_X12_sure_74 hs h0 rec32 hrec32 x3 x5 (-1) σ hf
theorem w_X12_sure_32 {N : Nat} {Γ : SG} {ρ : Nat → Nat → Nat} (hs : Sh Γ ρ) {this : Nat} {a1 : Int32} {a2 : Int32} (h0 : Γ[this]? = some (0, 12)) {n0 : Nat} {r : Int32} {σr : St} : ∀ (n : Nat) (x3 : Int32) (x4 : Int32) (x5 : Int32) (σ : St), f_X12_sure_32 N ρ this a1 a2 n x3 x4 x5 σ = some (r, σr) → Go mX12_sure 8 0 0 n0 (Ki Γ ρ r σr) 0 0 32 [some (.ref this), some (.int a1), none, some (.int x3), some (.int x4), some (.int x5)] [] (hp Γ ρ σ) := by
  intro n
  induction n with
  | zero => intro x3 x4 x5 σ hf; cases hf
  | succ n ih => intro x3 x4 x5 σ hf; exact v_X12_sure_32 hs h0 _ ih x3 x4 x5 σ hf
set_option maxRecDepth 100000 in
set_option maxHeartbeats 4000000 in
theorem t_X12_sure {N : Nat} {Γ : SG} {ρ : Nat → Nat → Nat} (hs : Sh Γ ρ) {this : Nat} {a1 : Int32} {a2 : Int32} (h0 : Γ[this]? = some (0, 12)) {σ : St} {r : Int32} {σr : St} (hf : f_X12_sure N ρ this a1 a2 σ = some (r, σr)) : Tri mX12_sure 8 0 0 [.ref this, .int a1, .int a2] (hp Γ ρ σ) (Ki Γ ρ r σr) := by
  unfold f_X12_sure at hf
  refine tri_of [some (.ref this), some (.int a1), some (.int a2), none, none, none] (plainFor_of_name rfl) rfl (Nat.le_of_ble_eq_true rfl) ?_
  refine go_iload_n 1 dX12_sure_0 rfl rfl ?_
  refine go_iconst 1 dX12_sure_1 (by decide) ?_
  refine go_iconst 3 dX12_sure_2 (by decide) ?_
  obtain ⟨r5, σ6, q7, hf⟩ := bnd_some hf
  refine go_Si (av := [.int a1, .int 1, .int 3]) (rest := []) (t_X12_isIn hs  q7) ok_X12_isIn ml_X12_422 dX12_sure_3 rfl rfl (by decide) (Nat.le_refl _) (Nat.le_refl _) (Nat.le_of_ble_eq_true rfl) ?_
  refine go_if_ne 12 dX12_sure_6 (by decide) (fun c8 => ?_) (fun c8 => ?_)
  · replace hf := (if_neg c8).symm.trans hf
    refine go_aload_n 0 dX12_sure_12 rfl rfl ?_
    refine go_iload_n 2 dX12_sure_13 rfl rfl ?_
    obtain ⟨r9, σ10, q11, hf⟩ := bnd_some hf
    refine go_Vi (av := [.int a2]) (rest := []) (t_X12_layRows hs h0 q11) ok_X12_layRows ml_X12_538 dX12_sure_14 h0 rfl rfl (by decide) (Nat.le_refl _) (Nat.le_refl _) (Nat.le_of_ble_eq_true rfl) ?_
    refine go_istore_n 3 [some (.ref this), some (.int a1), some (.int a2), some (.int r9), none, none] dX12_sure_17 rfl (by decide) rfl ?_
    refine go_iload_n 3 dX12_sure_18 rfl rfl ?_
    refine go_if_ne 25 dX12_sure_19 (by decide) (fun c12 => ?_) (fun c12 => ?_)
    · replace hf := (if_neg c12).symm.trans hf
      refine go_bipush (-2) dX12_sure_25 (by decide) ?_
      refine go_istore [some (.ref this), some (.int a1), some (.int a2), some (.int r9), some (.int (-2)), none] dX12_sure_27 (by decide) rfl ?_
      refine go_iconst 0 dX12_sure_29 (by decide) ?_
      refine go_istore [some (.ref this), some (.int a1), some (.int a2), some (.int r9), some (.int (-2)), some (.int 0)] dX12_sure_30 (by decide) rfl ?_
      refine go_msk [true, true, false, true, true, true] [some (.ref this), some (.int a1), none, some (.int r9), some (.int (-2)), some (.int 0)] rfl ?_
      exact w_X12_sure_32 hs h0 N r9 (-2) 0 σ10 hf
    · replace hf := (if_pos c12).symm.trans hf
      refine go_bipush (-3) dX12_sure_22 (by decide) ?_
      cases hf
      exact go_iret rfl dX12_sure_24 (Nat.le_refl _) ⟨rfl, rfl⟩
  · replace hf := (if_pos c8).symm.trans hf
    refine go_bipush (-3) dX12_sure_9 (by decide) ?_
    cases hf
    exact go_iret rfl dX12_sure_11 (Nat.le_refl _) ⟨rfl, rfl⟩
def f_X12_leftBy_42 (N : Nat) (ρ : Nat → Nat → Nat) (this : Nat) (a1 : Int32) (rec4 : Int32 → Int32 → St → Option (Int32 × St)) (x3 : Int32) (s0 : Int32) (σ : St) : Option (Int32 × St) :=
  rec4 s0 (x3 + 1) σ
def b_X12_leftBy_4 (N : Nat) (ρ : Nat → Nat → Nat) (this : Nat) (a1 : Int32) (rec4 : Int32 → Int32 → St → Option (Int32 × St)) (x2 : Int32) (x3 : Int32) (σ : St) : Option (Int32 × St) :=
  if (σ.1 this 49) < (x3 : Int32) then
    some (x2, σ)
  else
    gd (ib ((7 * a1) + x3) 21) <|
    if (σ.1 (ρ this 79) ((7 * a1) + x3).toNatClampNeg : Int32) ≤ x2 then
      f_X12_leftBy_42 N ρ this a1 rec4 x3 x2 σ
    else
      gd (ib ((7 * a1) + x3) 21) <|
      f_X12_leftBy_42 N ρ this a1 rec4 x3 (σ.1 (ρ this 79) ((7 * a1) + x3).toNatClampNeg) σ
def f_X12_leftBy_4 (N : Nat) (ρ : Nat → Nat → Nat) (this : Nat) (a1 : Int32) : Nat → Int32 → Int32 → St → Option (Int32 × St)
  | 0, _, _, _ => none
  | n + 1, x2, x3, σ => b_X12_leftBy_4 N ρ this a1 (f_X12_leftBy_4 N ρ this a1 n) x2 x3 σ
def f_X12_leftBy (N : Nat) (ρ : Nat → Nat → Nat) (this : Nat) (a1 : Int32) (σ : St) : Option (Int32 × St) :=
  f_X12_leftBy_4 N ρ this a1 N 0 0 σ
set_option maxRecDepth 100000 in
set_option maxHeartbeats 4000000 in
theorem w_X12_leftBy_42 {N : Nat} {Γ : SG} {ρ : Nat → Nat → Nat} (hs : Sh Γ ρ) {this : Nat} {a1 : Int32} (h0 : Γ[this]? = some (0, 12)) {n0 : Nat} {r : Int32} {σr : St} (rec4 : Int32 → Int32 → St → Option (Int32 × St)) (hrec4 : ∀ (x2 : Int32) (x3 : Int32) (σ : St), rec4 x2 x3 σ = some (r, σr) → Go mX12_leftBy 0 0 0 n0 (Ki Γ ρ r σr) 0 0 4 [some (.ref this), some (.int a1), some (.int x2), some (.int x3)] [] (hp Γ ρ σ)) (x3 : Int32) (s0 : Int32) (σ : St) (hf : f_X12_leftBy_42 N ρ this a1 rec4 x3 s0 σ = some (r, σr)) : Go mX12_leftBy 0 0 0 n0 (Ki Γ ρ r σr) 0 0 42 [some (.ref this), some (.int a1), none, some (.int x3)] [.int s0] (hp Γ ρ σ) := by
  unfold f_X12_leftBy_42 at hf
  refine go_istore_n 2 [some (.ref this), some (.int a1), some (.int s0), some (.int x3)] dX12_leftBy_42 rfl (by decide) rfl ?_
  refine go_iinc (x3 + 1) [some (.ref this), some (.int a1), some (.int s0), some (.int (x3 + 1))] dX12_leftBy_43 rfl rfl (by decide) rfl ?_
  refine go_goto 4 dX12_leftBy_46 (by decide) ?_
  exact hrec4 s0 (x3 + 1) σ hf
set_option maxRecDepth 100000 in
set_option maxHeartbeats 4000000 in
theorem v_X12_leftBy_4 {N : Nat} {Γ : SG} {ρ : Nat → Nat → Nat} (hs : Sh Γ ρ) {this : Nat} {a1 : Int32} (h0 : Γ[this]? = some (0, 12)) {n0 : Nat} {r : Int32} {σr : St} (rec4 : Int32 → Int32 → St → Option (Int32 × St)) (hrec4 : ∀ (x2 : Int32) (x3 : Int32) (σ : St), rec4 x2 x3 σ = some (r, σr) → Go mX12_leftBy 0 0 0 n0 (Ki Γ ρ r σr) 0 0 4 [some (.ref this), some (.int a1), some (.int x2), some (.int x3)] [] (hp Γ ρ σ)) (x2 : Int32) (x3 : Int32) (σ : St) (hf : b_X12_leftBy_4 N ρ this a1 rec4 x2 x3 σ = some (r, σr)) : Go mX12_leftBy 0 0 0 n0 (Ki Γ ρ r σr) 0 0 4 [some (.ref this), some (.int a1), some (.int x2), some (.int x3)] [] (hp Γ ρ σ) := by
  unfold b_X12_leftBy_4 at hf
  refine go_iload_n 3 dX12_leftBy_4 rfl rfl ?_
  refine go_aload_n 0 dX12_leftBy_5 rfl rfl ?_
  refine go_fI fl_X12_392 dX12_leftBy_6 h0 (by decide) rfl ?_
  refine go_icmp_gt 49 dX12_leftBy_9 (by decide) (fun c1 => ?_) (fun c1 => ?_)
  · replace hf := (if_pos c1).symm.trans hf
    refine go_iload_n 2 dX12_leftBy_49 rfl rfl ?_
    cases hf
    exact go_iret rfl dX12_leftBy_50 (Nat.le_refl _) ⟨rfl, rfl⟩
  · replace hf := (if_neg c1).symm.trans hf
    refine go_aload_n 0 dX12_leftBy_12 rfl rfl ?_
    refine go_fR fl_X12_157 dX12_leftBy_13 h0 (by decide) rfl ?_
    refine go_bipush 7 dX12_leftBy_16 (by decide) ?_
    refine go_iload_n 1 dX12_leftBy_18 rfl rfl ?_
    refine go_imul dX12_leftBy_19 ?_
    refine go_iload_n 3 dX12_leftBy_20 rfl rfl ?_
    refine go_iadd dX12_leftBy_21 ?_
    obtain ⟨g2, hf⟩ := gd_some hf
    refine go_rI dX12_leftBy_22 (hs.1 _ 12 79 h0 rfl) (ib_in g2) ?_
    refine go_iload_n 2 dX12_leftBy_23 rfl rfl ?_
    refine go_icmp_le 41 dX12_leftBy_24 (by decide) (fun c3 => ?_) (fun c3 => ?_)
    · replace hf := (if_pos c3).symm.trans hf
      refine go_iload_n 2 dX12_leftBy_41 rfl rfl ?_
      refine go_msk [true, true, false, true] [some (.ref this), some (.int a1), none, some (.int x3)] rfl ?_
      exact w_X12_leftBy_42 hs h0 rec4 hrec4 x3 x2 σ hf
    · replace hf := (if_neg c3).symm.trans hf
      refine go_aload_n 0 dX12_leftBy_27 rfl rfl ?_
      refine go_fR fl_X12_157 dX12_leftBy_28 h0 (by decide) rfl ?_
      refine go_bipush 7 dX12_leftBy_31 (by decide) ?_
      refine go_iload_n 1 dX12_leftBy_33 rfl rfl ?_
      refine go_imul dX12_leftBy_34 ?_
      refine go_iload_n 3 dX12_leftBy_35 rfl rfl ?_
      refine go_iadd dX12_leftBy_36 ?_
      obtain ⟨g4, hf⟩ := gd_some hf
      refine go_rI dX12_leftBy_37 (hs.1 _ 12 79 h0 rfl) (ib_in g4) ?_
      refine go_goto 42 dX12_leftBy_38 (by decide) ?_
      refine go_msk [true, true, false, true] [some (.ref this), some (.int a1), none, some (.int x3)] rfl ?_
      exact w_X12_leftBy_42 hs h0 rec4 hrec4 x3 (σ.1 (ρ this 79) ((7 * a1) + x3).toNatClampNeg) σ hf
theorem w_X12_leftBy_4 {N : Nat} {Γ : SG} {ρ : Nat → Nat → Nat} (hs : Sh Γ ρ) {this : Nat} {a1 : Int32} (h0 : Γ[this]? = some (0, 12)) {n0 : Nat} {r : Int32} {σr : St} : ∀ (n : Nat) (x2 : Int32) (x3 : Int32) (σ : St), f_X12_leftBy_4 N ρ this a1 n x2 x3 σ = some (r, σr) → Go mX12_leftBy 0 0 0 n0 (Ki Γ ρ r σr) 0 0 4 [some (.ref this), some (.int a1), some (.int x2), some (.int x3)] [] (hp Γ ρ σ) := by
  intro n
  induction n with
  | zero => intro x2 x3 σ hf; cases hf
  | succ n ih => intro x2 x3 σ hf; exact v_X12_leftBy_4 hs h0 _ ih x2 x3 σ hf
set_option maxRecDepth 100000 in
set_option maxHeartbeats 4000000 in
theorem t_X12_leftBy {N : Nat} {Γ : SG} {ρ : Nat → Nat → Nat} (hs : Sh Γ ρ) {this : Nat} {a1 : Int32} (h0 : Γ[this]? = some (0, 12)) {σ : St} {r : Int32} {σr : St} (hf : f_X12_leftBy N ρ this a1 σ = some (r, σr)) : Tri mX12_leftBy 0 0 0 [.ref this, .int a1] (hp Γ ρ σ) (Ki Γ ρ r σr) := by
  unfold f_X12_leftBy at hf
  refine tri_of [some (.ref this), some (.int a1), none, none] (plainFor_of_name rfl) rfl (Nat.le_of_ble_eq_true rfl) ?_
  refine go_iconst 0 dX12_leftBy_0 (by decide) ?_
  refine go_istore_n 2 [some (.ref this), some (.int a1), some (.int 0), none] dX12_leftBy_1 rfl (by decide) rfl ?_
  refine go_iconst 0 dX12_leftBy_2 (by decide) ?_
  refine go_istore_n 3 [some (.ref this), some (.int a1), some (.int 0), some (.int 0)] dX12_leftBy_3 rfl (by decide) rfl ?_
  exact w_X12_leftBy_4 hs h0 N 0 0 σ hf
def f_X12_ask_17 (N : Nat) (ρ : Nat → Nat → Nat) (this : Nat) (a1 : Int32) (a2 : Int32) (σ : St) : Option (Int32 × St) :=
  some ((-1), σ)
def f_X12_ask_50 (N : Nat) (ρ : Nat → Nat → Nat) (this : Nat) (a1 : Int32) (a2 : Int32) (rec24 : Int32 → Int32 → St → Option (Int32 × St)) (x4 : Int32) (s0 : Int32) (σ : St) : Option (Int32 × St) :=
  rec24 s0 (x4 + 1) σ
def f_X12_ask_72 (N : Nat) (ρ : Nat → Nat → Nat) (this : Nat) (a1 : Int32) (a2 : Int32) (s0 : Int32) (σ : St) : Option (Int32 × St) :=
  some (s0, σ)
def b_X12_ask_24 (N : Nat) (ρ : Nat → Nat → Nat) (this : Nat) (a1 : Int32) (a2 : Int32) (rec24 : Int32 → Int32 → St → Option (Int32 × St)) (x3 : Int32) (x4 : Int32) (σ : St) : Option (Int32 × St) :=
  if 3 ≤ (x4 : Int32) then
    if (a1 : Int32) = 0 then
      f_X12_ask_72 N ρ this a1 a2 (x3 + 1) σ
    else
      bnd (f_X12_leftBy N ρ this x3 σ) fun r3 σ4 =>
      f_X12_ask_72 N ρ this a1 a2 r3 σ4
  else
    bnd (f_X12_leftBy N ρ this x4 σ) fun r6 σ7 =>
    bnd (f_X12_leftBy N ρ this x3 σ7) fun r9 σ10 =>
    if r9 ≤ (r6 : Int32) then
      f_X12_ask_50 N ρ this a1 a2 rec24 x4 x3 σ10
    else
      f_X12_ask_50 N ρ this a1 a2 rec24 x4 x4 σ10
def f_X12_ask_24 (N : Nat) (ρ : Nat → Nat → Nat) (this : Nat) (a1 : Int32) (a2 : Int32) : Nat → Int32 → Int32 → St → Option (Int32 × St)
  | 0, _, _, _ => none
  | n + 1, x3, x4, σ => b_X12_ask_24 N ρ this a1 a2 (f_X12_ask_24 N ρ this a1 a2 n) x3 x4 σ
def f_X12_ask (N : Nat) (ρ : Nat → Nat → Nat) (this : Nat) (a1 : Int32) (a2 : Int32) (σ : St) : Option (Int32 × St) :=
  bnd (f_X12_isIn N ρ a1 0 1 σ) fun r13 σ14 =>
  if (r13 : Int32) = 0 then
    f_X12_ask_17 N ρ this a1 a2 σ14
  else
    bnd (f_X12_layRows N ρ this a2 σ14) fun r17 σ18 =>
    if (r17 : Int32) = 0 then
      f_X12_ask_17 N ρ this a1 a2 σ18
    else
      f_X12_ask_24 N ρ this a1 a2 N 0 1 σ18
set_option maxRecDepth 100000 in
set_option maxHeartbeats 4000000 in
theorem w_X12_ask_17 {N : Nat} {Γ : SG} {ρ : Nat → Nat → Nat} (hs : Sh Γ ρ) {this : Nat} {a1 : Int32} {a2 : Int32} (h0 : Γ[this]? = some (0, 12)) {n0 : Nat} {r : Int32} {σr : St} (σ : St) (hf : f_X12_ask_17 N ρ this a1 a2 σ = some (r, σr)) : Go mX12_ask 8 0 0 n0 (Ki Γ ρ r σr) 0 0 17 [none, none, none, none, none] [] (hp Γ ρ σ) := by
  unfold f_X12_ask_17 at hf
  refine go_iconst (-1) dX12_ask_17 (by decide) ?_
  cases hf
  exact go_iret rfl dX12_ask_18 (Nat.le_refl _) ⟨rfl, rfl⟩
set_option maxRecDepth 100000 in
set_option maxHeartbeats 4000000 in
theorem w_X12_ask_50 {N : Nat} {Γ : SG} {ρ : Nat → Nat → Nat} (hs : Sh Γ ρ) {this : Nat} {a1 : Int32} {a2 : Int32} (h0 : Γ[this]? = some (0, 12)) {n0 : Nat} {r : Int32} {σr : St} (rec24 : Int32 → Int32 → St → Option (Int32 × St)) (hrec24 : ∀ (x3 : Int32) (x4 : Int32) (σ : St), rec24 x3 x4 σ = some (r, σr) → Go mX12_ask 8 0 0 n0 (Ki Γ ρ r σr) 0 0 24 [some (.ref this), some (.int a1), none, some (.int x3), some (.int x4)] [] (hp Γ ρ σ)) (x4 : Int32) (s0 : Int32) (σ : St) (hf : f_X12_ask_50 N ρ this a1 a2 rec24 x4 s0 σ = some (r, σr)) : Go mX12_ask 8 0 0 n0 (Ki Γ ρ r σr) 0 0 50 [some (.ref this), some (.int a1), none, none, some (.int x4)] [.int s0] (hp Γ ρ σ) := by
  unfold f_X12_ask_50 at hf
  refine go_istore_n 3 [some (.ref this), some (.int a1), none, some (.int s0), some (.int x4)] dX12_ask_50 rfl (by decide) rfl ?_
  refine go_iinc (x4 + 1) [some (.ref this), some (.int a1), none, some (.int s0), some (.int (x4 + 1))] dX12_ask_51 rfl rfl (by decide) rfl ?_
  refine go_goto 24 dX12_ask_54 (by decide) ?_
  exact hrec24 s0 (x4 + 1) σ hf
set_option maxRecDepth 100000 in
set_option maxHeartbeats 4000000 in
theorem w_X12_ask_72 {N : Nat} {Γ : SG} {ρ : Nat → Nat → Nat} (hs : Sh Γ ρ) {this : Nat} {a1 : Int32} {a2 : Int32} (h0 : Γ[this]? = some (0, 12)) {n0 : Nat} {r : Int32} {σr : St} (s0 : Int32) (σ : St) (hf : f_X12_ask_72 N ρ this a1 a2 s0 σ = some (r, σr)) : Go mX12_ask 8 0 0 n0 (Ki Γ ρ r σr) 0 0 72 [none, none, none, none, none] [.int s0] (hp Γ ρ σ) := by
  unfold f_X12_ask_72 at hf
  cases hf
  exact go_iret rfl dX12_ask_72 (Nat.le_refl _) ⟨rfl, rfl⟩
set_option maxRecDepth 100000 in
set_option maxHeartbeats 4000000 in
theorem v_X12_ask_24 {N : Nat} {Γ : SG} {ρ : Nat → Nat → Nat} (hs : Sh Γ ρ) {this : Nat} {a1 : Int32} {a2 : Int32} (h0 : Γ[this]? = some (0, 12)) {n0 : Nat} {r : Int32} {σr : St} (rec24 : Int32 → Int32 → St → Option (Int32 × St)) (hrec24 : ∀ (x3 : Int32) (x4 : Int32) (σ : St), rec24 x3 x4 σ = some (r, σr) → Go mX12_ask 8 0 0 n0 (Ki Γ ρ r σr) 0 0 24 [some (.ref this), some (.int a1), none, some (.int x3), some (.int x4)] [] (hp Γ ρ σ)) (x3 : Int32) (x4 : Int32) (σ : St) (hf : b_X12_ask_24 N ρ this a1 a2 rec24 x3 x4 σ = some (r, σr)) : Go mX12_ask 8 0 0 n0 (Ki Γ ρ r σr) 0 0 24 [some (.ref this), some (.int a1), none, some (.int x3), some (.int x4)] [] (hp Γ ρ σ) := by
  unfold b_X12_ask_24 at hf
  refine go_iload dX12_ask_24 rfl ?_
  refine go_iconst 3 dX12_ask_26 (by decide) ?_
  refine go_icmp_ge 57 dX12_ask_27 (by decide) (fun c1 => ?_) (fun c1 => ?_)
  · replace hf := (if_pos c1).symm.trans hf
    refine go_iload_n 1 dX12_ask_57 rfl rfl ?_
    refine go_if_ne 67 dX12_ask_58 (by decide) (fun c2 => ?_) (fun c2 => ?_)
    · replace hf := (if_neg c2).symm.trans hf
      refine go_aload_n 0 dX12_ask_67 rfl rfl ?_
      refine go_iload_n 3 dX12_ask_68 rfl rfl ?_
      obtain ⟨r3, σ4, q5, hf⟩ := bnd_some hf
      refine go_Vi (av := [.int x3]) (rest := []) (t_X12_leftBy hs h0 q5) ok_X12_leftBy ml_X12_541 dX12_ask_69 h0 rfl rfl (by decide) (Nat.le_refl _) (Nat.le_refl _) (Nat.le_of_ble_eq_true rfl) ?_
      refine go_msk [false, false, false, false, false] [none, none, none, none, none] rfl ?_
      exact w_X12_ask_72 hs h0 r3 σ4 hf
    · replace hf := (if_pos c2).symm.trans hf
      refine go_iload_n 3 dX12_ask_61 rfl rfl ?_
      refine go_iconst 1 dX12_ask_62 (by decide) ?_
      refine go_iadd dX12_ask_63 ?_
      refine go_goto 72 dX12_ask_64 (by decide) ?_
      refine go_msk [false, false, false, false, false] [none, none, none, none, none] rfl ?_
      exact w_X12_ask_72 hs h0 (x3 + 1) σ hf
  · replace hf := (if_neg c1).symm.trans hf
    refine go_aload_n 0 dX12_ask_30 rfl rfl ?_
    refine go_iload dX12_ask_31 rfl ?_
    obtain ⟨r6, σ7, q8, hf⟩ := bnd_some hf
    refine go_Vi (av := [.int x4]) (rest := []) (t_X12_leftBy hs h0 q8) ok_X12_leftBy ml_X12_541 dX12_ask_33 h0 rfl rfl (by decide) (Nat.le_refl _) (Nat.le_refl _) (Nat.le_of_ble_eq_true rfl) ?_
    refine go_aload_n 0 dX12_ask_36 rfl rfl ?_
    refine go_iload_n 3 dX12_ask_37 rfl rfl ?_
    obtain ⟨r9, σ10, q11, hf⟩ := bnd_some hf
    refine go_Vi (av := [.int x3]) (rest := [.int r6]) (t_X12_leftBy hs h0 q11) ok_X12_leftBy ml_X12_541 dX12_ask_38 h0 rfl rfl (by decide) (Nat.le_refl _) (Nat.le_refl _) (Nat.le_of_ble_eq_true rfl) ?_
    refine go_icmp_ge 49 dX12_ask_41 (by decide) (fun c12 => ?_) (fun c12 => ?_)
    · replace hf := (if_pos c12).symm.trans hf
      refine go_iload_n 3 dX12_ask_49 rfl rfl ?_
      refine go_msk [true, true, false, false, true] [some (.ref this), some (.int a1), none, none, some (.int x4)] rfl ?_
      exact w_X12_ask_50 hs h0 rec24 hrec24 x4 x3 σ10 hf
    · replace hf := (if_neg c12).symm.trans hf
      refine go_iload dX12_ask_44 rfl ?_
      refine go_goto 50 dX12_ask_46 (by decide) ?_
      refine go_msk [true, true, false, false, true] [some (.ref this), some (.int a1), none, none, some (.int x4)] rfl ?_
      exact w_X12_ask_50 hs h0 rec24 hrec24 x4 x4 σ10 hf
theorem w_X12_ask_24 {N : Nat} {Γ : SG} {ρ : Nat → Nat → Nat} (hs : Sh Γ ρ) {this : Nat} {a1 : Int32} {a2 : Int32} (h0 : Γ[this]? = some (0, 12)) {n0 : Nat} {r : Int32} {σr : St} : ∀ (n : Nat) (x3 : Int32) (x4 : Int32) (σ : St), f_X12_ask_24 N ρ this a1 a2 n x3 x4 σ = some (r, σr) → Go mX12_ask 8 0 0 n0 (Ki Γ ρ r σr) 0 0 24 [some (.ref this), some (.int a1), none, some (.int x3), some (.int x4)] [] (hp Γ ρ σ) := by
  intro n
  induction n with
  | zero => intro x3 x4 σ hf; cases hf
  | succ n ih => intro x3 x4 σ hf; exact v_X12_ask_24 hs h0 _ ih x3 x4 σ hf
set_option maxRecDepth 100000 in
set_option maxHeartbeats 4000000 in
theorem t_X12_ask {N : Nat} {Γ : SG} {ρ : Nat → Nat → Nat} (hs : Sh Γ ρ) {this : Nat} {a1 : Int32} {a2 : Int32} (h0 : Γ[this]? = some (0, 12)) {σ : St} {r : Int32} {σr : St} (hf : f_X12_ask N ρ this a1 a2 σ = some (r, σr)) : Tri mX12_ask 8 0 0 [.ref this, .int a1, .int a2] (hp Γ ρ σ) (Ki Γ ρ r σr) := by
  unfold f_X12_ask at hf
  refine tri_of [some (.ref this), some (.int a1), some (.int a2), none, none] (plainFor_of_name rfl) rfl (Nat.le_of_ble_eq_true rfl) ?_
  refine go_iload_n 1 dX12_ask_0 rfl rfl ?_
  refine go_iconst 0 dX12_ask_1 (by decide) ?_
  refine go_iconst 1 dX12_ask_2 (by decide) ?_
  obtain ⟨r13, σ14, q15, hf⟩ := bnd_some hf
  refine go_Si (av := [.int a1, .int 0, .int 1]) (rest := []) (t_X12_isIn hs  q15) ok_X12_isIn ml_X12_422 dX12_ask_3 rfl rfl (by decide) (Nat.le_refl _) (Nat.le_refl _) (Nat.le_of_ble_eq_true rfl) ?_
  refine go_if_eq 17 dX12_ask_6 (by decide) (fun c16 => ?_) (fun c16 => ?_)
  · replace hf := (if_pos c16).symm.trans hf
    refine go_msk [false, false, false, false, false] [none, none, none, none, none] rfl ?_
    exact w_X12_ask_17 hs h0 σ14 hf
  · replace hf := (if_neg c16).symm.trans hf
    refine go_aload_n 0 dX12_ask_9 rfl rfl ?_
    refine go_iload_n 2 dX12_ask_10 rfl rfl ?_
    obtain ⟨r17, σ18, q19, hf⟩ := bnd_some hf
    refine go_Vi (av := [.int a2]) (rest := []) (t_X12_layRows hs h0 q19) ok_X12_layRows ml_X12_538 dX12_ask_11 h0 rfl rfl (by decide) (Nat.le_refl _) (Nat.le_refl _) (Nat.le_of_ble_eq_true rfl) ?_
    refine go_if_ne 19 dX12_ask_14 (by decide) (fun c20 => ?_) (fun c20 => ?_)
    · replace hf := (if_neg c20).symm.trans hf
      refine go_iconst 0 dX12_ask_19 (by decide) ?_
      refine go_istore_n 3 [some (.ref this), some (.int a1), some (.int a2), some (.int 0), none] dX12_ask_20 rfl (by decide) rfl ?_
      refine go_iconst 1 dX12_ask_21 (by decide) ?_
      refine go_istore [some (.ref this), some (.int a1), some (.int a2), some (.int 0), some (.int 1)] dX12_ask_22 (by decide) rfl ?_
      refine go_msk [true, true, false, true, true] [some (.ref this), some (.int a1), none, some (.int 0), some (.int 1)] rfl ?_
      exact w_X12_ask_24 hs h0 N 0 1 σ18 hf
    · replace hf := (if_pos c20).symm.trans hf
      refine go_msk [false, false, false, false, false] [none, none, none, none, none] rfl ?_
      exact w_X12_ask_17 hs h0 σ18 hf
def f_X12_isBox_14 (N : Nat) (ρ : Nat → Nat → Nat) (a1 : Int32) (s0 : Int32) (σ : St) : Option (Int32 × St) :=
  gd (bb s0) <|
  some (s0, σ)
def f_X12_isBox_13 (N : Nat) (ρ : Nat → Nat → Nat) (a1 : Int32) (σ : St) : Option (Int32 × St) :=
  f_X12_isBox_14 N ρ a1 0 σ
def f_X12_isBox (N : Nat) (ρ : Nat → Nat → Nat) (a1 : Int32) (σ : St) : Option (Int32 × St) :=
  if (a1 : Int32) < 0 then
    f_X12_isBox_13 N ρ a1 σ
  else
    if 3 ≤ (a1 : Int32) then
      f_X12_isBox_13 N ρ a1 σ
    else
      f_X12_isBox_14 N ρ a1 1 σ
set_option maxRecDepth 100000 in
set_option maxHeartbeats 4000000 in
theorem w_X12_isBox_14 {N : Nat} {Γ : SG} {ρ : Nat → Nat → Nat} (hs : Sh Γ ρ) {a1 : Int32} {n0 : Nat} {r : Int32} {σr : St} (s0 : Int32) (σ : St) (hf : f_X12_isBox_14 N ρ a1 s0 σ = some (r, σr)) : Go mX12_isBox 0 0 0 n0 (Ki Γ ρ r σr) 0 0 14 [none] [.int s0] (hp Γ ρ σ) := by
  unfold f_X12_isBox_14 at hf
  obtain ⟨g1, hf⟩ := gd_some hf
  cases hf
  exact go_zret rfl (bb_of g1) dX12_isBox_14 (Nat.le_refl _) ⟨rfl, rfl⟩
set_option maxRecDepth 100000 in
set_option maxHeartbeats 4000000 in
theorem w_X12_isBox_13 {N : Nat} {Γ : SG} {ρ : Nat → Nat → Nat} (hs : Sh Γ ρ) {a1 : Int32} {n0 : Nat} {r : Int32} {σr : St} (σ : St) (hf : f_X12_isBox_13 N ρ a1 σ = some (r, σr)) : Go mX12_isBox 0 0 0 n0 (Ki Γ ρ r σr) 0 0 13 [none] [] (hp Γ ρ σ) := by
  unfold f_X12_isBox_13 at hf
  refine go_iconst 0 dX12_isBox_13 (by decide) ?_
  exact w_X12_isBox_14 hs 0 σ hf
set_option maxRecDepth 100000 in
set_option maxHeartbeats 4000000 in
theorem t_X12_isBox {N : Nat} {Γ : SG} {ρ : Nat → Nat → Nat} (hs : Sh Γ ρ) {a1 : Int32} {σ : St} {r : Int32} {σr : St} (hf : f_X12_isBox N ρ a1 σ = some (r, σr)) : Tri mX12_isBox 0 0 0 [.int a1] (hp Γ ρ σ) (Ki Γ ρ r σr) := by
  unfold f_X12_isBox at hf
  refine tri_of [some (.int a1)] (plainFor_of_name rfl) rfl (Nat.le_of_ble_eq_true rfl) ?_
  refine go_iload_n 0 dX12_isBox_0 rfl rfl ?_
  refine go_if_lt 13 dX12_isBox_1 (by decide) (fun c2 => ?_) (fun c2 => ?_)
  · replace hf := (if_pos c2).symm.trans hf
    refine go_msk [false] [none] rfl ?_
    exact w_X12_isBox_13 hs σ hf
  · replace hf := (if_neg c2).symm.trans hf
    refine go_iload_n 0 dX12_isBox_4 rfl rfl ?_
    refine go_iconst 3 dX12_isBox_5 (by decide) ?_
    refine go_icmp_ge 13 dX12_isBox_6 (by decide) (fun c3 => ?_) (fun c3 => ?_)
    · replace hf := (if_pos c3).symm.trans hf
      refine go_msk [false] [none] rfl ?_
      exact w_X12_isBox_13 hs σ hf
    · replace hf := (if_neg c3).symm.trans hf
      refine go_iconst 1 dX12_isBox_9 (by decide) ?_
      refine go_goto 14 dX12_isBox_10 (by decide) ?_
      refine go_msk [false] [none] rfl ?_
      exact w_X12_isBox_14 hs 1 σ hf
def b_X12_image_18 (N : Nat) (ρ : Nat → Nat → Nat) (this : Nat) (a1 : Int32) (rec18 : Int32 → St → Option (Int32 × St)) (x2 : Int32) (σ : St) : Option (Int32 × St) :=
  if 22 ≤ (x2 : Int32) then
    gd (ib 20 22) <|
    some (σ.1 (ρ this 56) (20 : Int32).toNatClampNeg, σ)
  else
    gd (ib x2 22) <|
    gd (ib ((22 * a1) + x2) 66) <|
    nmd (sI σ (ρ this 81) ((22 * a1) + x2).toNatClampNeg (σ.1 (ρ this 56) x2.toNatClampNeg)) fun σ5 =>
    rec18 (x2 + 1) σ5
def f_X12_image_18 (N : Nat) (ρ : Nat → Nat → Nat) (this : Nat) (a1 : Int32) : Nat → Int32 → St → Option (Int32 × St)
  | 0, _, _ => none
  | n + 1, x2, σ => b_X12_image_18 N ρ this a1 (f_X12_image_18 N ρ this a1 n) x2 σ
def f_X12_image (N : Nat) (ρ : Nat → Nat → Nat) (this : Nat) (a1 : Int32) (σ : St) : Option (Int32 × St) :=
  bnd (f_X12_isBox N ρ a1 σ) fun r6 σ7 =>
  if (r6 : Int32) = 0 then
    some ((-1), σ7)
  else
    gd (ib a1 3) <|
    nmd (sI σ7 (ρ this 80) a1.toNatClampNeg (vp_nar .boolean 1)) fun σ11 =>
    f_X12_image_18 N ρ this a1 N 0 σ11
set_option maxRecDepth 100000 in
set_option maxHeartbeats 4000000 in
theorem v_X12_image_18 {N : Nat} {Γ : SG} {ρ : Nat → Nat → Nat} (hs : Sh Γ ρ) {this : Nat} {a1 : Int32} (h0 : Γ[this]? = some (0, 12)) {n0 : Nat} {r : Int32} {σr : St} (rec18 : Int32 → St → Option (Int32 × St)) (hrec18 : ∀ (x2 : Int32) (σ : St), rec18 x2 σ = some (r, σr) → Go mX12_image 1 0 0 n0 (Ki Γ ρ r σr) 0 0 18 [some (.ref this), some (.int a1), some (.int x2)] [] (hp Γ ρ σ)) (x2 : Int32) (σ : St) (hf : b_X12_image_18 N ρ this a1 rec18 x2 σ = some (r, σr)) : Go mX12_image 1 0 0 n0 (Ki Γ ρ r σr) 0 0 18 [some (.ref this), some (.int a1), some (.int x2)] [] (hp Γ ρ σ) := by
  unfold b_X12_image_18 at hf
  refine go_iload_n 2 dX12_image_18 rfl rfl ?_
  refine go_bipush 22 dX12_image_19 (by decide) ?_
  refine go_icmp_ge 47 dX12_image_21 (by decide) (fun c1 => ?_) (fun c1 => ?_)
  · replace hf := (if_pos c1).symm.trans hf
    refine go_aload_n 0 dX12_image_47 rfl rfl ?_
    refine go_fR fl_X12_103 dX12_image_48 h0 (by decide) rfl ?_
    refine go_bipush 20 dX12_image_51 (by decide) ?_
    obtain ⟨g2, hf⟩ := gd_some hf
    refine go_rI dX12_image_53 (hs.1 _ 12 56 h0 rfl) (ib_in g2) ?_
    cases hf
    exact go_iret rfl dX12_image_54 (Nat.le_refl _) ⟨rfl, rfl⟩
  · replace hf := (if_neg c1).symm.trans hf
    refine go_aload_n 0 dX12_image_24 rfl rfl ?_
    refine go_fR fl_X12_163 dX12_image_25 h0 (by decide) rfl ?_
    refine go_bipush 22 dX12_image_28 (by decide) ?_
    refine go_iload_n 1 dX12_image_30 rfl rfl ?_
    refine go_imul dX12_image_31 ?_
    refine go_iload_n 2 dX12_image_32 rfl rfl ?_
    refine go_iadd dX12_image_33 ?_
    refine go_aload_n 0 dX12_image_34 rfl rfl ?_
    refine go_fR fl_X12_103 dX12_image_35 h0 (by decide) rfl ?_
    refine go_iload_n 2 dX12_image_38 rfl rfl ?_
    obtain ⟨g3, hf⟩ := gd_some hf
    refine go_rI dX12_image_39 (hs.1 _ 12 56 h0 rfl) (ib_in g3) ?_
    obtain ⟨g4, hf⟩ := gd_some hf
    obtain ⟨σ5, eσ5, hf⟩ := nmd_some hf
    refine go_wI dX12_image_40 (hs.1 _ 12 81 h0 rfl) (ib_in g4) ?_
    rw [eσ5]
    refine go_iinc (x2 + 1) [some (.ref this), some (.int a1), some (.int (x2 + 1))] dX12_image_41 rfl rfl (by decide) rfl ?_
    refine go_goto 18 dX12_image_44 (by decide) ?_
    exact hrec18 (x2 + 1) σ5 hf
theorem w_X12_image_18 {N : Nat} {Γ : SG} {ρ : Nat → Nat → Nat} (hs : Sh Γ ρ) {this : Nat} {a1 : Int32} (h0 : Γ[this]? = some (0, 12)) {n0 : Nat} {r : Int32} {σr : St} : ∀ (n : Nat) (x2 : Int32) (σ : St), f_X12_image_18 N ρ this a1 n x2 σ = some (r, σr) → Go mX12_image 1 0 0 n0 (Ki Γ ρ r σr) 0 0 18 [some (.ref this), some (.int a1), some (.int x2)] [] (hp Γ ρ σ) := by
  intro n
  induction n with
  | zero => intro x2 σ hf; cases hf
  | succ n ih => intro x2 σ hf; exact v_X12_image_18 hs h0 _ ih x2 σ hf
set_option maxRecDepth 100000 in
set_option maxHeartbeats 4000000 in
theorem t_X12_image {N : Nat} {Γ : SG} {ρ : Nat → Nat → Nat} (hs : Sh Γ ρ) {this : Nat} {a1 : Int32} (h0 : Γ[this]? = some (0, 12)) {σ : St} {r : Int32} {σr : St} (hf : f_X12_image N ρ this a1 σ = some (r, σr)) : Tri mX12_image 1 0 0 [.ref this, .int a1] (hp Γ ρ σ) (Ki Γ ρ r σr) := by
  unfold f_X12_image at hf
  refine tri_of [some (.ref this), some (.int a1), none] (plainFor_of_name rfl) rfl (Nat.le_of_ble_eq_true rfl) ?_
  refine go_iload_n 1 dX12_image_0 rfl rfl ?_
  obtain ⟨r6, σ7, q8, hf⟩ := bnd_some hf
  refine go_Si (av := [.int a1]) (rest := []) (t_X12_isBox hs  q8) ok_X12_isBox ml_X12_544 dX12_image_1 rfl rfl (by decide) (Nat.le_refl _) (Nat.le_refl _) (Nat.le_of_ble_eq_true rfl) ?_
  refine go_if_ne 9 dX12_image_4 (by decide) (fun c9 => ?_) (fun c9 => ?_)
  · replace hf := (if_neg c9).symm.trans hf
    refine go_aload_n 0 dX12_image_9 rfl rfl ?_
    refine go_fR fl_X12_160 dX12_image_10 h0 (by decide) rfl ?_
    refine go_iload_n 1 dX12_image_13 rfl rfl ?_
    refine go_iconst 1 dX12_image_14 (by decide) ?_
    obtain ⟨g10, hf⟩ := gd_some hf
    obtain ⟨σ11, eσ11, hf⟩ := nmd_some hf
    refine go_wZ dX12_image_15 (hs.1 _ 12 80 h0 rfl) (ib_in g10) ?_
    rw [eσ11]
    refine go_iconst 0 dX12_image_16 (by decide) ?_
    refine go_istore_n 2 [some (.ref this), some (.int a1), some (.int 0)] dX12_image_17 rfl (by decide) rfl ?_
    exact w_X12_image_18 hs h0 N 0 σ11 hf
  · replace hf := (if_pos c9).symm.trans hf
    refine go_iconst (-1) dX12_image_7 (by decide) ?_
    cases hf
    exact go_iret rfl dX12_image_8 (Nat.le_refl _) ⟨rfl, rfl⟩
def f_X12_back_16 (N : Nat) (ρ : Nat → Nat → Nat) (this : Nat) (a1 : Int32) (σ : St) : Option (Int32 × St) :=
  some ((-1), σ)
def b_X12_back_20 (N : Nat) (ρ : Nat → Nat → Nat) (this : Nat) (a1 : Int32) (rec20 : Int32 → St → Option (Int32 × St)) (x2 : Int32) (σ : St) : Option (Int32 × St) :=
  if 22 ≤ (x2 : Int32) then
    nmd (sI σ this 62 0) fun σ2 =>
    nmd (sI σ2 this 63 0) fun σ3 =>
    gd (ib 20 22) <|
    some (σ3.1 (ρ this 56) (20 : Int32).toNatClampNeg, σ3)
  else
    gd (ib ((22 * a1) + x2) 66) <|
    gd (ib x2 22) <|
    nmd (sI σ (ρ this 56) x2.toNatClampNeg (σ.1 (ρ this 81) ((22 * a1) + x2).toNatClampNeg)) fun σ7 =>
    rec20 (x2 + 1) σ7
def f_X12_back_20 (N : Nat) (ρ : Nat → Nat → Nat) (this : Nat) (a1 : Int32) : Nat → Int32 → St → Option (Int32 × St)
  | 0, _, _ => none
  | n + 1, x2, σ => b_X12_back_20 N ρ this a1 (f_X12_back_20 N ρ this a1 n) x2 σ
def f_X12_back (N : Nat) (ρ : Nat → Nat → Nat) (this : Nat) (a1 : Int32) (σ : St) : Option (Int32 × St) :=
  bnd (f_X12_isBox N ρ a1 σ) fun r8 σ9 =>
  if (r8 : Int32) = 0 then
    f_X12_back_16 N ρ this a1 σ9
  else
    gd (ib a1 3) <|
    if (σ9.1 (ρ this 80) a1.toNatClampNeg : Int32) = 0 then
      f_X12_back_16 N ρ this a1 σ9
    else
      f_X12_back_20 N ρ this a1 N 0 σ9
set_option maxRecDepth 100000 in
set_option maxHeartbeats 4000000 in
theorem w_X12_back_16 {N : Nat} {Γ : SG} {ρ : Nat → Nat → Nat} (hs : Sh Γ ρ) {this : Nat} {a1 : Int32} (h0 : Γ[this]? = some (0, 12)) {n0 : Nat} {r : Int32} {σr : St} (σ : St) (hf : f_X12_back_16 N ρ this a1 σ = some (r, σr)) : Go mX12_back 1 0 0 n0 (Ki Γ ρ r σr) 0 0 16 [none, none, none] [] (hp Γ ρ σ) := by
  unfold f_X12_back_16 at hf
  refine go_iconst (-1) dX12_back_16 (by decide) ?_
  cases hf
  exact go_iret rfl dX12_back_17 (Nat.le_refl _) ⟨rfl, rfl⟩
set_option maxRecDepth 100000 in
set_option maxHeartbeats 4000000 in
theorem v_X12_back_20 {N : Nat} {Γ : SG} {ρ : Nat → Nat → Nat} (hs : Sh Γ ρ) {this : Nat} {a1 : Int32} (h0 : Γ[this]? = some (0, 12)) {n0 : Nat} {r : Int32} {σr : St} (rec20 : Int32 → St → Option (Int32 × St)) (hrec20 : ∀ (x2 : Int32) (σ : St), rec20 x2 σ = some (r, σr) → Go mX12_back 1 0 0 n0 (Ki Γ ρ r σr) 0 0 20 [some (.ref this), some (.int a1), some (.int x2)] [] (hp Γ ρ σ)) (x2 : Int32) (σ : St) (hf : b_X12_back_20 N ρ this a1 rec20 x2 σ = some (r, σr)) : Go mX12_back 1 0 0 n0 (Ki Γ ρ r σr) 0 0 20 [some (.ref this), some (.int a1), some (.int x2)] [] (hp Γ ρ σ) := by
  unfold b_X12_back_20 at hf
  refine go_iload_n 2 dX12_back_20 rfl rfl ?_
  refine go_bipush 22 dX12_back_21 (by decide) ?_
  refine go_icmp_ge 49 dX12_back_23 (by decide) (fun c1 => ?_) (fun c1 => ?_)
  · replace hf := (if_pos c1).symm.trans hf
    refine go_aload_n 0 dX12_back_49 rfl rfl ?_
    refine go_iconst 0 dX12_back_50 (by decide) ?_
    obtain ⟨σ2, eσ2, hf⟩ := nmd_some hf
    refine go_pI fl_X12_410 ft_12_62 (okv_i _) dX12_back_51 h0 (by decide) rfl ?_
    rw [eσ2]
    refine go_aload_n 0 dX12_back_54 rfl rfl ?_
    refine go_iconst 0 dX12_back_55 (by decide) ?_
    obtain ⟨σ3, eσ3, hf⟩ := nmd_some hf
    refine go_pI fl_X12_413 ft_12_63 (okv_i _) dX12_back_56 h0 (by decide) rfl ?_
    rw [eσ3]
    refine go_aload_n 0 dX12_back_59 rfl rfl ?_
    refine go_fR fl_X12_103 dX12_back_60 h0 (by decide) rfl ?_
    refine go_bipush 20 dX12_back_63 (by decide) ?_
    obtain ⟨g4, hf⟩ := gd_some hf
    refine go_rI dX12_back_65 (hs.1 _ 12 56 h0 rfl) (ib_in g4) ?_
    cases hf
    exact go_iret rfl dX12_back_66 (Nat.le_refl _) ⟨rfl, rfl⟩
  · replace hf := (if_neg c1).symm.trans hf
    refine go_aload_n 0 dX12_back_26 rfl rfl ?_
    refine go_fR fl_X12_103 dX12_back_27 h0 (by decide) rfl ?_
    refine go_iload_n 2 dX12_back_30 rfl rfl ?_
    refine go_aload_n 0 dX12_back_31 rfl rfl ?_
    refine go_fR fl_X12_163 dX12_back_32 h0 (by decide) rfl ?_
    refine go_bipush 22 dX12_back_35 (by decide) ?_
    refine go_iload_n 1 dX12_back_37 rfl rfl ?_
    refine go_imul dX12_back_38 ?_
    refine go_iload_n 2 dX12_back_39 rfl rfl ?_
    refine go_iadd dX12_back_40 ?_
    obtain ⟨g5, hf⟩ := gd_some hf
    refine go_rI dX12_back_41 (hs.1 _ 12 81 h0 rfl) (ib_in g5) ?_
    obtain ⟨g6, hf⟩ := gd_some hf
    obtain ⟨σ7, eσ7, hf⟩ := nmd_some hf
    refine go_wI dX12_back_42 (hs.1 _ 12 56 h0 rfl) (ib_in g6) ?_
    rw [eσ7]
    refine go_iinc (x2 + 1) [some (.ref this), some (.int a1), some (.int (x2 + 1))] dX12_back_43 rfl rfl (by decide) rfl ?_
    refine go_goto 20 dX12_back_46 (by decide) ?_
    exact hrec20 (x2 + 1) σ7 hf
theorem w_X12_back_20 {N : Nat} {Γ : SG} {ρ : Nat → Nat → Nat} (hs : Sh Γ ρ) {this : Nat} {a1 : Int32} (h0 : Γ[this]? = some (0, 12)) {n0 : Nat} {r : Int32} {σr : St} : ∀ (n : Nat) (x2 : Int32) (σ : St), f_X12_back_20 N ρ this a1 n x2 σ = some (r, σr) → Go mX12_back 1 0 0 n0 (Ki Γ ρ r σr) 0 0 20 [some (.ref this), some (.int a1), some (.int x2)] [] (hp Γ ρ σ) := by
  intro n
  induction n with
  | zero => intro x2 σ hf; cases hf
  | succ n ih => intro x2 σ hf; exact v_X12_back_20 hs h0 _ ih x2 σ hf
set_option maxRecDepth 100000 in
set_option maxHeartbeats 4000000 in
theorem t_X12_back {N : Nat} {Γ : SG} {ρ : Nat → Nat → Nat} (hs : Sh Γ ρ) {this : Nat} {a1 : Int32} (h0 : Γ[this]? = some (0, 12)) {σ : St} {r : Int32} {σr : St} (hf : f_X12_back N ρ this a1 σ = some (r, σr)) : Tri mX12_back 1 0 0 [.ref this, .int a1] (hp Γ ρ σ) (Ki Γ ρ r σr) := by
  unfold f_X12_back at hf
  refine tri_of [some (.ref this), some (.int a1), none] (plainFor_of_name rfl) rfl (Nat.le_of_ble_eq_true rfl) ?_
  refine go_iload_n 1 dX12_back_0 rfl rfl ?_
  obtain ⟨r8, σ9, q10, hf⟩ := bnd_some hf
  refine go_Si (av := [.int a1]) (rest := []) (t_X12_isBox hs  q10) ok_X12_isBox ml_X12_544 dX12_back_1 rfl rfl (by decide) (Nat.le_refl _) (Nat.le_refl _) (Nat.le_of_ble_eq_true rfl) ?_
  refine go_if_eq 16 dX12_back_4 (by decide) (fun c11 => ?_) (fun c11 => ?_)
  · replace hf := (if_pos c11).symm.trans hf
    refine go_msk [false, false, false] [none, none, none] rfl ?_
    exact w_X12_back_16 hs h0 σ9 hf
  · replace hf := (if_neg c11).symm.trans hf
    refine go_aload_n 0 dX12_back_7 rfl rfl ?_
    refine go_fR fl_X12_160 dX12_back_8 h0 (by decide) rfl ?_
    refine go_iload_n 1 dX12_back_11 rfl rfl ?_
    obtain ⟨g12, hf⟩ := gd_some hf
    refine go_rZ dX12_back_12 (hs.1 _ 12 80 h0 rfl) (ib_in g12) ?_
    refine go_if_ne 18 dX12_back_13 (by decide) (fun c13 => ?_) (fun c13 => ?_)
    · replace hf := (if_neg c13).symm.trans hf
      refine go_iconst 0 dX12_back_18 (by decide) ?_
      refine go_istore_n 2 [some (.ref this), some (.int a1), some (.int 0)] dX12_back_19 rfl (by decide) rfl ?_
      exact w_X12_back_20 hs h0 N 0 σ9 hf
    · replace hf := (if_pos c13).symm.trans hf
      refine go_msk [false, false, false] [none, none, none] rfl ?_
      exact w_X12_back_16 hs h0 σ9 hf
def f_X12_about (N : Nat) (ρ : Nat → Nat → Nat) (this : Nat) (a1 : Int32) (σ : St) : Option (Int32 × St) :=
  if (a1 : Int32) = 0 then
    some (σ.1 this 50, σ)
  else
  if (a1 : Int32) = 1 then
    some (σ.1 this 49, σ)
  else
  if (a1 : Int32) = 2 then
    some (σ.1 this 51, σ)
  else
  if (a1 : Int32) = 3 then
    some (σ.1 this 52, σ)
  else
  if (a1 : Int32) = 4 then
    gd (ib 20 22) <|
    some (σ.1 (ρ this 56) (20 : Int32).toNatClampNeg, σ)
  else
  if (a1 : Int32) = 5 then
    gd (ib 21 22) <|
    some (σ.1 (ρ this 56) (21 : Int32).toNatClampNeg, σ)
  else
  if (a1 : Int32) = 6 then
    some (σ.1 this 62, σ)
  else
  if (a1 : Int32) = 7 then
    some (σ.1 this 63, σ)
  else
  if (a1 : Int32) = 8 then
    some (σ.1 this 74, σ)
  else
  if (a1 : Int32) = 9 then
    some (σ.1 this 75, σ)
  else
  if (a1 : Int32) = 10 then
    some (σ.1 this 1, σ)
  else
  if (a1 : Int32) = 11 then
    some (σ.1 this 23, σ)
  else
  if (a1 : Int32) = 12 then
    some (σ.1 this 65, σ)
  else
    some ((-1), σ)
set_option maxRecDepth 100000 in
set_option maxHeartbeats 4000000 in
theorem t_X12_about {N : Nat} {Γ : SG} {ρ : Nat → Nat → Nat} (hs : Sh Γ ρ) {this : Nat} {a1 : Int32} (h0 : Γ[this]? = some (0, 12)) {σ : St} {r : Int32} {σr : St} (hf : f_X12_about N ρ this a1 σ = some (r, σr)) : Tri mX12_about 0 0 0 [.ref this, .int a1] (hp Γ ρ σ) (Ki Γ ρ r σr) := by
  unfold f_X12_about at hf
  refine tri_of [some (.ref this), some (.int a1)] (plainFor_of_name rfl) rfl (Nat.le_of_ble_eq_true rfl) ?_
  refine go_iload_n 1 dX12_about_0 rfl rfl ?_
  by_cases c1 : (a1 : Int32) = 0
  · replace hf := (if_pos c1).symm.trans hf
    refine go_tableIn 68 dX12_about_1 (by rw [c1]; decide) (by rw [c1]; decide) (by rw [c1]; rfl) (by decide) ?_
    refine go_aload_n 0 dX12_about_68 rfl rfl ?_
    refine go_fI fl_X12_395 dX12_about_69 h0 (by decide) rfl ?_
    cases hf
    exact go_iret rfl dX12_about_72 (Nat.le_refl _) ⟨rfl, rfl⟩
  replace hf := (if_neg c1).symm.trans hf
  by_cases c2 : (a1 : Int32) = 1
  · replace hf := (if_pos c2).symm.trans hf
    refine go_tableIn 73 dX12_about_1 (by rw [c2]; decide) (by rw [c2]; decide) (by rw [c2]; rfl) (by decide) ?_
    refine go_aload_n 0 dX12_about_73 rfl rfl ?_
    refine go_fI fl_X12_392 dX12_about_74 h0 (by decide) rfl ?_
    cases hf
    exact go_iret rfl dX12_about_77 (Nat.le_refl _) ⟨rfl, rfl⟩
  replace hf := (if_neg c2).symm.trans hf
  by_cases c3 : (a1 : Int32) = 2
  · replace hf := (if_pos c3).symm.trans hf
    refine go_tableIn 78 dX12_about_1 (by rw [c3]; decide) (by rw [c3]; decide) (by rw [c3]; rfl) (by decide) ?_
    refine go_aload_n 0 dX12_about_78 rfl rfl ?_
    refine go_fI fl_X12_100 dX12_about_79 h0 (by decide) rfl ?_
    cases hf
    exact go_iret rfl dX12_about_82 (Nat.le_refl _) ⟨rfl, rfl⟩
  replace hf := (if_neg c3).symm.trans hf
  by_cases c4 : (a1 : Int32) = 3
  · replace hf := (if_pos c4).symm.trans hf
    refine go_tableIn 83 dX12_about_1 (by rw [c4]; decide) (by rw [c4]; decide) (by rw [c4]; rfl) (by decide) ?_
    refine go_aload_n 0 dX12_about_83 rfl rfl ?_
    refine go_fI fl_X12_398 dX12_about_84 h0 (by decide) rfl ?_
    cases hf
    exact go_iret rfl dX12_about_87 (Nat.le_refl _) ⟨rfl, rfl⟩
  replace hf := (if_neg c4).symm.trans hf
  by_cases c5 : (a1 : Int32) = 4
  · replace hf := (if_pos c5).symm.trans hf
    refine go_tableIn 88 dX12_about_1 (by rw [c5]; decide) (by rw [c5]; decide) (by rw [c5]; rfl) (by decide) ?_
    refine go_aload_n 0 dX12_about_88 rfl rfl ?_
    refine go_fR fl_X12_103 dX12_about_89 h0 (by decide) rfl ?_
    refine go_bipush 20 dX12_about_92 (by decide) ?_
    obtain ⟨g6, hf⟩ := gd_some hf
    refine go_rI dX12_about_94 (hs.1 _ 12 56 h0 rfl) (ib_in g6) ?_
    cases hf
    exact go_iret rfl dX12_about_95 (Nat.le_refl _) ⟨rfl, rfl⟩
  replace hf := (if_neg c5).symm.trans hf
  by_cases c7 : (a1 : Int32) = 5
  · replace hf := (if_pos c7).symm.trans hf
    refine go_tableIn 96 dX12_about_1 (by rw [c7]; decide) (by rw [c7]; decide) (by rw [c7]; rfl) (by decide) ?_
    refine go_aload_n 0 dX12_about_96 rfl rfl ?_
    refine go_fR fl_X12_103 dX12_about_97 h0 (by decide) rfl ?_
    refine go_bipush 21 dX12_about_100 (by decide) ?_
    obtain ⟨g8, hf⟩ := gd_some hf
    refine go_rI dX12_about_102 (hs.1 _ 12 56 h0 rfl) (ib_in g8) ?_
    cases hf
    exact go_iret rfl dX12_about_103 (Nat.le_refl _) ⟨rfl, rfl⟩
  replace hf := (if_neg c7).symm.trans hf
  by_cases c9 : (a1 : Int32) = 6
  · replace hf := (if_pos c9).symm.trans hf
    refine go_tableIn 104 dX12_about_1 (by rw [c9]; decide) (by rw [c9]; decide) (by rw [c9]; rfl) (by decide) ?_
    refine go_aload_n 0 dX12_about_104 rfl rfl ?_
    refine go_fI fl_X12_410 dX12_about_105 h0 (by decide) rfl ?_
    cases hf
    exact go_iret rfl dX12_about_108 (Nat.le_refl _) ⟨rfl, rfl⟩
  replace hf := (if_neg c9).symm.trans hf
  by_cases c10 : (a1 : Int32) = 7
  · replace hf := (if_pos c10).symm.trans hf
    refine go_tableIn 109 dX12_about_1 (by rw [c10]; decide) (by rw [c10]; decide) (by rw [c10]; rfl) (by decide) ?_
    refine go_aload_n 0 dX12_about_109 rfl rfl ?_
    refine go_fI fl_X12_413 dX12_about_110 h0 (by decide) rfl ?_
    cases hf
    exact go_iret rfl dX12_about_113 (Nat.le_refl _) ⟨rfl, rfl⟩
  replace hf := (if_neg c10).symm.trans hf
  by_cases c11 : (a1 : Int32) = 8
  · replace hf := (if_pos c11).symm.trans hf
    refine go_tableIn 114 dX12_about_1 (by rw [c11]; decide) (by rw [c11]; decide) (by rw [c11]; rfl) (by decide) ?_
    refine go_aload_n 0 dX12_about_114 rfl rfl ?_
    refine go_fI fl_X12_416 dX12_about_115 h0 (by decide) rfl ?_
    cases hf
    exact go_iret rfl dX12_about_118 (Nat.le_refl _) ⟨rfl, rfl⟩
  replace hf := (if_neg c11).symm.trans hf
  by_cases c12 : (a1 : Int32) = 9
  · replace hf := (if_pos c12).symm.trans hf
    refine go_tableIn 119 dX12_about_1 (by rw [c12]; decide) (by rw [c12]; decide) (by rw [c12]; rfl) (by decide) ?_
    refine go_aload_n 0 dX12_about_119 rfl rfl ?_
    refine go_fI fl_X12_527 dX12_about_120 h0 (by decide) rfl ?_
    cases hf
    exact go_iret rfl dX12_about_123 (Nat.le_refl _) ⟨rfl, rfl⟩
  replace hf := (if_neg c12).symm.trans hf
  by_cases c13 : (a1 : Int32) = 10
  · replace hf := (if_pos c13).symm.trans hf
    refine go_tableIn 124 dX12_about_1 (by rw [c13]; decide) (by rw [c13]; decide) (by rw [c13]; rfl) (by decide) ?_
    refine go_aload_n 0 dX12_about_124 rfl rfl ?_
    refine go_fI fl_X12_166 dX12_about_125 h0 (by decide) rfl ?_
    cases hf
    exact go_iret rfl dX12_about_128 (Nat.le_refl _) ⟨rfl, rfl⟩
  replace hf := (if_neg c13).symm.trans hf
  by_cases c14 : (a1 : Int32) = 11
  · replace hf := (if_pos c14).symm.trans hf
    refine go_tableIn 129 dX12_about_1 (by rw [c14]; decide) (by rw [c14]; decide) (by rw [c14]; rfl) (by decide) ?_
    refine go_aload_n 0 dX12_about_129 rfl rfl ?_
    refine go_fI fl_X12_401 dX12_about_130 h0 (by decide) rfl ?_
    cases hf
    exact go_iret rfl dX12_about_133 (Nat.le_refl _) ⟨rfl, rfl⟩
  replace hf := (if_neg c14).symm.trans hf
  by_cases c15 : (a1 : Int32) = 12
  · replace hf := (if_pos c15).symm.trans hf
    refine go_tableIn 134 dX12_about_1 (by rw [c15]; decide) (by rw [c15]; decide) (by rw [c15]; rfl) (by decide) ?_
    refine go_aload_n 0 dX12_about_134 rfl rfl ?_
    refine go_fI fl_X12_419 dX12_about_135 h0 (by decide) rfl ?_
    cases hf
    exact go_iret rfl dX12_about_138 (Nat.le_refl _) ⟨rfl, rfl⟩
  replace hf := (if_neg c15).symm.trans hf
  refine go_tableOut 139 dX12_about_1 (tab_out 0 12 [0, 1, 2, 3, 4, 5, 6, 7, 8, 9, 10, 11, 12] (by decide) (by simp only [List.forall_mem_cons]; exact ⟨c1, c2, c3, c4, c5, c7, c9, c10, c11, c12, c13, c14, c15, by simp⟩)) (by decide) ?_
  refine go_iconst (-1) dX12_about_139 (by decide) ?_
  cases hf
  exact go_iret rfl dX12_about_140 (Nat.le_refl _) ⟨rfl, rfl⟩
