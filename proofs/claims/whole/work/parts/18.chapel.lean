def f_X0_clear (N : Nat) (ρ : Nat → Nat → Nat) (this : Nat) (σ : St) : Option (Int32 × St) :=
  nmd (sI σ this 11 0) fun σ1 =>
  nmd (sI σ1 this 12 0) fun σ2 =>
  nmd (sI σ2 this 13 7) fun σ3 =>
  nmd (sI σ3 this 14 0) fun σ4 =>
  nmd (sI σ4 this 15 0) fun σ5 =>
  bnd (f_X1_clear N ρ (ρ this 8) σ5) fun _ σ7 =>
  bnd (f_X1_clear N ρ (ρ this 9) σ7) fun _ σ10 =>
  some (0, σ10)
set_option maxRecDepth 100000 in
set_option maxHeartbeats 4000000 in
theorem t_X0_clear {N : Nat} {Γ : SG} {ρ : Nat → Nat → Nat} (hs : Sh Γ ρ) {this : Nat} (h0 : Γ[this]? = some (0, 0)) {σ : St} {r : Int32} {σr : St} (hf : f_X0_clear N ρ this σ = some (r, σr)) : Tri mX0_clear 1 0 0 [.ref this] (hp Γ ρ σ) (Kv Γ ρ σr) := by
  unfold f_X0_clear at hf
  refine tri_of [some (.ref this)] (plainFor_of_name rfl) rfl (Nat.le_of_ble_eq_true rfl) ?_
  refine go_aload_n 0 dX0_clear_0 rfl rfl ?_
  refine go_iconst 0 dX0_clear_1 (by decide) ?_
  obtain ⟨σ1, eσ1, hf⟩ := nmd_some hf
  refine go_pI fl_X0_51 ft_0_11 (okv_i _) dX0_clear_2 h0 (by decide) rfl ?_
  rw [eσ1]
  refine go_aload_n 0 dX0_clear_5 rfl rfl ?_
  refine go_iconst 0 dX0_clear_6 (by decide) ?_
  obtain ⟨σ2, eσ2, hf⟩ := nmd_some hf
  refine go_pI fl_X0_55 ft_0_12 (okv_i _) dX0_clear_7 h0 (by decide) rfl ?_
  rw [eσ2]
  refine go_aload_n 0 dX0_clear_10 rfl rfl ?_
  refine go_bipush 7 dX0_clear_11 (by decide) ?_
  obtain ⟨σ3, eσ3, hf⟩ := nmd_some hf
  refine go_pI fl_X0_58 ft_0_13 (okv_i _) dX0_clear_13 h0 (by decide) rfl ?_
  rw [eσ3]
  refine go_aload_n 0 dX0_clear_16 rfl rfl ?_
  refine go_iconst 0 dX0_clear_17 (by decide) ?_
  obtain ⟨σ4, eσ4, hf⟩ := nmd_some hf
  refine go_pI fl_X0_61 ft_0_14 (okv_i _) dX0_clear_18 h0 (by decide) rfl ?_
  rw [eσ4]
  refine go_aload_n 0 dX0_clear_21 rfl rfl ?_
  refine go_iconst 0 dX0_clear_22 (by decide) ?_
  obtain ⟨σ5, eσ5, hf⟩ := nmd_some hf
  refine go_pI fl_X0_64 ft_0_15 (okv_i _) dX0_clear_23 h0 (by decide) rfl ?_
  rw [eσ5]
  refine go_aload_n 0 dX0_clear_26 rfl rfl ?_
  refine go_fR fl_X0_39 dX0_clear_27 h0 (by decide) rfl ?_
  obtain ⟨r6, σ7, q8, hf⟩ := bnd_some hf
  refine go_Vv (av := []) (rest := []) (t_X1_clear hs (hs.1 _ 0 8 h0 rfl) q8) ok_X1_clear ml_X0_67 dX0_clear_30 (hs.1 _ 0 8 h0 rfl) rfl rfl (by decide) (Nat.le_refl _) (Nat.le_refl _) (Nat.le_of_ble_eq_true rfl) ?_
  refine go_aload_n 0 dX0_clear_33 rfl rfl ?_
  refine go_fR fl_X0_43 dX0_clear_34 h0 (by decide) rfl ?_
  obtain ⟨r9, σ10, q11, hf⟩ := bnd_some hf
  refine go_Vv (av := []) (rest := []) (t_X1_clear hs (hs.1 _ 0 9 h0 rfl) q11) ok_X1_clear ml_X0_67 dX0_clear_37 (hs.1 _ 0 9 h0 rfl) rfl rfl (by decide) (Nat.le_refl _) (Nat.le_refl _) (Nat.le_of_ble_eq_true rfl) ?_
  cases hf
  exact go_vret rfl dX0_clear_40 (Nat.le_refl _) ⟨rfl, rfl⟩
def f_X0_hasHearth_23 (N : Nat) (ρ : Nat → Nat → Nat) (this : Nat) (a1 : Int32) (s0 : Int32) (σ : St) : Option (Int32 × St) :=
  gd (bb s0) <|
  some (s0, σ)
def f_X0_hasHearth_22 (N : Nat) (ρ : Nat → Nat → Nat) (this : Nat) (a1 : Int32) (σ : St) : Option (Int32 × St) :=
  f_X0_hasHearth_23 N ρ this a1 0 σ
def f_X0_hasHearth (N : Nat) (ρ : Nat → Nat → Nat) (this : Nat) (a1 : Int32) (σ : St) : Option (Int32 × St) :=
  if (a1 : Int32) < 0 then
    f_X0_hasHearth_22 N ρ this a1 σ
  else
    if (σ.1 this 11) ≤ (a1 : Int32) then
      f_X0_hasHearth_22 N ρ this a1 σ
    else
      if 6 ≤ (a1 : Int32) then
        f_X0_hasHearth_22 N ρ this a1 σ
      else
        f_X0_hasHearth_23 N ρ this a1 1 σ
set_option maxRecDepth 100000 in
set_option maxHeartbeats 4000000 in
theorem w_X0_hasHearth_23 {N : Nat} {Γ : SG} {ρ : Nat → Nat → Nat} (hs : Sh Γ ρ) {this : Nat} {a1 : Int32} (h0 : Γ[this]? = some (0, 0)) {n0 : Nat} {r : Int32} {σr : St} (s0 : Int32) (σ : St) (hf : f_X0_hasHearth_23 N ρ this a1 s0 σ = some (r, σr)) : Go mX0_hasHearth 0 0 0 n0 (Ki Γ ρ r σr) 0 0 23 [none, none] [.int s0] (hp Γ ρ σ) := by
  unfold f_X0_hasHearth_23 at hf
  obtain ⟨g1, hf⟩ := gd_some hf
  cases hf
  exact go_zret rfl (bb_of g1) dX0_hasHearth_23 (Nat.le_refl _) ⟨rfl, rfl⟩
set_option maxRecDepth 100000 in
set_option maxHeartbeats 4000000 in
theorem w_X0_hasHearth_22 {N : Nat} {Γ : SG} {ρ : Nat → Nat → Nat} (hs : Sh Γ ρ) {this : Nat} {a1 : Int32} (h0 : Γ[this]? = some (0, 0)) {n0 : Nat} {r : Int32} {σr : St} (σ : St) (hf : f_X0_hasHearth_22 N ρ this a1 σ = some (r, σr)) : Go mX0_hasHearth 0 0 0 n0 (Ki Γ ρ r σr) 0 0 22 [none, none] [] (hp Γ ρ σ) := by
  unfold f_X0_hasHearth_22 at hf
  refine go_iconst 0 dX0_hasHearth_22 (by decide) ?_
  exact w_X0_hasHearth_23 hs h0 0 σ hf
set_option maxRecDepth 100000 in
set_option maxHeartbeats 4000000 in
theorem t_X0_hasHearth {N : Nat} {Γ : SG} {ρ : Nat → Nat → Nat} (hs : Sh Γ ρ) {this : Nat} {a1 : Int32} (h0 : Γ[this]? = some (0, 0)) {σ : St} {r : Int32} {σr : St} (hf : f_X0_hasHearth N ρ this a1 σ = some (r, σr)) : Tri mX0_hasHearth 0 0 0 [.ref this, .int a1] (hp Γ ρ σ) (Ki Γ ρ r σr) := by
  unfold f_X0_hasHearth at hf
  refine tri_of [some (.ref this), some (.int a1)] (plainFor_of_name rfl) rfl (Nat.le_of_ble_eq_true rfl) ?_
  refine go_iload_n 1 dX0_hasHearth_0 rfl rfl ?_
  refine go_if_lt 22 dX0_hasHearth_1 (by decide) (fun c2 => ?_) (fun c2 => ?_)
  · replace hf := (if_pos c2).symm.trans hf
    refine go_msk [false, false] [none, none] rfl ?_
    exact w_X0_hasHearth_22 hs h0 σ hf
  · replace hf := (if_neg c2).symm.trans hf
    refine go_iload_n 1 dX0_hasHearth_4 rfl rfl ?_
    refine go_aload_n 0 dX0_hasHearth_5 rfl rfl ?_
    refine go_fI fl_X0_51 dX0_hasHearth_6 h0 (by decide) rfl ?_
    refine go_icmp_ge 22 dX0_hasHearth_9 (by decide) (fun c3 => ?_) (fun c3 => ?_)
    · replace hf := (if_pos c3).symm.trans hf
      refine go_msk [false, false] [none, none] rfl ?_
      exact w_X0_hasHearth_22 hs h0 σ hf
    · replace hf := (if_neg c3).symm.trans hf
      refine go_iload_n 1 dX0_hasHearth_12 rfl rfl ?_
      refine go_bipush 6 dX0_hasHearth_13 (by decide) ?_
      refine go_icmp_ge 22 dX0_hasHearth_15 (by decide) (fun c4 => ?_) (fun c4 => ?_)
      · replace hf := (if_pos c4).symm.trans hf
        refine go_msk [false, false] [none, none] rfl ?_
        exact w_X0_hasHearth_22 hs h0 σ hf
      · replace hf := (if_neg c4).symm.trans hf
        refine go_iconst 1 dX0_hasHearth_18 (by decide) ?_
        refine go_goto 23 dX0_hasHearth_19 (by decide) ?_
        refine go_msk [false, false] [none, none] rfl ?_
        exact w_X0_hasHearth_23 hs h0 1 σ hf
def f_X0_hasStool_22 (N : Nat) (ρ : Nat → Nat → Nat) (this : Nat) (a1 : Int32) (s0 : Int32) (σ : St) : Option (Int32 × St) :=
  gd (bb s0) <|
  some (s0, σ)
def f_X0_hasStool_21 (N : Nat) (ρ : Nat → Nat → Nat) (this : Nat) (a1 : Int32) (σ : St) : Option (Int32 × St) :=
  f_X0_hasStool_22 N ρ this a1 0 σ
def f_X0_hasStool (N : Nat) (ρ : Nat → Nat → Nat) (this : Nat) (a1 : Int32) (σ : St) : Option (Int32 × St) :=
  if (a1 : Int32) < 0 then
    f_X0_hasStool_21 N ρ this a1 σ
  else
    if (σ.1 this 12) ≤ (a1 : Int32) then
      f_X0_hasStool_21 N ρ this a1 σ
    else
      if 5 ≤ (a1 : Int32) then
        f_X0_hasStool_21 N ρ this a1 σ
      else
        f_X0_hasStool_22 N ρ this a1 1 σ
set_option maxRecDepth 100000 in
set_option maxHeartbeats 4000000 in
theorem w_X0_hasStool_22 {N : Nat} {Γ : SG} {ρ : Nat → Nat → Nat} (hs : Sh Γ ρ) {this : Nat} {a1 : Int32} (h0 : Γ[this]? = some (0, 0)) {n0 : Nat} {r : Int32} {σr : St} (s0 : Int32) (σ : St) (hf : f_X0_hasStool_22 N ρ this a1 s0 σ = some (r, σr)) : Go mX0_hasStool 0 0 0 n0 (Ki Γ ρ r σr) 0 0 22 [none, none] [.int s0] (hp Γ ρ σ) := by
  unfold f_X0_hasStool_22 at hf
  obtain ⟨g1, hf⟩ := gd_some hf
  cases hf
  exact go_zret rfl (bb_of g1) dX0_hasStool_22 (Nat.le_refl _) ⟨rfl, rfl⟩
set_option maxRecDepth 100000 in
set_option maxHeartbeats 4000000 in
theorem w_X0_hasStool_21 {N : Nat} {Γ : SG} {ρ : Nat → Nat → Nat} (hs : Sh Γ ρ) {this : Nat} {a1 : Int32} (h0 : Γ[this]? = some (0, 0)) {n0 : Nat} {r : Int32} {σr : St} (σ : St) (hf : f_X0_hasStool_21 N ρ this a1 σ = some (r, σr)) : Go mX0_hasStool 0 0 0 n0 (Ki Γ ρ r σr) 0 0 21 [none, none] [] (hp Γ ρ σ) := by
  unfold f_X0_hasStool_21 at hf
  refine go_iconst 0 dX0_hasStool_21 (by decide) ?_
  exact w_X0_hasStool_22 hs h0 0 σ hf
set_option maxRecDepth 100000 in
set_option maxHeartbeats 4000000 in
theorem t_X0_hasStool {N : Nat} {Γ : SG} {ρ : Nat → Nat → Nat} (hs : Sh Γ ρ) {this : Nat} {a1 : Int32} (h0 : Γ[this]? = some (0, 0)) {σ : St} {r : Int32} {σr : St} (hf : f_X0_hasStool N ρ this a1 σ = some (r, σr)) : Tri mX0_hasStool 0 0 0 [.ref this, .int a1] (hp Γ ρ σ) (Ki Γ ρ r σr) := by
  unfold f_X0_hasStool at hf
  refine tri_of [some (.ref this), some (.int a1)] (plainFor_of_name rfl) rfl (Nat.le_of_ble_eq_true rfl) ?_
  refine go_iload_n 1 dX0_hasStool_0 rfl rfl ?_
  refine go_if_lt 21 dX0_hasStool_1 (by decide) (fun c2 => ?_) (fun c2 => ?_)
  · replace hf := (if_pos c2).symm.trans hf
    refine go_msk [false, false] [none, none] rfl ?_
    exact w_X0_hasStool_21 hs h0 σ hf
  · replace hf := (if_neg c2).symm.trans hf
    refine go_iload_n 1 dX0_hasStool_4 rfl rfl ?_
    refine go_aload_n 0 dX0_hasStool_5 rfl rfl ?_
    refine go_fI fl_X0_55 dX0_hasStool_6 h0 (by decide) rfl ?_
    refine go_icmp_ge 21 dX0_hasStool_9 (by decide) (fun c3 => ?_) (fun c3 => ?_)
    · replace hf := (if_pos c3).symm.trans hf
      refine go_msk [false, false] [none, none] rfl ?_
      exact w_X0_hasStool_21 hs h0 σ hf
    · replace hf := (if_neg c3).symm.trans hf
      refine go_iload_n 1 dX0_hasStool_12 rfl rfl ?_
      refine go_iconst 5 dX0_hasStool_13 (by decide) ?_
      refine go_icmp_ge 21 dX0_hasStool_14 (by decide) (fun c4 => ?_) (fun c4 => ?_)
      · replace hf := (if_pos c4).symm.trans hf
        refine go_msk [false, false] [none, none] rfl ?_
        exact w_X0_hasStool_21 hs h0 σ hf
      · replace hf := (if_neg c4).symm.trans hf
        refine go_iconst 1 dX0_hasStool_17 (by decide) ?_
        refine go_goto 22 dX0_hasStool_18 (by decide) ?_
        refine go_msk [false, false] [none, none] rfl ?_
        exact w_X0_hasStool_22 hs h0 1 σ hf
def f_X0_allStools (N : Nat) (ρ : Nat → Nat → Nat) (this : Nat) (σ : St) : Option (Int32 × St) :=
  some ((1 <<< ((σ.1 this 12) &&& 31)) - 1, σ)
set_option maxRecDepth 100000 in
set_option maxHeartbeats 4000000 in
theorem t_X0_allStools {N : Nat} {Γ : SG} {ρ : Nat → Nat → Nat} (hs : Sh Γ ρ) {this : Nat} (h0 : Γ[this]? = some (0, 0)) {σ : St} {r : Int32} {σr : St} (hf : f_X0_allStools N ρ this σ = some (r, σr)) : Tri mX0_allStools 0 0 0 [.ref this] (hp Γ ρ σ) (Ki Γ ρ r σr) := by
  unfold f_X0_allStools at hf
  refine tri_of [some (.ref this)] (plainFor_of_name rfl) rfl (Nat.le_of_ble_eq_true rfl) ?_
  refine go_iconst 1 dX0_allStools_0 (by decide) ?_
  refine go_aload_n 0 dX0_allStools_1 rfl rfl ?_
  refine go_fI fl_X0_55 dX0_allStools_2 h0 (by decide) rfl ?_
  refine go_ishl dX0_allStools_5 ?_
  refine go_iconst 1 dX0_allStools_6 (by decide) ?_
  refine go_isub dX0_allStools_7 ?_
  cases hf
  exact go_iret rfl dX0_allStools_8 (Nat.le_refl _) ⟨rfl, rfl⟩
def f_X0_wayOf_36 (N : Nat) (ρ : Nat → Nat → Nat) (this : Nat) (a1 : Int32) (a2 : Int32) (s0 : Int32) (σ : St) : Option (Int32 × St) :=
  some (s0, σ)
def f_X0_wayOf_35 (N : Nat) (ρ : Nat → Nat → Nat) (this : Nat) (a1 : Int32) (a2 : Int32) (σ : St) : Option (Int32 × St) :=
  f_X0_wayOf_36 N ρ this a1 a2 0 σ
def f_X0_wayOf (N : Nat) (ρ : Nat → Nat → Nat) (this : Nat) (a1 : Int32) (a2 : Int32) (σ : St) : Option (Int32 × St) :=
  bnd (f_X0_hasStool N ρ this a1 σ) fun r1 σ2 =>
  if (r1 : Int32) = 0 then
    f_X0_wayOf_35 N ρ this a1 a2 σ2
  else
    bnd (f_X0_hasHearth N ρ this a2 σ2) fun r5 σ6 =>
    if (r5 : Int32) = 0 then
      f_X0_wayOf_35 N ρ this a1 a2 σ6
    else
      gd (ib a1 5) <|
      gd (ib a2 6) <|
      f_X0_wayOf_36 N ρ this a1 a2 (mabs ((σ6.1 (ρ this 4) a1.toNatClampNeg) - (σ6.1 (ρ this 0) a2.toNatClampNeg))) σ6
set_option maxRecDepth 100000 in
set_option maxHeartbeats 4000000 in
theorem w_X0_wayOf_36 {N : Nat} {Γ : SG} {ρ : Nat → Nat → Nat} (hs : Sh Γ ρ) {this : Nat} {a1 : Int32} {a2 : Int32} (h0 : Γ[this]? = some (0, 0)) {n0 : Nat} {r : Int32} {σr : St} (s0 : Int32) (σ : St) (hf : f_X0_wayOf_36 N ρ this a1 a2 s0 σ = some (r, σr)) : Go mX0_wayOf 1 0 0 n0 (Ki Γ ρ r σr) 0 0 36 [none, none, none] [.int s0] (hp Γ ρ σ) := by
  unfold f_X0_wayOf_36 at hf
  cases hf
  exact go_iret rfl dX0_wayOf_36 (Nat.le_refl _) ⟨rfl, rfl⟩
set_option maxRecDepth 100000 in
set_option maxHeartbeats 4000000 in
theorem w_X0_wayOf_35 {N : Nat} {Γ : SG} {ρ : Nat → Nat → Nat} (hs : Sh Γ ρ) {this : Nat} {a1 : Int32} {a2 : Int32} (h0 : Γ[this]? = some (0, 0)) {n0 : Nat} {r : Int32} {σr : St} (σ : St) (hf : f_X0_wayOf_35 N ρ this a1 a2 σ = some (r, σr)) : Go mX0_wayOf 1 0 0 n0 (Ki Γ ρ r σr) 0 0 35 [none, none, none] [] (hp Γ ρ σ) := by
  unfold f_X0_wayOf_35 at hf
  refine go_iconst 0 dX0_wayOf_35 (by decide) ?_
  exact w_X0_wayOf_36 hs h0 0 σ hf
set_option maxRecDepth 100000 in
set_option maxHeartbeats 4000000 in
theorem t_X0_wayOf {N : Nat} {Γ : SG} {ρ : Nat → Nat → Nat} (hs : Sh Γ ρ) {this : Nat} {a1 : Int32} {a2 : Int32} (h0 : Γ[this]? = some (0, 0)) {σ : St} {r : Int32} {σr : St} (hf : f_X0_wayOf N ρ this a1 a2 σ = some (r, σr)) : Tri mX0_wayOf 1 0 0 [.ref this, .int a1, .int a2] (hp Γ ρ σ) (Ki Γ ρ r σr) := by
  unfold f_X0_wayOf at hf
  refine tri_of [some (.ref this), some (.int a1), some (.int a2)] (plainFor_of_name rfl) rfl (Nat.le_of_ble_eq_true rfl) ?_
  refine go_aload_n 0 dX0_wayOf_0 rfl rfl ?_
  refine go_iload_n 1 dX0_wayOf_1 rfl rfl ?_
  obtain ⟨r1, σ2, q3, hf⟩ := bnd_some hf
  refine go_Vi (av := [.int a1]) (rest := []) (t_X0_hasStool hs h0 q3) ok_X0_hasStool ml_X0_70 dX0_wayOf_2 h0 rfl rfl (by decide) (Nat.le_refl _) (Nat.le_refl _) (Nat.le_of_ble_eq_true rfl) ?_
  refine go_if_eq 35 dX0_wayOf_5 (by decide) (fun c4 => ?_) (fun c4 => ?_)
  · replace hf := (if_pos c4).symm.trans hf
    refine go_msk [false, false, false] [none, none, none] rfl ?_
    exact w_X0_wayOf_35 hs h0 σ2 hf
  · replace hf := (if_neg c4).symm.trans hf
    refine go_aload_n 0 dX0_wayOf_8 rfl rfl ?_
    refine go_iload_n 2 dX0_wayOf_9 rfl rfl ?_
    obtain ⟨r5, σ6, q7, hf⟩ := bnd_some hf
    refine go_Vi (av := [.int a2]) (rest := []) (t_X0_hasHearth hs h0 q7) ok_X0_hasHearth ml_X0_74 dX0_wayOf_10 h0 rfl rfl (by decide) (Nat.le_refl _) (Nat.le_refl _) (Nat.le_of_ble_eq_true rfl) ?_
    refine go_if_eq 35 dX0_wayOf_13 (by decide) (fun c8 => ?_) (fun c8 => ?_)
    · replace hf := (if_pos c8).symm.trans hf
      refine go_msk [false, false, false] [none, none, none] rfl ?_
      exact w_X0_wayOf_35 hs h0 σ6 hf
    · replace hf := (if_neg c8).symm.trans hf
      refine go_aload_n 0 dX0_wayOf_16 rfl rfl ?_
      refine go_fR fl_X0_24 dX0_wayOf_17 h0 (by decide) rfl ?_
      refine go_iload_n 1 dX0_wayOf_20 rfl rfl ?_
      obtain ⟨g9, hf⟩ := gd_some hf
      refine go_rI dX0_wayOf_21 (hs.1 _ 0 4 h0 rfl) (ib_in g9) ?_
      refine go_aload_n 0 dX0_wayOf_22 rfl rfl ?_
      refine go_fR fl_X0_11 dX0_wayOf_23 h0 (by decide) rfl ?_
      refine go_iload_n 2 dX0_wayOf_26 rfl rfl ?_
      obtain ⟨g10, hf⟩ := gd_some hf
      refine go_rI dX0_wayOf_27 (hs.1 _ 0 0 h0 rfl) (ib_in g10) ?_
      refine go_isub dX0_wayOf_28 ?_
      refine go_mabs ml_X0_77 dX0_wayOf_29 (by decide) (Nat.le_refl _) (Nat.le_refl _) (Nat.le_of_ble_eq_true rfl) ?_
      refine go_goto 36 dX0_wayOf_32 (by decide) ?_
      refine go_msk [false, false, false] [none, none, none] rfl ?_
      exact w_X0_wayOf_36 hs h0 (mabs ((σ6.1 (ρ this 4) a1.toNatClampNeg) - (σ6.1 (ρ this 0) a2.toNatClampNeg))) σ6 hf
def f_X0_quarrelIn_47 (N : Nat) (ρ : Nat → Nat → Nat) (this : Nat) (a1 : Int32) (rec4 : Int32 → Int32 → St → Option (Int32 × St)) (x2 : Int32) (x3 : Int32) (σ : St) : Option (Int32 × St) :=
  rec4 x2 (x3 + 1) σ
def b_X0_quarrelIn_4 (N : Nat) (ρ : Nat → Nat → Nat) (this : Nat) (a1 : Int32) (rec4 : Int32 → Int32 → St → Option (Int32 × St)) (x2 : Int32) (x3 : Int32) (σ : St) : Option (Int32 × St) :=
  if (σ.1 this 12) ≤ (x3 : Int32) then
    some (0, σ)
  else
    if ((a1 >>> (x3 &&& 31)) &&& 1 : Int32) = 0 then
      f_X0_quarrelIn_47 N ρ this a1 rec4 x2 x3 σ
    else
      if (x2 : Int32) = (-1) then
        gd (ib x3 5) <|
        nmd (σ.1 (ρ this 6) x3.toNatClampNeg) fun y7 =>
        f_X0_quarrelIn_47 N ρ this a1 rec4 y7 x3 σ
      else
        gd (ib x3 5) <|
        if (σ.1 (ρ this 6) x3.toNatClampNeg : Int32) = x2 then
          f_X0_quarrelIn_47 N ρ this a1 rec4 x2 x3 σ
        else
          some (1, σ)
def f_X0_quarrelIn_4 (N : Nat) (ρ : Nat → Nat → Nat) (this : Nat) (a1 : Int32) : Nat → Int32 → Int32 → St → Option (Int32 × St)
  | 0, _, _, _ => none
  | n + 1, x2, x3, σ => b_X0_quarrelIn_4 N ρ this a1 (f_X0_quarrelIn_4 N ρ this a1 n) x2 x3 σ
def f_X0_quarrelIn (N : Nat) (ρ : Nat → Nat → Nat) (this : Nat) (a1 : Int32) (σ : St) : Option (Int32 × St) :=
  f_X0_quarrelIn_4 N ρ this a1 N (-1) 0 σ
set_option maxRecDepth 100000 in
set_option maxHeartbeats 4000000 in
theorem w_X0_quarrelIn_47 {N : Nat} {Γ : SG} {ρ : Nat → Nat → Nat} (hs : Sh Γ ρ) {this : Nat} {a1 : Int32} (h0 : Γ[this]? = some (0, 0)) {n0 : Nat} {r : Int32} {σr : St} (rec4 : Int32 → Int32 → St → Option (Int32 × St)) (hrec4 : ∀ (x2 : Int32) (x3 : Int32) (σ : St), rec4 x2 x3 σ = some (r, σr) → Go mX0_quarrelIn 0 0 0 n0 (Ki Γ ρ r σr) 0 0 4 [some (.ref this), some (.int a1), some (.int x2), some (.int x3)] [] (hp Γ ρ σ)) (x2 : Int32) (x3 : Int32) (σ : St) (hf : f_X0_quarrelIn_47 N ρ this a1 rec4 x2 x3 σ = some (r, σr)) : Go mX0_quarrelIn 0 0 0 n0 (Ki Γ ρ r σr) 0 0 47 [some (.ref this), some (.int a1), some (.int x2), some (.int x3)] [] (hp Γ ρ σ) := by
  unfold f_X0_quarrelIn_47 at hf
  refine go_iinc (x3 + 1) [some (.ref this), some (.int a1), some (.int x2), some (.int (x3 + 1))] dX0_quarrelIn_47 rfl rfl (by decide) rfl ?_
  refine go_goto 4 dX0_quarrelIn_50 (by decide) ?_
  exact hrec4 x2 (x3 + 1) σ hf
set_option maxRecDepth 100000 in
set_option maxHeartbeats 4000000 in
theorem v_X0_quarrelIn_4 {N : Nat} {Γ : SG} {ρ : Nat → Nat → Nat} (hs : Sh Γ ρ) {this : Nat} {a1 : Int32} (h0 : Γ[this]? = some (0, 0)) {n0 : Nat} {r : Int32} {σr : St} (rec4 : Int32 → Int32 → St → Option (Int32 × St)) (hrec4 : ∀ (x2 : Int32) (x3 : Int32) (σ : St), rec4 x2 x3 σ = some (r, σr) → Go mX0_quarrelIn 0 0 0 n0 (Ki Γ ρ r σr) 0 0 4 [some (.ref this), some (.int a1), some (.int x2), some (.int x3)] [] (hp Γ ρ σ)) (x2 : Int32) (x3 : Int32) (σ : St) (hf : b_X0_quarrelIn_4 N ρ this a1 rec4 x2 x3 σ = some (r, σr)) : Go mX0_quarrelIn 0 0 0 n0 (Ki Γ ρ r σr) 0 0 4 [some (.ref this), some (.int a1), some (.int x2), some (.int x3)] [] (hp Γ ρ σ) := by
  unfold b_X0_quarrelIn_4 at hf
  refine go_iload_n 3 dX0_quarrelIn_4 rfl rfl ?_
  refine go_aload_n 0 dX0_quarrelIn_5 rfl rfl ?_
  refine go_fI fl_X0_55 dX0_quarrelIn_6 h0 (by decide) rfl ?_
  refine go_icmp_ge 53 dX0_quarrelIn_9 (by decide) (fun c1 => ?_) (fun c1 => ?_)
  · replace hf := (if_pos c1).symm.trans hf
    refine go_iconst 0 dX0_quarrelIn_53 (by decide) ?_
    cases hf
    exact go_zret rfl (by decide) dX0_quarrelIn_54 (Nat.le_refl _) ⟨rfl, rfl⟩
  · replace hf := (if_neg c1).symm.trans hf
    refine go_iload_n 1 dX0_quarrelIn_12 rfl rfl ?_
    refine go_iload_n 3 dX0_quarrelIn_13 rfl rfl ?_
    refine go_ishr dX0_quarrelIn_14 ?_
    refine go_iconst 1 dX0_quarrelIn_15 (by decide) ?_
    refine go_iand dX0_quarrelIn_16 ?_
    refine go_if_eq 47 dX0_quarrelIn_17 (by decide) (fun c2 => ?_) (fun c2 => ?_)
    · replace hf := (if_pos c2).symm.trans hf
      exact w_X0_quarrelIn_47 hs h0 rec4 hrec4 x2 x3 σ hf
    · replace hf := (if_neg c2).symm.trans hf
      refine go_iload_n 2 dX0_quarrelIn_20 rfl rfl ?_
      refine go_iconst (-1) dX0_quarrelIn_21 (by decide) ?_
      refine go_icmp_ne 35 dX0_quarrelIn_22 (by decide) (fun c3 => ?_) (fun c3 => ?_)
      · replace hf := (if_neg c3).symm.trans hf
        refine go_aload_n 0 dX0_quarrelIn_35 rfl rfl ?_
        refine go_fR fl_X0_30 dX0_quarrelIn_36 h0 (by decide) rfl ?_
        refine go_iload_n 3 dX0_quarrelIn_39 rfl rfl ?_
        obtain ⟨g4, hf⟩ := gd_some hf
        refine go_rI dX0_quarrelIn_40 (hs.1 _ 0 6 h0 rfl) (ib_in g4) ?_
        refine go_iload_n 2 dX0_quarrelIn_41 rfl rfl ?_
        refine go_icmp_eq 47 dX0_quarrelIn_42 (by decide) (fun c5 => ?_) (fun c5 => ?_)
        · replace hf := (if_pos c5).symm.trans hf
          exact w_X0_quarrelIn_47 hs h0 rec4 hrec4 x2 x3 σ hf
        · replace hf := (if_neg c5).symm.trans hf
          refine go_iconst 1 dX0_quarrelIn_45 (by decide) ?_
          cases hf
          exact go_zret rfl (by decide) dX0_quarrelIn_46 (Nat.le_refl _) ⟨rfl, rfl⟩
      · replace hf := (if_pos c3).symm.trans hf
        refine go_aload_n 0 dX0_quarrelIn_25 rfl rfl ?_
        refine go_fR fl_X0_30 dX0_quarrelIn_26 h0 (by decide) rfl ?_
        refine go_iload_n 3 dX0_quarrelIn_29 rfl rfl ?_
        obtain ⟨g6, hf⟩ := gd_some hf
        refine go_rI dX0_quarrelIn_30 (hs.1 _ 0 6 h0 rfl) (ib_in g6) ?_
        obtain ⟨y7, ey7, hf⟩ := nmd_some hf
        refine go_nm ey7 ?_
        refine go_istore_n 2 [some (.ref this), some (.int a1), some (.int y7), some (.int x3)] dX0_quarrelIn_31 rfl (by decide) rfl ?_
        refine go_goto 47 dX0_quarrelIn_32 (by decide) ?_
        exact w_X0_quarrelIn_47 hs h0 rec4 hrec4 y7 x3 σ hf
theorem w_X0_quarrelIn_4 {N : Nat} {Γ : SG} {ρ : Nat → Nat → Nat} (hs : Sh Γ ρ) {this : Nat} {a1 : Int32} (h0 : Γ[this]? = some (0, 0)) {n0 : Nat} {r : Int32} {σr : St} : ∀ (n : Nat) (x2 : Int32) (x3 : Int32) (σ : St), f_X0_quarrelIn_4 N ρ this a1 n x2 x3 σ = some (r, σr) → Go mX0_quarrelIn 0 0 0 n0 (Ki Γ ρ r σr) 0 0 4 [some (.ref this), some (.int a1), some (.int x2), some (.int x3)] [] (hp Γ ρ σ) := by
  intro n
  induction n with
  | zero => intro x2 x3 σ hf; cases hf
  | succ n ih => intro x2 x3 σ hf; exact v_X0_quarrelIn_4 hs h0 _ ih x2 x3 σ hf
set_option maxRecDepth 100000 in
set_option maxHeartbeats 4000000 in
theorem t_X0_quarrelIn {N : Nat} {Γ : SG} {ρ : Nat → Nat → Nat} (hs : Sh Γ ρ) {this : Nat} {a1 : Int32} (h0 : Γ[this]? = some (0, 0)) {σ : St} {r : Int32} {σr : St} (hf : f_X0_quarrelIn N ρ this a1 σ = some (r, σr)) : Tri mX0_quarrelIn 0 0 0 [.ref this, .int a1] (hp Γ ρ σ) (Ki Γ ρ r σr) := by
  unfold f_X0_quarrelIn at hf
  refine tri_of [some (.ref this), some (.int a1), none, none] (plainFor_of_name rfl) rfl (Nat.le_of_ble_eq_true rfl) ?_
  refine go_iconst (-1) dX0_quarrelIn_0 (by decide) ?_
  refine go_istore_n 2 [some (.ref this), some (.int a1), some (.int (-1)), none] dX0_quarrelIn_1 rfl (by decide) rfl ?_
  refine go_iconst 0 dX0_quarrelIn_2 (by decide) ?_
  refine go_istore_n 3 [some (.ref this), some (.int a1), some (.int (-1)), some (.int 0)] dX0_quarrelIn_3 rfl (by decide) rfl ?_
  exact w_X0_quarrelIn_4 hs h0 N (-1) 0 σ hf
def f_X0_setTerms (N : Nat) (ρ : Nat → Nat → Nat) (this : Nat) (a1 : Nat) (a2 : Int32) (a3 : Int32) (a4 : Int32) (a5 : Int32) (σ : St) : Option (Int32 × St) :=
  gd (ib a3 6) <|
  gd (ib 1 7) <|
  nmd (sI σ (ρ this 10) (1 : Int32).toNatClampNeg (mmax 0 ((σ.1 (ρ this 1) a3.toNatClampNeg) + a5))) fun σ3 =>
  gd (ib 2 7) <|
  nmd (sI σ3 (ρ this 10) (2 : Int32).toNatClampNeg a4) fun σ5 =>
  gd (ib a3 6) <|
  gd (ib 3 7) <|
  nmd (sI σ5 (ρ this 10) (3 : Int32).toNatClampNeg (σ5.1 (ρ this 3) a3.toNatClampNeg)) fun σ8 =>
  gd (ib a2 5) <|
  gd (ib 4 7) <|
  nmd (sI σ8 (ρ this 10) (4 : Int32).toNatClampNeg (σ8.1 (ρ a1 1) a2.toNatClampNeg)) fun σ11 =>
  gd (ib a2 5) <|
  gd (ib 5 7) <|
  nmd (sI σ11 (ρ this 10) (5 : Int32).toNatClampNeg (σ11.1 (ρ a1 0) a2.toNatClampNeg)) fun σ14 =>
  gd (ib 6 7) <|
  nmd (sI σ14 (ρ this 10) (6 : Int32).toNatClampNeg (σ14.1 a1 4)) fun σ16 =>
  some (0, σ16)
set_option maxRecDepth 100000 in
set_option maxHeartbeats 4000000 in
theorem t_X0_setTerms {N : Nat} {Γ : SG} {ρ : Nat → Nat → Nat} (hs : Sh Γ ρ) {this : Nat} {a1 : Nat} {a2 : Int32} {a3 : Int32} {a4 : Int32} {a5 : Int32} (h0 : Γ[this]? = some (0, 0)) (h1 : Γ[a1]? = some (0, 9)) {σ : St} {r : Int32} {σr : St} (hf : f_X0_setTerms N ρ this a1 a2 a3 a4 a5 σ = some (r, σr)) : Tri mX0_setTerms 1 0 0 [.ref this, .ref a1, .int a2, .int a3, .int a4, .int a5] (hp Γ ρ σ) (Kv Γ ρ σr) := by
  unfold f_X0_setTerms at hf
  refine tri_of [some (.ref this), some (.ref a1), some (.int a2), some (.int a3), some (.int a4), some (.int a5)] (plainFor_of_name rfl) rfl (Nat.le_of_ble_eq_true rfl) ?_
  refine go_aload_n 0 dX0_setTerms_0 rfl rfl ?_
  refine go_fR fl_X0_48 dX0_setTerms_1 h0 (by decide) rfl ?_
  refine go_iconst 1 dX0_setTerms_4 (by decide) ?_
  refine go_iconst 0 dX0_setTerms_5 (by decide) ?_
  refine go_aload_n 0 dX0_setTerms_6 rfl rfl ?_
  refine go_fR fl_X0_15 dX0_setTerms_7 h0 (by decide) rfl ?_
  refine go_iload_n 3 dX0_setTerms_10 rfl rfl ?_
  obtain ⟨g1, hf⟩ := gd_some hf
  refine go_rI dX0_setTerms_11 (hs.1 _ 0 1 h0 rfl) (ib_in g1) ?_
  refine go_iload dX0_setTerms_12 rfl ?_
  refine go_iadd dX0_setTerms_14 ?_
  refine go_mmax ml_X0_99 dX0_setTerms_15 (by decide) (Nat.le_refl _) (Nat.le_refl _) (Nat.le_of_ble_eq_true rfl) ?_
  obtain ⟨g2, hf⟩ := gd_some hf
  obtain ⟨σ3, eσ3, hf⟩ := nmd_some hf
  refine go_wI dX0_setTerms_18 (hs.1 _ 0 10 h0 rfl) (ib_in g2) ?_
  rw [eσ3]
  refine go_aload_n 0 dX0_setTerms_19 rfl rfl ?_
  refine go_fR fl_X0_48 dX0_setTerms_20 h0 (by decide) rfl ?_
  refine go_iconst 2 dX0_setTerms_23 (by decide) ?_
  refine go_iload dX0_setTerms_24 rfl ?_
  obtain ⟨g4, hf⟩ := gd_some hf
  obtain ⟨σ5, eσ5, hf⟩ := nmd_some hf
  refine go_wI dX0_setTerms_26 (hs.1 _ 0 10 h0 rfl) (ib_in g4) ?_
  rw [eσ5]
  refine go_aload_n 0 dX0_setTerms_27 rfl rfl ?_
  refine go_fR fl_X0_48 dX0_setTerms_28 h0 (by decide) rfl ?_
  refine go_iconst 3 dX0_setTerms_31 (by decide) ?_
  refine go_aload_n 0 dX0_setTerms_32 rfl rfl ?_
  refine go_fR fl_X0_21 dX0_setTerms_33 h0 (by decide) rfl ?_
  refine go_iload_n 3 dX0_setTerms_36 rfl rfl ?_
  obtain ⟨g6, hf⟩ := gd_some hf
  refine go_rI dX0_setTerms_37 (hs.1 _ 0 3 h0 rfl) (ib_in g6) ?_
  obtain ⟨g7, hf⟩ := gd_some hf
  obtain ⟨σ8, eσ8, hf⟩ := nmd_some hf
  refine go_wI dX0_setTerms_38 (hs.1 _ 0 10 h0 rfl) (ib_in g7) ?_
  rw [eσ8]
  refine go_aload_n 0 dX0_setTerms_39 rfl rfl ?_
  refine go_fR fl_X0_48 dX0_setTerms_40 h0 (by decide) rfl ?_
  refine go_iconst 4 dX0_setTerms_43 (by decide) ?_
  refine go_aload_n 1 dX0_setTerms_44 rfl rfl ?_
  refine go_fR fl_X0_107 dX0_setTerms_45 h1 (by decide) rfl ?_
  refine go_iload_n 2 dX0_setTerms_48 rfl rfl ?_
  obtain ⟨g9, hf⟩ := gd_some hf
  refine go_rI dX0_setTerms_49 (hs.1 _ 9 1 h1 rfl) (ib_in g9) ?_
  obtain ⟨g10, hf⟩ := gd_some hf
  obtain ⟨σ11, eσ11, hf⟩ := nmd_some hf
  refine go_wI dX0_setTerms_50 (hs.1 _ 0 10 h0 rfl) (ib_in g10) ?_
  rw [eσ11]
  refine go_aload_n 0 dX0_setTerms_51 rfl rfl ?_
  refine go_fR fl_X0_48 dX0_setTerms_52 h0 (by decide) rfl ?_
  refine go_iconst 5 dX0_setTerms_55 (by decide) ?_
  refine go_aload_n 1 dX0_setTerms_56 rfl rfl ?_
  refine go_fR fl_X0_102 dX0_setTerms_57 h1 (by decide) rfl ?_
  refine go_iload_n 2 dX0_setTerms_60 rfl rfl ?_
  obtain ⟨g12, hf⟩ := gd_some hf
  refine go_rI dX0_setTerms_61 (hs.1 _ 9 0 h1 rfl) (ib_in g12) ?_
  obtain ⟨g13, hf⟩ := gd_some hf
  obtain ⟨σ14, eσ14, hf⟩ := nmd_some hf
  refine go_wI dX0_setTerms_62 (hs.1 _ 0 10 h0 rfl) (ib_in g13) ?_
  rw [eσ14]
  refine go_aload_n 0 dX0_setTerms_63 rfl rfl ?_
  refine go_fR fl_X0_48 dX0_setTerms_64 h0 (by decide) rfl ?_
  refine go_bipush 6 dX0_setTerms_67 (by decide) ?_
  refine go_aload_n 1 dX0_setTerms_69 rfl rfl ?_
  refine go_fI fl_X0_108 dX0_setTerms_70 h1 (by decide) rfl ?_
  obtain ⟨g15, hf⟩ := gd_some hf
  obtain ⟨σ16, eσ16, hf⟩ := nmd_some hf
  refine go_wI dX0_setTerms_73 (hs.1 _ 0 10 h0 rfl) (ib_in g15) ?_
  rw [eσ16]
  cases hf
  exact go_vret rfl dX0_setTerms_74 (Nat.le_refl _) ⟨rfl, rfl⟩
def f_X0_loadOf_21 (N : Nat) (ρ : Nat → Nat → Nat) (this : Nat) (a1 : Nat) (a2 : Int32) (a3 : Int32) (a4 : Int32) (a5 : Int32) (σ : St) : Option (Int32 × St) :=
  some (0, σ)
def f_X0_loadOf_72 (N : Nat) (ρ : Nat → Nat → Nat) (this : Nat) (a1 : Nat) (a2 : Int32) (a3 : Int32) (a4 : Int32) (a5 : Int32) (s0 : Int32) (σ : St) : Option (Int32 × St) :=
  some (mmax 0 (mmin 999 s0), σ)
def f_X0_loadOf (N : Nat) (ρ : Nat → Nat → Nat) (this : Nat) (a1 : Nat) (a2 : Int32) (a3 : Int32) (a4 : Int32) (a5 : Int32) (σ : St) : Option (Int32 × St) :=
  bnd (f_X0_hasStool N ρ this a2 σ) fun r1 σ2 =>
  if (r1 : Int32) = 0 then
    f_X0_loadOf_21 N ρ this a1 a2 a3 a4 a5 σ2
  else
    bnd (f_X0_hasHearth N ρ this a3 σ2) fun r5 σ6 =>
    if (r5 : Int32) = 0 then
      f_X0_loadOf_21 N ρ this a1 a2 a3 a4 a5 σ6
    else
      if 0 < (a4 : Int32) then
        bnd (f_X0_setTerms N ρ this a1 a2 a3 a4 a5 σ6) fun _ σ11 =>
        bnd (f_X1_isTold N ρ (ρ this 8) σ11) fun r13 σ14 =>
        if (r13 : Int32) = 0 then
          gd (ib 1 7) <|
          gd (nz a4) <|
          f_X0_loadOf_72 N ρ this a1 a2 a3 a4 a5 ((((σ14.1 (ρ this 10) (1 : Int32).toNatClampNeg) + a4) - 1) / a4) σ14
        else
          bnd (f_X1_valueBy N ρ (ρ this 8) (ρ this 10) 7 σ14) fun r19 σ20 =>
          f_X0_loadOf_72 N ρ this a1 a2 a3 a4 a5 r19 σ20
      else
        f_X0_loadOf_21 N ρ this a1 a2 a3 a4 a5 σ6
set_option maxRecDepth 100000 in
set_option maxHeartbeats 4000000 in
theorem w_X0_loadOf_21 {N : Nat} {Γ : SG} {ρ : Nat → Nat → Nat} (hs : Sh Γ ρ) {this : Nat} {a1 : Nat} {a2 : Int32} {a3 : Int32} {a4 : Int32} {a5 : Int32} (h0 : Γ[this]? = some (0, 0)) (h1 : Γ[a1]? = some (0, 9)) {n0 : Nat} {r : Int32} {σr : St} (σ : St) (hf : f_X0_loadOf_21 N ρ this a1 a2 a3 a4 a5 σ = some (r, σr)) : Go mX0_loadOf 2 0 0 n0 (Ki Γ ρ r σr) 0 0 21 [none, none, none, none, none, none, none] [] (hp Γ ρ σ) := by
  unfold f_X0_loadOf_21 at hf
  refine go_iconst 0 dX0_loadOf_21 (by decide) ?_
  cases hf
  exact go_iret rfl dX0_loadOf_22 (Nat.le_refl _) ⟨rfl, rfl⟩
set_option maxRecDepth 100000 in
set_option maxHeartbeats 4000000 in
theorem w_X0_loadOf_72 {N : Nat} {Γ : SG} {ρ : Nat → Nat → Nat} (hs : Sh Γ ρ) {this : Nat} {a1 : Nat} {a2 : Int32} {a3 : Int32} {a4 : Int32} {a5 : Int32} (h0 : Γ[this]? = some (0, 0)) (h1 : Γ[a1]? = some (0, 9)) {n0 : Nat} {r : Int32} {σr : St} (s0 : Int32) (σ : St) (hf : f_X0_loadOf_72 N ρ this a1 a2 a3 a4 a5 s0 σ = some (r, σr)) : Go mX0_loadOf 2 0 0 n0 (Ki Γ ρ r σr) 0 0 72 [none, none, none, none, none, none, none] [.int s0] (hp Γ ρ σ) := by
  unfold f_X0_loadOf_72 at hf
  refine go_istore [none, none, none, none, none, none, some (.int s0)] dX0_loadOf_72 (by decide) rfl ?_
  refine go_iconst 0 dX0_loadOf_74 (by decide) ?_
  refine go_sipush 999 dX0_loadOf_75 (by decide) ?_
  refine go_iload dX0_loadOf_78 rfl ?_
  refine go_mmin ml_X0_95 dX0_loadOf_80 (by decide) (Nat.le_refl _) (Nat.le_refl _) (Nat.le_of_ble_eq_true rfl) ?_
  refine go_mmax ml_X0_99 dX0_loadOf_83 (by decide) (Nat.le_refl _) (Nat.le_refl _) (Nat.le_of_ble_eq_true rfl) ?_
  cases hf
  exact go_iret rfl dX0_loadOf_86 (Nat.le_refl _) ⟨rfl, rfl⟩
set_option maxRecDepth 100000 in
set_option maxHeartbeats 4000000 in
theorem t_X0_loadOf {N : Nat} {Γ : SG} {ρ : Nat → Nat → Nat} (hs : Sh Γ ρ) {this : Nat} {a1 : Nat} {a2 : Int32} {a3 : Int32} {a4 : Int32} {a5 : Int32} (h0 : Γ[this]? = some (0, 0)) (h1 : Γ[a1]? = some (0, 9)) {σ : St} {r : Int32} {σr : St} (hf : f_X0_loadOf N ρ this a1 a2 a3 a4 a5 σ = some (r, σr)) : Tri mX0_loadOf 2 0 0 [.ref this, .ref a1, .int a2, .int a3, .int a4, .int a5] (hp Γ ρ σ) (Ki Γ ρ r σr) := by
  unfold f_X0_loadOf at hf
  refine tri_of [some (.ref this), some (.ref a1), some (.int a2), some (.int a3), some (.int a4), some (.int a5), none] (plainFor_of_name rfl) rfl (Nat.le_of_ble_eq_true rfl) ?_
  refine go_aload_n 0 dX0_loadOf_0 rfl rfl ?_
  refine go_iload_n 2 dX0_loadOf_1 rfl rfl ?_
  obtain ⟨r1, σ2, q3, hf⟩ := bnd_some hf
  refine go_Vi (av := [.int a2]) (rest := []) (t_X0_hasStool hs h0 q3) ok_X0_hasStool ml_X0_70 dX0_loadOf_2 h0 rfl rfl (by decide) (Nat.le_refl _) (Nat.le_refl _) (Nat.le_of_ble_eq_true rfl) ?_
  refine go_if_eq 21 dX0_loadOf_5 (by decide) (fun c4 => ?_) (fun c4 => ?_)
  · replace hf := (if_pos c4).symm.trans hf
    refine go_msk [false, false, false, false, false, false, false] [none, none, none, none, none, none, none] rfl ?_
    exact w_X0_loadOf_21 hs h0 h1 σ2 hf
  · replace hf := (if_neg c4).symm.trans hf
    refine go_aload_n 0 dX0_loadOf_8 rfl rfl ?_
    refine go_iload_n 3 dX0_loadOf_9 rfl rfl ?_
    obtain ⟨r5, σ6, q7, hf⟩ := bnd_some hf
    refine go_Vi (av := [.int a3]) (rest := []) (t_X0_hasHearth hs h0 q7) ok_X0_hasHearth ml_X0_74 dX0_loadOf_10 h0 rfl rfl (by decide) (Nat.le_refl _) (Nat.le_refl _) (Nat.le_of_ble_eq_true rfl) ?_
    refine go_if_eq 21 dX0_loadOf_13 (by decide) (fun c8 => ?_) (fun c8 => ?_)
    · replace hf := (if_pos c8).symm.trans hf
      refine go_msk [false, false, false, false, false, false, false] [none, none, none, none, none, none, none] rfl ?_
      exact w_X0_loadOf_21 hs h0 h1 σ6 hf
    · replace hf := (if_neg c8).symm.trans hf
      refine go_iload dX0_loadOf_16 rfl ?_
      refine go_if_gt 23 dX0_loadOf_18 (by decide) (fun c9 => ?_) (fun c9 => ?_)
      · replace hf := (if_pos c9).symm.trans hf
        refine go_aload_n 0 dX0_loadOf_23 rfl rfl ?_
        refine go_aload_n 1 dX0_loadOf_24 rfl rfl ?_
        refine go_iload_n 2 dX0_loadOf_25 rfl rfl ?_
        refine go_iload_n 3 dX0_loadOf_26 rfl rfl ?_
        refine go_iload dX0_loadOf_27 rfl ?_
        refine go_iload dX0_loadOf_29 rfl ?_
        obtain ⟨r10, σ11, q12, hf⟩ := bnd_some hf
        refine go_Vv (av := [.ref a1, .int a2, .int a3, .int a4, .int a5]) (rest := []) (t_X0_setTerms hs h0 h1 q12) ok_X0_setTerms ml_X0_83 dX0_loadOf_31 h0 rfl rfl (by decide) (Nat.le_refl _) (Nat.le_refl _) (Nat.le_of_ble_eq_true rfl) ?_
        refine go_aload_n 0 dX0_loadOf_34 rfl rfl ?_
        refine go_fR fl_X0_39 dX0_loadOf_35 h0 (by decide) rfl ?_
        obtain ⟨r13, σ14, q15, hf⟩ := bnd_some hf
        refine go_Vi (av := []) (rest := []) (t_X1_isTold hs (hs.1 _ 0 8 h0 rfl) q15) ok_X1_isTold ml_X0_87 dX0_loadOf_38 (hs.1 _ 0 8 h0 rfl) rfl rfl (by decide) (Nat.le_refl _) (Nat.le_refl _) (Nat.le_of_ble_eq_true rfl) ?_
        refine go_if_eq 58 dX0_loadOf_41 (by decide) (fun c16 => ?_) (fun c16 => ?_)
        · replace hf := (if_pos c16).symm.trans hf
          refine go_aload_n 0 dX0_loadOf_58 rfl rfl ?_
          refine go_fR fl_X0_48 dX0_loadOf_59 h0 (by decide) rfl ?_
          refine go_iconst 1 dX0_loadOf_62 (by decide) ?_
          obtain ⟨g17, hf⟩ := gd_some hf
          refine go_rI dX0_loadOf_63 (hs.1 _ 0 10 h0 rfl) (ib_in g17) ?_
          refine go_iload dX0_loadOf_64 rfl ?_
          refine go_iadd dX0_loadOf_66 ?_
          refine go_iconst 1 dX0_loadOf_67 (by decide) ?_
          refine go_isub dX0_loadOf_68 ?_
          refine go_iload dX0_loadOf_69 rfl ?_
          obtain ⟨g18, hf⟩ := gd_some hf
          refine go_idiv dX0_loadOf_71 (nz_of g18) ?_
          refine go_msk [false, false, false, false, false, false, false] [none, none, none, none, none, none, none] rfl ?_
          exact w_X0_loadOf_72 hs h0 h1 ((((σ14.1 (ρ this 10) (1 : Int32).toNatClampNeg) + a4) - 1) / a4) σ14 hf
        · replace hf := (if_neg c16).symm.trans hf
          refine go_aload_n 0 dX0_loadOf_44 rfl rfl ?_
          refine go_fR fl_X0_39 dX0_loadOf_45 h0 (by decide) rfl ?_
          refine go_aload_n 0 dX0_loadOf_48 rfl rfl ?_
          refine go_fR fl_X0_48 dX0_loadOf_49 h0 (by decide) rfl ?_
          obtain ⟨r19, σ20, q21, hf⟩ := bnd_some hf
          refine go_Vi (av := [.ref (ρ this 10)]) (rest := []) (t_X1_valueBy hs (hs.1 _ 0 8 h0 rfl) (hs.1 _ 0 10 h0 rfl) q21) ok_X1_valueBy ml_X0_91 dX0_loadOf_52 (hs.1 _ 0 8 h0 rfl) rfl rfl (by decide) (Nat.le_refl _) (Nat.le_refl _) (Nat.le_of_ble_eq_true rfl) ?_
          refine go_goto 72 dX0_loadOf_55 (by decide) ?_
          refine go_msk [false, false, false, false, false, false, false] [none, none, none, none, none, none, none] rfl ?_
          exact w_X0_loadOf_72 hs h0 h1 r19 σ20 hf
      · replace hf := (if_neg c9).symm.trans hf
        refine go_msk [false, false, false, false, false, false, false] [none, none, none, none, none, none, none] rfl ?_
        exact w_X0_loadOf_21 hs h0 h1 σ6 hf
def f_X0_wearOf_16 (N : Nat) (ρ : Nat → Nat → Nat) (this : Nat) (a1 : Nat) (a2 : Int32) (a3 : Int32) (a4 : Int32) (σ : St) : Option (Int32 × St) :=
  some (0, σ)
def f_X0_wearOf_53 (N : Nat) (ρ : Nat → Nat → Nat) (this : Nat) (a1 : Nat) (a2 : Int32) (a3 : Int32) (a4 : Int32) (s0 : Int32) (σ : St) : Option (Int32 × St) :=
  gd (ib a2 5) <|
  some (mmax 0 (mmin (σ.1 (ρ a1 0) a2.toNatClampNeg) s0), σ)
def f_X0_wearOf (N : Nat) (ρ : Nat → Nat → Nat) (this : Nat) (a1 : Nat) (a2 : Int32) (a3 : Int32) (a4 : Int32) (σ : St) : Option (Int32 × St) :=
  bnd (f_X0_hasStool N ρ this a2 σ) fun r2 σ3 =>
  if (r2 : Int32) = 0 then
    f_X0_wearOf_16 N ρ this a1 a2 a3 a4 σ3
  else
    bnd (f_X0_hasHearth N ρ this a3 σ3) fun r6 σ7 =>
    if (r6 : Int32) = 0 then
      f_X0_wearOf_16 N ρ this a1 a2 a3 a4 σ7
    else
      bnd (f_X0_setTerms N ρ this a1 a2 a3 a4 0 σ7) fun _ σ11 =>
      bnd (f_X1_isTold N ρ (ρ this 9) σ11) fun r13 σ14 =>
      if (r13 : Int32) = 0 then
        f_X0_wearOf_53 N ρ this a1 a2 a3 a4 1 σ14
      else
        bnd (f_X1_valueBy N ρ (ρ this 9) (ρ this 10) 7 σ14) fun r17 σ18 =>
        f_X0_wearOf_53 N ρ this a1 a2 a3 a4 r17 σ18
set_option maxRecDepth 100000 in
set_option maxHeartbeats 4000000 in
theorem w_X0_wearOf_16 {N : Nat} {Γ : SG} {ρ : Nat → Nat → Nat} (hs : Sh Γ ρ) {this : Nat} {a1 : Nat} {a2 : Int32} {a3 : Int32} {a4 : Int32} (h0 : Γ[this]? = some (0, 0)) (h1 : Γ[a1]? = some (0, 9)) {n0 : Nat} {r : Int32} {σr : St} (σ : St) (hf : f_X0_wearOf_16 N ρ this a1 a2 a3 a4 σ = some (r, σr)) : Go mX0_wearOf 2 0 0 n0 (Ki Γ ρ r σr) 0 0 16 [none, none, none, none, none, none] [] (hp Γ ρ σ) := by
  unfold f_X0_wearOf_16 at hf
  refine go_iconst 0 dX0_wearOf_16 (by decide) ?_
  cases hf
  exact go_iret rfl dX0_wearOf_17 (Nat.le_refl _) ⟨rfl, rfl⟩
set_option maxRecDepth 100000 in
set_option maxHeartbeats 4000000 in
theorem w_X0_wearOf_53 {N : Nat} {Γ : SG} {ρ : Nat → Nat → Nat} (hs : Sh Γ ρ) {this : Nat} {a1 : Nat} {a2 : Int32} {a3 : Int32} {a4 : Int32} (h0 : Γ[this]? = some (0, 0)) (h1 : Γ[a1]? = some (0, 9)) {n0 : Nat} {r : Int32} {σr : St} (s0 : Int32) (σ : St) (hf : f_X0_wearOf_53 N ρ this a1 a2 a3 a4 s0 σ = some (r, σr)) : Go mX0_wearOf 2 0 0 n0 (Ki Γ ρ r σr) 0 0 53 [none, some (.ref a1), some (.int a2), none, none, none] [.int s0] (hp Γ ρ σ) := by
  unfold f_X0_wearOf_53 at hf
  refine go_istore [none, some (.ref a1), some (.int a2), none, none, some (.int s0)] dX0_wearOf_53 (by decide) rfl ?_
  refine go_iconst 0 dX0_wearOf_55 (by decide) ?_
  refine go_aload_n 1 dX0_wearOf_56 rfl rfl ?_
  refine go_fR fl_X0_102 dX0_wearOf_57 h1 (by decide) rfl ?_
  refine go_iload_n 2 dX0_wearOf_60 rfl rfl ?_
  obtain ⟨g1, hf⟩ := gd_some hf
  refine go_rI dX0_wearOf_61 (hs.1 _ 9 0 h1 rfl) (ib_in g1) ?_
  refine go_iload dX0_wearOf_62 rfl ?_
  refine go_mmin ml_X0_95 dX0_wearOf_64 (by decide) (Nat.le_refl _) (Nat.le_refl _) (Nat.le_of_ble_eq_true rfl) ?_
  refine go_mmax ml_X0_99 dX0_wearOf_67 (by decide) (Nat.le_refl _) (Nat.le_refl _) (Nat.le_of_ble_eq_true rfl) ?_
  cases hf
  exact go_iret rfl dX0_wearOf_70 (Nat.le_refl _) ⟨rfl, rfl⟩
set_option maxRecDepth 100000 in
set_option maxHeartbeats 4000000 in
theorem t_X0_wearOf {N : Nat} {Γ : SG} {ρ : Nat → Nat → Nat} (hs : Sh Γ ρ) {this : Nat} {a1 : Nat} {a2 : Int32} {a3 : Int32} {a4 : Int32} (h0 : Γ[this]? = some (0, 0)) (h1 : Γ[a1]? = some (0, 9)) {σ : St} {r : Int32} {σr : St} (hf : f_X0_wearOf N ρ this a1 a2 a3 a4 σ = some (r, σr)) : Tri mX0_wearOf 2 0 0 [.ref this, .ref a1, .int a2, .int a3, .int a4] (hp Γ ρ σ) (Ki Γ ρ r σr) := by
  unfold f_X0_wearOf at hf
  refine tri_of [some (.ref this), some (.ref a1), some (.int a2), some (.int a3), some (.int a4), none] (plainFor_of_name rfl) rfl (Nat.le_of_ble_eq_true rfl) ?_
  refine go_aload_n 0 dX0_wearOf_0 rfl rfl ?_
  refine go_iload_n 2 dX0_wearOf_1 rfl rfl ?_
  obtain ⟨r2, σ3, q4, hf⟩ := bnd_some hf
  refine go_Vi (av := [.int a2]) (rest := []) (t_X0_hasStool hs h0 q4) ok_X0_hasStool ml_X0_70 dX0_wearOf_2 h0 rfl rfl (by decide) (Nat.le_refl _) (Nat.le_refl _) (Nat.le_of_ble_eq_true rfl) ?_
  refine go_if_eq 16 dX0_wearOf_5 (by decide) (fun c5 => ?_) (fun c5 => ?_)
  · replace hf := (if_pos c5).symm.trans hf
    refine go_msk [false, false, false, false, false, false] [none, none, none, none, none, none] rfl ?_
    exact w_X0_wearOf_16 hs h0 h1 σ3 hf
  · replace hf := (if_neg c5).symm.trans hf
    refine go_aload_n 0 dX0_wearOf_8 rfl rfl ?_
    refine go_iload_n 3 dX0_wearOf_9 rfl rfl ?_
    obtain ⟨r6, σ7, q8, hf⟩ := bnd_some hf
    refine go_Vi (av := [.int a3]) (rest := []) (t_X0_hasHearth hs h0 q8) ok_X0_hasHearth ml_X0_74 dX0_wearOf_10 h0 rfl rfl (by decide) (Nat.le_refl _) (Nat.le_refl _) (Nat.le_of_ble_eq_true rfl) ?_
    refine go_if_ne 18 dX0_wearOf_13 (by decide) (fun c9 => ?_) (fun c9 => ?_)
    · replace hf := (if_neg c9).symm.trans hf
      refine go_aload_n 0 dX0_wearOf_18 rfl rfl ?_
      refine go_aload_n 1 dX0_wearOf_19 rfl rfl ?_
      refine go_iload_n 2 dX0_wearOf_20 rfl rfl ?_
      refine go_iload_n 3 dX0_wearOf_21 rfl rfl ?_
      refine go_iload dX0_wearOf_22 rfl ?_
      refine go_iconst 0 dX0_wearOf_24 (by decide) ?_
      obtain ⟨r10, σ11, q12, hf⟩ := bnd_some hf
      refine go_Vv (av := [.ref a1, .int a2, .int a3, .int a4, .int 0]) (rest := []) (t_X0_setTerms hs h0 h1 q12) ok_X0_setTerms ml_X0_83 dX0_wearOf_25 h0 rfl rfl (by decide) (Nat.le_refl _) (Nat.le_refl _) (Nat.le_of_ble_eq_true rfl) ?_
      refine go_aload_n 0 dX0_wearOf_28 rfl rfl ?_
      refine go_fR fl_X0_43 dX0_wearOf_29 h0 (by decide) rfl ?_
      obtain ⟨r13, σ14, q15, hf⟩ := bnd_some hf
      refine go_Vi (av := []) (rest := []) (t_X1_isTold hs (hs.1 _ 0 9 h0 rfl) q15) ok_X1_isTold ml_X0_87 dX0_wearOf_32 (hs.1 _ 0 9 h0 rfl) rfl rfl (by decide) (Nat.le_refl _) (Nat.le_refl _) (Nat.le_of_ble_eq_true rfl) ?_
      refine go_if_eq 52 dX0_wearOf_35 (by decide) (fun c16 => ?_) (fun c16 => ?_)
      · replace hf := (if_pos c16).symm.trans hf
        refine go_iconst 1 dX0_wearOf_52 (by decide) ?_
        refine go_msk [false, true, true, false, false, false] [none, some (.ref a1), some (.int a2), none, none, none] rfl ?_
        exact w_X0_wearOf_53 hs h0 h1 1 σ14 hf
      · replace hf := (if_neg c16).symm.trans hf
        refine go_aload_n 0 dX0_wearOf_38 rfl rfl ?_
        refine go_fR fl_X0_43 dX0_wearOf_39 h0 (by decide) rfl ?_
        refine go_aload_n 0 dX0_wearOf_42 rfl rfl ?_
        refine go_fR fl_X0_48 dX0_wearOf_43 h0 (by decide) rfl ?_
        obtain ⟨r17, σ18, q19, hf⟩ := bnd_some hf
        refine go_Vi (av := [.ref (ρ this 10)]) (rest := []) (t_X1_valueBy hs (hs.1 _ 0 9 h0 rfl) (hs.1 _ 0 10 h0 rfl) q19) ok_X1_valueBy ml_X0_91 dX0_wearOf_46 (hs.1 _ 0 9 h0 rfl) rfl rfl (by decide) (Nat.le_refl _) (Nat.le_refl _) (Nat.le_of_ble_eq_true rfl) ?_
        refine go_goto 53 dX0_wearOf_49 (by decide) ?_
        refine go_msk [false, true, true, false, false, false] [none, some (.ref a1), some (.int a2), none, none, none] rfl ?_
        exact w_X0_wearOf_53 hs h0 h1 r17 σ18 hf
    · replace hf := (if_pos c9).symm.trans hf
      refine go_msk [false, false, false, false, false, false] [none, none, none, none, none, none] rfl ?_
      exact w_X0_wearOf_16 hs h0 h1 σ7 hf
def f_X0_bearing_67 (N : Nat) (ρ : Nat → Nat → Nat) (this : Nat) (a1 : Nat) (a2 : Int32) (a3 : Int32) (a4 : Int32) (a5 : Int32) (rec6 : Int32 → Int32 → St → Option (Int32 × St)) (x6 : Int32) (x7 : Int32) (σ : St) : Option (Int32 × St) :=
  rec6 x6 (x7 + 1) σ
def f_X0_bearing_29 (N : Nat) (ρ : Nat → Nat → Nat) (this : Nat) (a1 : Nat) (a2 : Int32) (a3 : Int32) (a4 : Int32) (a5 : Int32) (rec6 : Int32 → Int32 → St → Option (Int32 × St)) (x6 : Int32) (x7 : Int32) (s0 : Int32) (σ : St) : Option (Int32 × St) :=
  if (s0 : Int32) = 0 then
    f_X0_bearing_67 N ρ this a1 a2 a3 a4 a5 rec6 x6 x7 σ
  else
    bnd (f_X0_loadOf N ρ this a1 x7 a2 a4 a5 σ) fun r2 σ3 =>
    gd (ib x7 5) <|
    if (σ3.1 (ρ a1 0) x7.toNatClampNeg) < (r2 : Int32) then
      f_X0_bearing_67 N ρ this a1 a2 a3 a4 a5 rec6 x6 x7 σ3
    else
      nmd (x6 ||| (1 <<< (x7 &&& 31))) fun y7 =>
      f_X0_bearing_67 N ρ this a1 a2 a3 a4 a5 rec6 y7 x7 σ3
def b_X0_bearing_6 (N : Nat) (ρ : Nat → Nat → Nat) (this : Nat) (a1 : Nat) (a2 : Int32) (a3 : Int32) (a4 : Int32) (a5 : Int32) (rec6 : Int32 → Int32 → St → Option (Int32 × St)) (x6 : Int32) (x7 : Int32) (σ : St) : Option (Int32 × St) :=
  if (σ.1 this 12) ≤ (x7 : Int32) then
    some (x6, σ)
  else
    if ((a3 >>> (x7 &&& 31)) &&& 1 : Int32) = 0 then
      f_X0_bearing_29 N ρ this a1 a2 a3 a4 a5 rec6 x6 x7 0 σ
    else
      f_X0_bearing_29 N ρ this a1 a2 a3 a4 a5 rec6 x6 x7 1 σ
def f_X0_bearing_6 (N : Nat) (ρ : Nat → Nat → Nat) (this : Nat) (a1 : Nat) (a2 : Int32) (a3 : Int32) (a4 : Int32) (a5 : Int32) : Nat → Int32 → Int32 → St → Option (Int32 × St)
  | 0, _, _, _ => none
  | n + 1, x6, x7, σ => b_X0_bearing_6 N ρ this a1 a2 a3 a4 a5 (f_X0_bearing_6 N ρ this a1 a2 a3 a4 a5 n) x6 x7 σ
def f_X0_bearing (N : Nat) (ρ : Nat → Nat → Nat) (this : Nat) (a1 : Nat) (a2 : Int32) (a3 : Int32) (a4 : Int32) (a5 : Int32) (σ : St) : Option (Int32 × St) :=
  f_X0_bearing_6 N ρ this a1 a2 a3 a4 a5 N 0 0 σ
set_option maxRecDepth 100000 in
set_option maxHeartbeats 4000000 in
theorem w_X0_bearing_67 {N : Nat} {Γ : SG} {ρ : Nat → Nat → Nat} (hs : Sh Γ ρ) {this : Nat} {a1 : Nat} {a2 : Int32} {a3 : Int32} {a4 : Int32} {a5 : Int32} (h0 : Γ[this]? = some (0, 0)) (h1 : Γ[a1]? = some (0, 9)) {n0 : Nat} {r : Int32} {σr : St} (rec6 : Int32 → Int32 → St → Option (Int32 × St)) (hrec6 : ∀ (x6 : Int32) (x7 : Int32) (σ : St), rec6 x6 x7 σ = some (r, σr) → Go mX0_bearing 3 0 0 n0 (Ki Γ ρ r σr) 0 0 6 [some (.ref this), some (.ref a1), some (.int a2), some (.int a3), some (.int a4), some (.int a5), some (.int x6), some (.int x7), none] [] (hp Γ ρ σ)) (x6 : Int32) (x7 : Int32) (σ : St) (hf : f_X0_bearing_67 N ρ this a1 a2 a3 a4 a5 rec6 x6 x7 σ = some (r, σr)) : Go mX0_bearing 3 0 0 n0 (Ki Γ ρ r σr) 0 0 67 [some (.ref this), some (.ref a1), some (.int a2), some (.int a3), some (.int a4), some (.int a5), some (.int x6), some (.int x7), none] [] (hp Γ ρ σ) := by
  unfold f_X0_bearing_67 at hf
  refine go_iinc (x7 + 1) [some (.ref this), some (.ref a1), some (.int a2), some (.int a3), some (.int a4), some (.int a5), some (.int x6), some (.int (x7 + 1)), none] dX0_bearing_67 rfl rfl (by decide) rfl ?_
  refine go_goto 6 dX0_bearing_70 (by decide) ?_
  exact hrec6 x6 (x7 + 1) σ hf
set_option maxRecDepth 100000 in
set_option maxHeartbeats 4000000 in
theorem w_X0_bearing_29 {N : Nat} {Γ : SG} {ρ : Nat → Nat → Nat} (hs : Sh Γ ρ) {this : Nat} {a1 : Nat} {a2 : Int32} {a3 : Int32} {a4 : Int32} {a5 : Int32} (h0 : Γ[this]? = some (0, 0)) (h1 : Γ[a1]? = some (0, 9)) {n0 : Nat} {r : Int32} {σr : St} (rec6 : Int32 → Int32 → St → Option (Int32 × St)) (hrec6 : ∀ (x6 : Int32) (x7 : Int32) (σ : St), rec6 x6 x7 σ = some (r, σr) → Go mX0_bearing 3 0 0 n0 (Ki Γ ρ r σr) 0 0 6 [some (.ref this), some (.ref a1), some (.int a2), some (.int a3), some (.int a4), some (.int a5), some (.int x6), some (.int x7), none] [] (hp Γ ρ σ)) (x6 : Int32) (x7 : Int32) (s0 : Int32) (σ : St) (hf : f_X0_bearing_29 N ρ this a1 a2 a3 a4 a5 rec6 x6 x7 s0 σ = some (r, σr)) : Go mX0_bearing 3 0 0 n0 (Ki Γ ρ r σr) 0 0 29 [some (.ref this), some (.ref a1), some (.int a2), some (.int a3), some (.int a4), some (.int a5), some (.int x6), some (.int x7), none] [.int s0] (hp Γ ρ σ) := by
  unfold f_X0_bearing_29 at hf
  refine go_istore [some (.ref this), some (.ref a1), some (.int a2), some (.int a3), some (.int a4), some (.int a5), some (.int x6), some (.int x7), some (.int s0)] dX0_bearing_29 (by decide) rfl ?_
  refine go_iload dX0_bearing_31 rfl ?_
  refine go_if_eq 67 dX0_bearing_33 (by decide) (fun c1 => ?_) (fun c1 => ?_)
  · replace hf := (if_pos c1).symm.trans hf
    refine go_msk [true, true, true, true, true, true, true, true, false] [some (.ref this), some (.ref a1), some (.int a2), some (.int a3), some (.int a4), some (.int a5), some (.int x6), some (.int x7), none] rfl ?_
    exact w_X0_bearing_67 hs h0 h1 rec6 hrec6 x6 x7 σ hf
  · replace hf := (if_neg c1).symm.trans hf
    refine go_aload_n 0 dX0_bearing_36 rfl rfl ?_
    refine go_aload_n 1 dX0_bearing_37 rfl rfl ?_
    refine go_iload dX0_bearing_38 rfl ?_
    refine go_iload_n 2 dX0_bearing_40 rfl rfl ?_
    refine go_iload dX0_bearing_41 rfl ?_
    refine go_iload dX0_bearing_43 rfl ?_
    obtain ⟨r2, σ3, q4, hf⟩ := bnd_some hf
    refine go_Vi (av := [.ref a1, .int x7, .int a2, .int a4, .int a5]) (rest := []) (t_X0_loadOf hs h0 h1 q4) ok_X0_loadOf ml_X0_111 dX0_bearing_45 h0 rfl rfl (by decide) (Nat.le_refl _) (Nat.le_refl _) (Nat.le_of_ble_eq_true rfl) ?_
    refine go_aload_n 1 dX0_bearing_48 rfl rfl ?_
    refine go_fR fl_X0_102 dX0_bearing_49 h1 (by decide) rfl ?_
    refine go_iload dX0_bearing_52 rfl ?_
    obtain ⟨g5, hf⟩ := gd_some hf
    refine go_rI dX0_bearing_54 (hs.1 _ 9 0 h1 rfl) (ib_in g5) ?_
    refine go_icmp_gt 67 dX0_bearing_55 (by decide) (fun c6 => ?_) (fun c6 => ?_)
    · replace hf := (if_pos c6).symm.trans hf
      refine go_msk [true, true, true, true, true, true, true, true, false] [some (.ref this), some (.ref a1), some (.int a2), some (.int a3), some (.int a4), some (.int a5), some (.int x6), some (.int x7), none] rfl ?_
      exact w_X0_bearing_67 hs h0 h1 rec6 hrec6 x6 x7 σ3 hf
    · replace hf := (if_neg c6).symm.trans hf
      refine go_iload dX0_bearing_58 rfl ?_
      refine go_iconst 1 dX0_bearing_60 (by decide) ?_
      refine go_iload dX0_bearing_61 rfl ?_
      refine go_ishl dX0_bearing_63 ?_
      refine go_ior dX0_bearing_64 ?_
      obtain ⟨y7, ey7, hf⟩ := nmd_some hf
      refine go_nm ey7 ?_
      refine go_istore [some (.ref this), some (.ref a1), some (.int a2), some (.int a3), some (.int a4), some (.int a5), some (.int y7), some (.int x7), some (.int s0)] dX0_bearing_65 (by decide) rfl ?_
      refine go_msk [true, true, true, true, true, true, true, true, false] [some (.ref this), some (.ref a1), some (.int a2), some (.int a3), some (.int a4), some (.int a5), some (.int y7), some (.int x7), none] rfl ?_
      exact w_X0_bearing_67 hs h0 h1 rec6 hrec6 y7 x7 σ3 hf
set_option maxRecDepth 100000 in
set_option maxHeartbeats 4000000 in
theorem v_X0_bearing_6 {N : Nat} {Γ : SG} {ρ : Nat → Nat → Nat} (hs : Sh Γ ρ) {this : Nat} {a1 : Nat} {a2 : Int32} {a3 : Int32} {a4 : Int32} {a5 : Int32} (h0 : Γ[this]? = some (0, 0)) (h1 : Γ[a1]? = some (0, 9)) {n0 : Nat} {r : Int32} {σr : St} (rec6 : Int32 → Int32 → St → Option (Int32 × St)) (hrec6 : ∀ (x6 : Int32) (x7 : Int32) (σ : St), rec6 x6 x7 σ = some (r, σr) → Go mX0_bearing 3 0 0 n0 (Ki Γ ρ r σr) 0 0 6 [some (.ref this), some (.ref a1), some (.int a2), some (.int a3), some (.int a4), some (.int a5), some (.int x6), some (.int x7), none] [] (hp Γ ρ σ)) (x6 : Int32) (x7 : Int32) (σ : St) (hf : b_X0_bearing_6 N ρ this a1 a2 a3 a4 a5 rec6 x6 x7 σ = some (r, σr)) : Go mX0_bearing 3 0 0 n0 (Ki Γ ρ r σr) 0 0 6 [some (.ref this), some (.ref a1), some (.int a2), some (.int a3), some (.int a4), some (.int a5), some (.int x6), some (.int x7), none] [] (hp Γ ρ σ) := by
  unfold b_X0_bearing_6 at hf
  refine go_iload dX0_bearing_6 rfl ?_
  refine go_aload_n 0 dX0_bearing_8 rfl rfl ?_
  refine go_fI fl_X0_55 dX0_bearing_9 h0 (by decide) rfl ?_
  refine go_icmp_ge 73 dX0_bearing_12 (by decide) (fun c8 => ?_) (fun c8 => ?_)
  · replace hf := (if_pos c8).symm.trans hf
    refine go_iload dX0_bearing_73 rfl ?_
    cases hf
    exact go_iret rfl dX0_bearing_75 (Nat.le_refl _) ⟨rfl, rfl⟩
  · replace hf := (if_neg c8).symm.trans hf
    refine go_iload_n 3 dX0_bearing_15 rfl rfl ?_
    refine go_iload dX0_bearing_16 rfl ?_
    refine go_ishr dX0_bearing_18 ?_
    refine go_iconst 1 dX0_bearing_19 (by decide) ?_
    refine go_iand dX0_bearing_20 ?_
    refine go_if_eq 28 dX0_bearing_21 (by decide) (fun c9 => ?_) (fun c9 => ?_)
    · replace hf := (if_pos c9).symm.trans hf
      refine go_iconst 0 dX0_bearing_28 (by decide) ?_
      exact w_X0_bearing_29 hs h0 h1 rec6 hrec6 x6 x7 0 σ hf
    · replace hf := (if_neg c9).symm.trans hf
      refine go_iconst 1 dX0_bearing_24 (by decide) ?_
      refine go_goto 29 dX0_bearing_25 (by decide) ?_
      exact w_X0_bearing_29 hs h0 h1 rec6 hrec6 x6 x7 1 σ hf
theorem w_X0_bearing_6 {N : Nat} {Γ : SG} {ρ : Nat → Nat → Nat} (hs : Sh Γ ρ) {this : Nat} {a1 : Nat} {a2 : Int32} {a3 : Int32} {a4 : Int32} {a5 : Int32} (h0 : Γ[this]? = some (0, 0)) (h1 : Γ[a1]? = some (0, 9)) {n0 : Nat} {r : Int32} {σr : St} : ∀ (n : Nat) (x6 : Int32) (x7 : Int32) (σ : St), f_X0_bearing_6 N ρ this a1 a2 a3 a4 a5 n x6 x7 σ = some (r, σr) → Go mX0_bearing 3 0 0 n0 (Ki Γ ρ r σr) 0 0 6 [some (.ref this), some (.ref a1), some (.int a2), some (.int a3), some (.int a4), some (.int a5), some (.int x6), some (.int x7), none] [] (hp Γ ρ σ) := by
  intro n
  induction n with
  | zero => intro x6 x7 σ hf; cases hf
  | succ n ih => intro x6 x7 σ hf; exact v_X0_bearing_6 hs h0 h1 _ ih x6 x7 σ hf
set_option maxRecDepth 100000 in
set_option maxHeartbeats 4000000 in
theorem t_X0_bearing {N : Nat} {Γ : SG} {ρ : Nat → Nat → Nat} (hs : Sh Γ ρ) {this : Nat} {a1 : Nat} {a2 : Int32} {a3 : Int32} {a4 : Int32} {a5 : Int32} (h0 : Γ[this]? = some (0, 0)) (h1 : Γ[a1]? = some (0, 9)) {σ : St} {r : Int32} {σr : St} (hf : f_X0_bearing N ρ this a1 a2 a3 a4 a5 σ = some (r, σr)) : Tri mX0_bearing 3 0 0 [.ref this, .ref a1, .int a2, .int a3, .int a4, .int a5] (hp Γ ρ σ) (Ki Γ ρ r σr) := by
  unfold f_X0_bearing at hf
  refine tri_of [some (.ref this), some (.ref a1), some (.int a2), some (.int a3), some (.int a4), some (.int a5), none, none, none] (plainFor_of_name rfl) rfl (Nat.le_of_ble_eq_true rfl) ?_
  refine go_iconst 0 dX0_bearing_0 (by decide) ?_
  refine go_istore [some (.ref this), some (.ref a1), some (.int a2), some (.int a3), some (.int a4), some (.int a5), some (.int 0), none, none] dX0_bearing_1 (by decide) rfl ?_
  refine go_iconst 0 dX0_bearing_3 (by decide) ?_
  refine go_istore [some (.ref this), some (.ref a1), some (.int a2), some (.int a3), some (.int a4), some (.int a5), some (.int 0), some (.int 0), none] dX0_bearing_4 (by decide) rfl ?_
  exact w_X0_bearing_6 hs h0 h1 N 0 0 σ hf
