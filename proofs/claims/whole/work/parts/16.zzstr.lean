def f_J0_coder_7d493_14 (N : Nat) (ρ : Nat → Nat → Nat) (i : Nat) (s0 : Int32) (σ : St) : Option (Int32 × St) :=
  gd (nbf .byte s0) <|
  some (s0, σ)
def f_J0_coder_7d493 (N : Nat) (ρ : Nat → Nat → Nat) (i : Nat) (σ : St) : Option (Int32 × St) :=
  if (1 : Int32) = 0 then
    f_J0_coder_7d493_14 N ρ i 1 σ
  else
    f_J0_coder_7d493_14 N ρ i 0 σ
set_option maxRecDepth 100000 in
set_option maxHeartbeats 4000000 in
theorem w_J0_coder_7d493_14 {N : Nat} {Γ : SG} {ρ : Nat → Nat → Nat} (hs : Sh Γ ρ) {i : Nat} (h0 : i < 2) {n0 : Nat} {r : Int32} {σr : St} (s0 : Int32) (σ : St) (hf : f_J0_coder_7d493_14 N ρ i s0 σ = some (r, σr)) : Go mJ0_coder_7d493 0 0 0 n0 (Ki Γ ρ r σr) 0 0 14 [none] [.int s0] (hp Γ ρ σ) := by
  unfold f_J0_coder_7d493_14 at hf
  obtain ⟨g1, hf⟩ := gd_some hf
  cases hf
  exact go_nret rfl g1 dJ0_coder_7d493_14 (Nat.le_refl _) ⟨rfl, rfl⟩
set_option maxRecDepth 100000 in
set_option maxHeartbeats 4000000 in
theorem t_J0_coder_7d493 {N : Nat} {Γ : SG} {ρ : Nat → Nat → Nat} (hs : Sh Γ ρ) {i : Nat} (h0 : i < 2) {σ : St} {r : Int32} {σr : St} (hf : f_J0_coder_7d493 N ρ i σ = some (r, σr)) : Tri mJ0_coder_7d493 0 0 0 [.retAddr (1 + i)] (hp Γ ρ σ) (Ki Γ ρ r σr) := by
  unfold f_J0_coder_7d493 at hf
  refine tri_of [some (.retAddr (1 + i))] (plainFor_of_name rfl) rfl (Nat.le_of_ble_eq_true rfl) ?_
  refine go_csg sl_J0_38 dJ0_coder_7d493_0 ?_
  refine go_if_eq 13 dJ0_coder_7d493_3 (by decide) (fun c2 => ?_) (fun c2 => ?_)
  · replace hf := (if_pos c2).symm.trans hf
    refine go_iconst 1 dJ0_coder_7d493_13 (by decide) ?_
    refine go_msk [false] [none] rfl ?_
    exact w_J0_coder_7d493_14 hs h0 1 σ hf
  · replace hf := (if_neg c2).symm.trans hf
    refine go_aloadR 0 dJ0_coder_7d493_6 rfl rfl ?_
    refine go_scod h0 sl_J0_15 dJ0_coder_7d493_7 ?_
    refine go_goto 14 dJ0_coder_7d493_10 (by decide) ?_
    refine go_msk [false] [none] rfl ?_
    exact w_J0_coder_7d493_14 hs h0 0 σ hf
def f_J0_length_8abf5 (N : Nat) (ρ : Nat → Nat → Nat) (i : Nat) (σ : St) : Option (Int32 × St) :=
  bnd (f_J0_coder_7d493 N ρ i σ) fun r1 σ2 =>
  some ((nI (romL i)) >>> (r1 &&& 31), σ2)
set_option maxRecDepth 100000 in
set_option maxHeartbeats 4000000 in
theorem t_J0_length_8abf5 {N : Nat} {Γ : SG} {ρ : Nat → Nat → Nat} (hs : Sh Γ ρ) {i : Nat} (h0 : i < 2) {σ : St} {r : Int32} {σr : St} (hf : f_J0_length_8abf5 N ρ i σ = some (r, σr)) : Tri mJ0_length_8abf5 1 0 0 [.retAddr (1 + i)] (hp Γ ρ σ) (Ki Γ ρ r σr) := by
  unfold f_J0_length_8abf5 at hf
  refine tri_of [some (.retAddr (1 + i))] (plainFor_of_name rfl) rfl (Nat.le_of_ble_eq_true rfl) ?_
  refine go_aloadR 0 dJ0_length_8abf5_0 rfl rfl ?_
  refine go_sval h0 sl_J0_9 dJ0_length_8abf5_1 ?_
  refine go_blen h0 dJ0_length_8abf5_4 ?_
  refine go_aloadR 0 dJ0_length_8abf5_5 rfl rfl ?_
  obtain ⟨r1, σ2, q3, hf⟩ := bnd_some hf
  refine go_Ri (av := []) (rest := [.int (nI (romL i))]) h0 (t_J0_coder_7d493 hs h0 q3) ok_J0_coder_7d493 ml_J0_335 dJ0_length_8abf5_6 rfl rfl (by decide) (Nat.le_refl _) (Nat.le_refl _) (Nat.le_of_ble_eq_true rfl) ?_
  refine go_ishr dJ0_length_8abf5_9 ?_
  cases hf
  exact go_iret rfl dJ0_length_8abf5_10 (Nat.le_refl _) ⟨rfl, rfl⟩
def f_J0_isLatin1_aae02_18 (N : Nat) (ρ : Nat → Nat → Nat) (i : Nat) (s0 : Int32) (σ : St) : Option (Int32 × St) :=
  gd (bb s0) <|
  some (s0, σ)
def f_J0_isLatin1_aae02_17 (N : Nat) (ρ : Nat → Nat → Nat) (i : Nat) (σ : St) : Option (Int32 × St) :=
  f_J0_isLatin1_aae02_18 N ρ i 0 σ
def f_J0_isLatin1_aae02 (N : Nat) (ρ : Nat → Nat → Nat) (i : Nat) (σ : St) : Option (Int32 × St) :=
  if (1 : Int32) = 0 then
    f_J0_isLatin1_aae02_17 N ρ i σ
  else
    if (0 : Int32) = 0 then
      f_J0_isLatin1_aae02_18 N ρ i 1 σ
    else
      f_J0_isLatin1_aae02_17 N ρ i σ
set_option maxRecDepth 100000 in
set_option maxHeartbeats 4000000 in
theorem w_J0_isLatin1_aae02_18 {N : Nat} {Γ : SG} {ρ : Nat → Nat → Nat} (hs : Sh Γ ρ) {i : Nat} (h0 : i < 2) {n0 : Nat} {r : Int32} {σr : St} (s0 : Int32) (σ : St) (hf : f_J0_isLatin1_aae02_18 N ρ i s0 σ = some (r, σr)) : Go mJ0_isLatin1_aae02 0 0 0 n0 (Ki Γ ρ r σr) 0 0 18 [none] [.int s0] (hp Γ ρ σ) := by
  unfold f_J0_isLatin1_aae02_18 at hf
  obtain ⟨g1, hf⟩ := gd_some hf
  cases hf
  exact go_zret rfl (bb_of g1) dJ0_isLatin1_aae02_18 (Nat.le_refl _) ⟨rfl, rfl⟩
set_option maxRecDepth 100000 in
set_option maxHeartbeats 4000000 in
theorem w_J0_isLatin1_aae02_17 {N : Nat} {Γ : SG} {ρ : Nat → Nat → Nat} (hs : Sh Γ ρ) {i : Nat} (h0 : i < 2) {n0 : Nat} {r : Int32} {σr : St} (σ : St) (hf : f_J0_isLatin1_aae02_17 N ρ i σ = some (r, σr)) : Go mJ0_isLatin1_aae02 0 0 0 n0 (Ki Γ ρ r σr) 0 0 17 [none] [] (hp Γ ρ σ) := by
  unfold f_J0_isLatin1_aae02_17 at hf
  refine go_iconst 0 dJ0_isLatin1_aae02_17 (by decide) ?_
  exact w_J0_isLatin1_aae02_18 hs h0 0 σ hf
set_option maxRecDepth 100000 in
set_option maxHeartbeats 4000000 in
theorem t_J0_isLatin1_aae02 {N : Nat} {Γ : SG} {ρ : Nat → Nat → Nat} (hs : Sh Γ ρ) {i : Nat} (h0 : i < 2) {σ : St} {r : Int32} {σr : St} (hf : f_J0_isLatin1_aae02 N ρ i σ = some (r, σr)) : Tri mJ0_isLatin1_aae02 0 0 0 [.retAddr (1 + i)] (hp Γ ρ σ) (Ki Γ ρ r σr) := by
  unfold f_J0_isLatin1_aae02 at hf
  refine tri_of [some (.retAddr (1 + i))] (plainFor_of_name rfl) rfl (Nat.le_of_ble_eq_true rfl) ?_
  refine go_csg sl_J0_38 dJ0_isLatin1_aae02_0 ?_
  refine go_if_eq 17 dJ0_isLatin1_aae02_3 (by decide) (fun c2 => ?_) (fun c2 => ?_)
  · replace hf := (if_pos c2).symm.trans hf
    refine go_msk [false] [none] rfl ?_
    exact w_J0_isLatin1_aae02_17 hs h0 σ hf
  · replace hf := (if_neg c2).symm.trans hf
    refine go_aloadR 0 dJ0_isLatin1_aae02_6 rfl rfl ?_
    refine go_scod h0 sl_J0_15 dJ0_isLatin1_aae02_7 ?_
    refine go_if_ne 17 dJ0_isLatin1_aae02_10 (by decide) (fun c3 => ?_) (fun c3 => ?_)
    · replace hf := (if_neg c3).symm.trans hf
      refine go_msk [false] [none] rfl ?_
      exact w_J0_isLatin1_aae02_17 hs h0 σ hf
    · replace hf := (if_pos c3).symm.trans hf
      refine go_iconst 1 dJ0_isLatin1_aae02_13 (by decide) ?_
      refine go_goto 18 dJ0_isLatin1_aae02_14 (by decide) ?_
      refine go_msk [false] [none] rfl ?_
      exact w_J0_isLatin1_aae02_18 hs h0 1 σ hf
def f_J1_charAt_3b067 (N : Nat) (ρ : Nat → Nat → Nat) (a1 : Nat) (a2 : Int32) (σ : St) : Option (Int32 × St) :=
  bnd (f_J0_checkIndex_df160 N ρ a2 (nI (romL a1)) σ) fun _ σ2 =>
  gd (ib a2 (romL a1)) <|
  gd (nbf .char ((((romB a1 a2.toNatClampNeg) &&& 255).toUInt32 % 65536).toInt32)) <|
  some ((((romB a1 a2.toNatClampNeg) &&& 255).toUInt32 % 65536).toInt32, σ2)
set_option maxRecDepth 100000 in
set_option maxHeartbeats 4000000 in
theorem t_J1_charAt_3b067 {N : Nat} {Γ : SG} {ρ : Nat → Nat → Nat} (hs : Sh Γ ρ) {a1 : Nat} {a2 : Int32} (h1 : a1 < 2) {σ : St} {r : Int32} {σr : St} (hf : f_J1_charAt_3b067 N ρ a1 a2 σ = some (r, σr)) : Tri mJ1_charAt_3b067 2 0 0 [.retAddr (3 + a1), .int a2] (hp Γ ρ σ) (Ki Γ ρ r σr) := by
  unfold f_J1_charAt_3b067 at hf
  refine tri_of [some (.retAddr (3 + a1)), some (.int a2)] (plainFor_of_name rfl) rfl (Nat.le_of_ble_eq_true rfl) ?_
  refine go_iload_n 1 dJ1_charAt_3b067_0 rfl rfl ?_
  refine go_aloadR 0 dJ1_charAt_3b067_1 rfl rfl ?_
  refine go_blen h1 dJ1_charAt_3b067_2 ?_
  obtain ⟨r1, σ2, q3, hf⟩ := bnd_some hf
  refine go_Sv (av := [.int a2, .int (nI (romL a1))]) (rest := []) (t_J0_checkIndex_df160 hs  q3) ok_J0_checkIndex_df160 ml_J1_9 dJ1_charAt_3b067_3 rfl rfl (by decide) (Nat.le_refl _) (Nat.le_refl _) (Nat.le_of_ble_eq_true rfl) ?_
  refine go_aloadR 0 dJ1_charAt_3b067_6 rfl rfl ?_
  refine go_iload_n 1 dJ1_charAt_3b067_7 rfl rfl ?_
  obtain ⟨g4, hf⟩ := gd_some hf
  refine go_bld h1 dJ1_charAt_3b067_8 (ib_in g4) ?_
  refine go_sipush 255 dJ1_charAt_3b067_9 (by decide) ?_
  refine go_iand dJ1_charAt_3b067_12 ?_
  refine go_i2c dJ1_charAt_3b067_13 ?_
  obtain ⟨g5, hf⟩ := gd_some hf
  cases hf
  exact go_nret rfl g5 dJ1_charAt_3b067_14 (Nat.le_refl _) ⟨rfl, rfl⟩
def f_J0_charAt_5068e (N : Nat) (ρ : Nat → Nat → Nat) (i : Nat) (a1 : Int32) (σ : St) : Option (Int32 × St) :=
  bnd (f_J0_isLatin1_aae02 N ρ i σ) fun r1 σ2 =>
  if (r1 : Int32) = 0 then
    none
  else
    bnd (f_J1_charAt_3b067 N ρ i a1 σ2) fun r5 σ6 =>
    gd (nbf .char r5) <|
    some (r5, σ6)
set_option maxRecDepth 100000 in
set_option maxHeartbeats 4000000 in
theorem t_J0_charAt_5068e {N : Nat} {Γ : SG} {ρ : Nat → Nat → Nat} (hs : Sh Γ ρ) {i : Nat} {a1 : Int32} (h0 : i < 2) {σ : St} {r : Int32} {σr : St} (hf : f_J0_charAt_5068e N ρ i a1 σ = some (r, σr)) : Tri mJ0_charAt_5068e 3 0 0 [.retAddr (1 + i), .int a1] (hp Γ ρ σ) (Ki Γ ρ r σr) := by
  unfold f_J0_charAt_5068e at hf
  refine tri_of [some (.retAddr (1 + i)), some (.int a1)] (plainFor_of_name rfl) rfl (Nat.le_of_ble_eq_true rfl) ?_
  refine go_aloadR 0 dJ0_charAt_5068e_0 rfl rfl ?_
  obtain ⟨r1, σ2, q3, hf⟩ := bnd_some hf
  refine go_Ri (av := []) (rest := []) h0 (t_J0_isLatin1_aae02 hs h0 q3) ok_J0_isLatin1_aae02 ml_J0_492 dJ0_charAt_5068e_1 rfl rfl (by decide) (Nat.le_refl _) (Nat.le_refl _) (Nat.le_of_ble_eq_true rfl) ?_
  refine go_if_eq 16 dJ0_charAt_5068e_4 (by decide) (fun c4 => ?_) (fun c4 => ?_)
  · replace hf := (if_pos c4).symm.trans hf
    cases hf
  · replace hf := (if_neg c4).symm.trans hf
    refine go_aloadR 0 dJ0_charAt_5068e_7 rfl rfl ?_
    refine go_sval h0 sl_J0_9 dJ0_charAt_5068e_8 ?_
    refine go_iload_n 1 dJ0_charAt_5068e_11 rfl rfl ?_
    obtain ⟨r5, σ6, q7, hf⟩ := bnd_some hf
    refine go_Si (av := [.retAddr (3 + i), .int a1]) (rest := []) (t_J1_charAt_3b067 hs h0 q7) ok_J1_charAt_3b067 ml_J0_495 dJ0_charAt_5068e_12 rfl rfl (by decide) (Nat.le_refl _) (Nat.le_refl _) (Nat.le_of_ble_eq_true rfl) ?_
    obtain ⟨g8, hf⟩ := gd_some hf
    cases hf
    exact go_nret rfl g8 dJ0_charAt_5068e_15 (Nat.le_refl _) ⟨rfl, rfl⟩
def f_J1_canEncode_9a6ad_16 (N : Nat) (ρ : Nat → Nat → Nat) (a1 : Int32) (s0 : Int32) (σ : St) : Option (Int32 × St) :=
  gd (bb s0) <|
  some (s0, σ)
def f_J1_canEncode_9a6ad_15 (N : Nat) (ρ : Nat → Nat → Nat) (a1 : Int32) (σ : St) : Option (Int32 × St) :=
  f_J1_canEncode_9a6ad_16 N ρ a1 0 σ
def f_J1_canEncode_9a6ad (N : Nat) (ρ : Nat → Nat → Nat) (a1 : Int32) (σ : St) : Option (Int32 × St) :=
  if (a1 : Int32) < 0 then
    f_J1_canEncode_9a6ad_15 N ρ a1 σ
  else
    if 255 < (a1 : Int32) then
      f_J1_canEncode_9a6ad_15 N ρ a1 σ
    else
      f_J1_canEncode_9a6ad_16 N ρ a1 1 σ
set_option maxRecDepth 100000 in
set_option maxHeartbeats 4000000 in
theorem w_J1_canEncode_9a6ad_16 {N : Nat} {Γ : SG} {ρ : Nat → Nat → Nat} (hs : Sh Γ ρ) {a1 : Int32} {n0 : Nat} {r : Int32} {σr : St} (s0 : Int32) (σ : St) (hf : f_J1_canEncode_9a6ad_16 N ρ a1 s0 σ = some (r, σr)) : Go mJ1_canEncode_9a6ad 0 0 0 n0 (Ki Γ ρ r σr) 0 0 16 [none] [.int s0] (hp Γ ρ σ) := by
  unfold f_J1_canEncode_9a6ad_16 at hf
  obtain ⟨g1, hf⟩ := gd_some hf
  cases hf
  exact go_zret rfl (bb_of g1) dJ1_canEncode_9a6ad_16 (Nat.le_refl _) ⟨rfl, rfl⟩
set_option maxRecDepth 100000 in
set_option maxHeartbeats 4000000 in
theorem w_J1_canEncode_9a6ad_15 {N : Nat} {Γ : SG} {ρ : Nat → Nat → Nat} (hs : Sh Γ ρ) {a1 : Int32} {n0 : Nat} {r : Int32} {σr : St} (σ : St) (hf : f_J1_canEncode_9a6ad_15 N ρ a1 σ = some (r, σr)) : Go mJ1_canEncode_9a6ad 0 0 0 n0 (Ki Γ ρ r σr) 0 0 15 [none] [] (hp Γ ρ σ) := by
  unfold f_J1_canEncode_9a6ad_15 at hf
  refine go_iconst 0 dJ1_canEncode_9a6ad_15 (by decide) ?_
  exact w_J1_canEncode_9a6ad_16 hs 0 σ hf
set_option maxRecDepth 100000 in
set_option maxHeartbeats 4000000 in
theorem t_J1_canEncode_9a6ad {N : Nat} {Γ : SG} {ρ : Nat → Nat → Nat} (hs : Sh Γ ρ) {a1 : Int32} {σ : St} {r : Int32} {σr : St} (hf : f_J1_canEncode_9a6ad N ρ a1 σ = some (r, σr)) : Tri mJ1_canEncode_9a6ad 0 0 0 [.int a1] (hp Γ ρ σ) (Ki Γ ρ r σr) := by
  unfold f_J1_canEncode_9a6ad at hf
  refine tri_of [some (.int a1)] (plainFor_of_name rfl) rfl (Nat.le_of_ble_eq_true rfl) ?_
  refine go_iload_n 0 dJ1_canEncode_9a6ad_0 rfl rfl ?_
  refine go_if_lt 15 dJ1_canEncode_9a6ad_1 (by decide) (fun c2 => ?_) (fun c2 => ?_)
  · replace hf := (if_pos c2).symm.trans hf
    refine go_msk [false] [none] rfl ?_
    exact w_J1_canEncode_9a6ad_15 hs σ hf
  · replace hf := (if_neg c2).symm.trans hf
    refine go_iload_n 0 dJ1_canEncode_9a6ad_4 rfl rfl ?_
    refine go_sipush 255 dJ1_canEncode_9a6ad_5 (by decide) ?_
    refine go_icmp_gt 15 dJ1_canEncode_9a6ad_8 (by decide) (fun c3 => ?_) (fun c3 => ?_)
    · replace hf := (if_pos c3).symm.trans hf
      refine go_msk [false] [none] rfl ?_
      exact w_J1_canEncode_9a6ad_15 hs σ hf
    · replace hf := (if_neg c3).symm.trans hf
      refine go_iconst 1 dJ1_canEncode_9a6ad_11 (by decide) ?_
      refine go_goto 16 dJ1_canEncode_9a6ad_12 (by decide) ?_
      refine go_msk [false] [none] rfl ?_
      exact w_J1_canEncode_9a6ad_16 hs 1 σ hf
def b_J1_indexOfChar_4cfef_7 (N : Nat) (ρ : Nat → Nat → Nat) (a1 : Nat) (a2 : Int32) (a3 : Int32) (a4 : Int32) (rec7 : Int32 → Int32 → St → Option (Int32 × St)) (x4 : Int32) (x5 : Int32) (σ : St) : Option (Int32 × St) :=
  if a4 ≤ (x5 : Int32) then
    some ((-1), σ)
  else
    gd (ib x5 (romL a1)) <|
    if (romB a1 x5.toNatClampNeg : Int32) = x4 then
      some (x5, σ)
    else
      rec7 x4 (x5 + 1) σ
def f_J1_indexOfChar_4cfef_7 (N : Nat) (ρ : Nat → Nat → Nat) (a1 : Nat) (a2 : Int32) (a3 : Int32) (a4 : Int32) : Nat → Int32 → Int32 → St → Option (Int32 × St)
  | 0, _, _, _ => none
  | n + 1, x4, x5, σ => b_J1_indexOfChar_4cfef_7 N ρ a1 a2 a3 a4 (f_J1_indexOfChar_4cfef_7 N ρ a1 a2 a3 a4 n) x4 x5 σ
def f_J1_indexOfChar_4cfef (N : Nat) (ρ : Nat → Nat → Nat) (a1 : Nat) (a2 : Int32) (a3 : Int32) (a4 : Int32) (σ : St) : Option (Int32 × St) :=
  nmd (a2.toInt8.toInt32) fun y4 =>
  f_J1_indexOfChar_4cfef_7 N ρ a1 a2 a3 a4 N y4 a3 σ
set_option maxRecDepth 100000 in
set_option maxHeartbeats 4000000 in
theorem v_J1_indexOfChar_4cfef_7 {N : Nat} {Γ : SG} {ρ : Nat → Nat → Nat} (hs : Sh Γ ρ) {a1 : Nat} {a2 : Int32} {a3 : Int32} {a4 : Int32} (h1 : a1 < 2) {n0 : Nat} {r : Int32} {σr : St} (rec7 : Int32 → Int32 → St → Option (Int32 × St)) (hrec7 : ∀ (x4 : Int32) (x5 : Int32) (σ : St), rec7 x4 x5 σ = some (r, σr) → Go mJ1_indexOfChar_4cfef 0 0 0 n0 (Ki Γ ρ r σr) 0 0 7 [some (.retAddr (3 + a1)), none, none, some (.int a4), some (.int x4), some (.int x5)] [] (hp Γ ρ σ)) (x4 : Int32) (x5 : Int32) (σ : St) (hf : b_J1_indexOfChar_4cfef_7 N ρ a1 a2 a3 a4 rec7 x4 x5 σ = some (r, σr)) : Go mJ1_indexOfChar_4cfef 0 0 0 n0 (Ki Γ ρ r σr) 0 0 7 [some (.retAddr (3 + a1)), none, none, some (.int a4), some (.int x4), some (.int x5)] [] (hp Γ ρ σ) := by
  unfold b_J1_indexOfChar_4cfef_7 at hf
  refine go_iload dJ1_indexOfChar_4cfef_7 rfl ?_
  refine go_iload_n 3 dJ1_indexOfChar_4cfef_9 rfl rfl ?_
  refine go_icmp_ge 31 dJ1_indexOfChar_4cfef_10 (by decide) (fun c1 => ?_) (fun c1 => ?_)
  · replace hf := (if_pos c1).symm.trans hf
    refine go_iconst (-1) dJ1_indexOfChar_4cfef_31 (by decide) ?_
    cases hf
    exact go_iret rfl dJ1_indexOfChar_4cfef_32 (Nat.le_refl _) ⟨rfl, rfl⟩
  · replace hf := (if_neg c1).symm.trans hf
    refine go_aloadR 0 dJ1_indexOfChar_4cfef_13 rfl rfl ?_
    refine go_iload dJ1_indexOfChar_4cfef_14 rfl ?_
    obtain ⟨g2, hf⟩ := gd_some hf
    refine go_bld h1 dJ1_indexOfChar_4cfef_16 (ib_in g2) ?_
    refine go_iload dJ1_indexOfChar_4cfef_17 rfl ?_
    refine go_icmp_ne 25 dJ1_indexOfChar_4cfef_19 (by decide) (fun c3 => ?_) (fun c3 => ?_)
    · replace hf := (if_neg c3).symm.trans hf
      refine go_iinc (x5 + 1) [some (.retAddr (3 + a1)), none, none, some (.int a4), some (.int x4), some (.int (x5 + 1))] dJ1_indexOfChar_4cfef_25 rfl rfl (by decide) rfl ?_
      refine go_goto 7 dJ1_indexOfChar_4cfef_28 (by decide) ?_
      exact hrec7 x4 (x5 + 1) σ hf
    · replace hf := (if_pos c3).symm.trans hf
      refine go_iload dJ1_indexOfChar_4cfef_22 rfl ?_
      cases hf
      exact go_iret rfl dJ1_indexOfChar_4cfef_24 (Nat.le_refl _) ⟨rfl, rfl⟩
theorem w_J1_indexOfChar_4cfef_7 {N : Nat} {Γ : SG} {ρ : Nat → Nat → Nat} (hs : Sh Γ ρ) {a1 : Nat} {a2 : Int32} {a3 : Int32} {a4 : Int32} (h1 : a1 < 2) {n0 : Nat} {r : Int32} {σr : St} : ∀ (n : Nat) (x4 : Int32) (x5 : Int32) (σ : St), f_J1_indexOfChar_4cfef_7 N ρ a1 a2 a3 a4 n x4 x5 σ = some (r, σr) → Go mJ1_indexOfChar_4cfef 0 0 0 n0 (Ki Γ ρ r σr) 0 0 7 [some (.retAddr (3 + a1)), none, none, some (.int a4), some (.int x4), some (.int x5)] [] (hp Γ ρ σ) := by
  intro n
  induction n with
  | zero => intro x4 x5 σ hf; cases hf
  | succ n ih => intro x4 x5 σ hf; exact v_J1_indexOfChar_4cfef_7 hs h1 _ ih x4 x5 σ hf
set_option maxRecDepth 100000 in
set_option maxHeartbeats 4000000 in
theorem t_J1_indexOfChar_4cfef {N : Nat} {Γ : SG} {ρ : Nat → Nat → Nat} (hs : Sh Γ ρ) {a1 : Nat} {a2 : Int32} {a3 : Int32} {a4 : Int32} (h1 : a1 < 2) {σ : St} {r : Int32} {σr : St} (hf : f_J1_indexOfChar_4cfef N ρ a1 a2 a3 a4 σ = some (r, σr)) : Tri mJ1_indexOfChar_4cfef 0 0 0 [.retAddr (3 + a1), .int a2, .int a3, .int a4] (hp Γ ρ σ) (Ki Γ ρ r σr) := by
  unfold f_J1_indexOfChar_4cfef at hf
  refine tri_of [some (.retAddr (3 + a1)), some (.int a2), some (.int a3), some (.int a4), none, none] (plainFor_of_name rfl) rfl (Nat.le_of_ble_eq_true rfl) ?_
  refine go_iload_n 1 dJ1_indexOfChar_4cfef_0 rfl rfl ?_
  refine go_i2b dJ1_indexOfChar_4cfef_1 ?_
  obtain ⟨y4, ey4, hf⟩ := nmd_some hf
  refine go_nm ey4 ?_
  refine go_istore [some (.retAddr (3 + a1)), some (.int a2), some (.int a3), some (.int a4), some (.int y4), none] dJ1_indexOfChar_4cfef_2 (by decide) rfl ?_
  refine go_iload_n 2 dJ1_indexOfChar_4cfef_4 rfl rfl ?_
  refine go_istore [some (.retAddr (3 + a1)), some (.int a2), some (.int a3), some (.int a4), some (.int y4), some (.int a3)] dJ1_indexOfChar_4cfef_5 (by decide) rfl ?_
  refine go_msk [true, false, false, true, true, true] [some (.retAddr (3 + a1)), none, none, some (.int a4), some (.int y4), some (.int a3)] rfl ?_
  exact w_J1_indexOfChar_4cfef_7 hs h1 N y4 a3 σ hf
def f_J1_indexOf_4cfef (N : Nat) (ρ : Nat → Nat → Nat) (a1 : Nat) (a2 : Int32) (a3 : Int32) (a4 : Int32) (σ : St) : Option (Int32 × St) :=
  bnd (f_J1_canEncode_9a6ad N ρ a2 σ) fun r1 σ2 =>
  if (r1 : Int32) = 0 then
    some ((-1), σ2)
  else
    nmd (mmax a3 0) fun y5 =>
    nmd (mmin a4 (nI (romL a1))) fun y6 =>
    if (y5 : Int32) < y6 then
      bnd (f_J1_indexOfChar_4cfef N ρ a1 a2 y5 y6 σ2) fun r8 σ9 =>
      some (r8, σ9)
    else
      some ((-1), σ2)
set_option maxRecDepth 100000 in
set_option maxHeartbeats 4000000 in
theorem t_J1_indexOf_4cfef {N : Nat} {Γ : SG} {ρ : Nat → Nat → Nat} (hs : Sh Γ ρ) {a1 : Nat} {a2 : Int32} {a3 : Int32} {a4 : Int32} (h1 : a1 < 2) {σ : St} {r : Int32} {σr : St} (hf : f_J1_indexOf_4cfef N ρ a1 a2 a3 a4 σ = some (r, σr)) : Tri mJ1_indexOf_4cfef 1 0 0 [.retAddr (3 + a1), .int a2, .int a3, .int a4] (hp Γ ρ σ) (Ki Γ ρ r σr) := by
  unfold f_J1_indexOf_4cfef at hf
  refine tri_of [some (.retAddr (3 + a1)), some (.int a2), some (.int a3), some (.int a4)] (plainFor_of_name rfl) rfl (Nat.le_of_ble_eq_true rfl) ?_
  refine go_iload_n 1 dJ1_indexOf_4cfef_0 rfl rfl ?_
  obtain ⟨r1, σ2, q3, hf⟩ := bnd_some hf
  refine go_Si (av := [.int a2]) (rest := []) (t_J1_canEncode_9a6ad hs  q3) ok_J1_canEncode_9a6ad ml_J1_88 dJ1_indexOf_4cfef_1 rfl rfl (by decide) (Nat.le_refl _) (Nat.le_refl _) (Nat.le_of_ble_eq_true rfl) ?_
  refine go_if_ne 9 dJ1_indexOf_4cfef_4 (by decide) (fun c4 => ?_) (fun c4 => ?_)
  · replace hf := (if_neg c4).symm.trans hf
    refine go_iload_n 2 dJ1_indexOf_4cfef_9 rfl rfl ?_
    refine go_iconst 0 dJ1_indexOf_4cfef_10 (by decide) ?_
    refine go_mmax ml_J1_92 dJ1_indexOf_4cfef_11 (by decide) (Nat.le_refl _) (Nat.le_refl _) (Nat.le_of_ble_eq_true rfl) ?_
    obtain ⟨y5, ey5, hf⟩ := nmd_some hf
    refine go_nm ey5 ?_
    refine go_istore_n 2 [some (.retAddr (3 + a1)), some (.int a2), some (.int y5), some (.int a4)] dJ1_indexOf_4cfef_14 rfl (by decide) rfl ?_
    refine go_iload_n 3 dJ1_indexOf_4cfef_15 rfl rfl ?_
    refine go_aloadR 0 dJ1_indexOf_4cfef_16 rfl rfl ?_
    refine go_blen h1 dJ1_indexOf_4cfef_17 ?_
    refine go_mmin ml_J1_38 dJ1_indexOf_4cfef_18 (by decide) (Nat.le_refl _) (Nat.le_refl _) (Nat.le_of_ble_eq_true rfl) ?_
    obtain ⟨y6, ey6, hf⟩ := nmd_some hf
    refine go_nm ey6 ?_
    refine go_istore_n 3 [some (.retAddr (3 + a1)), some (.int a2), some (.int y5), some (.int y6)] dJ1_indexOf_4cfef_21 rfl (by decide) rfl ?_
    refine go_iload_n 2 dJ1_indexOf_4cfef_22 rfl rfl ?_
    refine go_iload_n 3 dJ1_indexOf_4cfef_23 rfl rfl ?_
    refine go_icmp_lt 29 dJ1_indexOf_4cfef_24 (by decide) (fun c7 => ?_) (fun c7 => ?_)
    · replace hf := (if_pos c7).symm.trans hf
      refine go_aloadR 0 dJ1_indexOf_4cfef_29 rfl rfl ?_
      refine go_iload_n 1 dJ1_indexOf_4cfef_30 rfl rfl ?_
      refine go_iload_n 2 dJ1_indexOf_4cfef_31 rfl rfl ?_
      refine go_iload_n 3 dJ1_indexOf_4cfef_32 rfl rfl ?_
      obtain ⟨r8, σ9, q10, hf⟩ := bnd_some hf
      refine go_Si (av := [.retAddr (3 + a1), .int a2, .int y5, .int y6]) (rest := []) (t_J1_indexOfChar_4cfef hs h1 q10) ok_J1_indexOfChar_4cfef ml_J1_95 dJ1_indexOf_4cfef_33 rfl rfl (by decide) (Nat.le_refl _) (Nat.le_refl _) (Nat.le_of_ble_eq_true rfl) ?_
      cases hf
      exact go_iret rfl dJ1_indexOf_4cfef_36 (Nat.le_refl _) ⟨rfl, rfl⟩
    · replace hf := (if_neg c7).symm.trans hf
      refine go_iconst (-1) dJ1_indexOf_4cfef_27 (by decide) ?_
      cases hf
      exact go_iret rfl dJ1_indexOf_4cfef_28 (Nat.le_refl _) ⟨rfl, rfl⟩
  · replace hf := (if_pos c4).symm.trans hf
    refine go_iconst (-1) dJ1_indexOf_4cfef_7 (by decide) ?_
    cases hf
    exact go_iret rfl dJ1_indexOf_4cfef_8 (Nat.le_refl _) ⟨rfl, rfl⟩
def f_J0_indexOf_7cf53_36 (N : Nat) (ρ : Nat → Nat → Nat) (i : Nat) (a1 : Int32) (a2 : Int32) (s0 : Int32) (σ : St) : Option (Int32 × St) :=
  some (s0, σ)
def f_J0_indexOf_7cf53 (N : Nat) (ρ : Nat → Nat → Nat) (i : Nat) (a1 : Int32) (a2 : Int32) (σ : St) : Option (Int32 × St) :=
  bnd (f_J0_isLatin1_aae02 N ρ i σ) fun r1 σ2 =>
  if (r1 : Int32) = 0 then
    none
  else
    bnd (f_J0_length_8abf5 N ρ i σ2) fun r5 σ6 =>
    bnd (f_J1_indexOf_4cfef N ρ i a1 a2 r5 σ6) fun r8 σ9 =>
    f_J0_indexOf_7cf53_36 N ρ i a1 a2 r8 σ9
set_option maxRecDepth 100000 in
set_option maxHeartbeats 4000000 in
theorem w_J0_indexOf_7cf53_36 {N : Nat} {Γ : SG} {ρ : Nat → Nat → Nat} (hs : Sh Γ ρ) {i : Nat} {a1 : Int32} {a2 : Int32} (h0 : i < 2) {n0 : Nat} {r : Int32} {σr : St} (s0 : Int32) (σ : St) (hf : f_J0_indexOf_7cf53_36 N ρ i a1 a2 s0 σ = some (r, σr)) : Go mJ0_indexOf_7cf53 2 0 0 n0 (Ki Γ ρ r σr) 0 0 36 [none, none, none] [.int s0] (hp Γ ρ σ) := by
  unfold f_J0_indexOf_7cf53_36 at hf
  cases hf
  exact go_iret rfl dJ0_indexOf_7cf53_36 (Nat.le_refl _) ⟨rfl, rfl⟩
set_option maxRecDepth 100000 in
set_option maxHeartbeats 4000000 in
theorem t_J0_indexOf_7cf53 {N : Nat} {Γ : SG} {ρ : Nat → Nat → Nat} (hs : Sh Γ ρ) {i : Nat} {a1 : Int32} {a2 : Int32} (h0 : i < 2) {σ : St} {r : Int32} {σr : St} (hf : f_J0_indexOf_7cf53 N ρ i a1 a2 σ = some (r, σr)) : Tri mJ0_indexOf_7cf53 2 0 0 [.retAddr (1 + i), .int a1, .int a2] (hp Γ ρ σ) (Ki Γ ρ r σr) := by
  unfold f_J0_indexOf_7cf53 at hf
  refine tri_of [some (.retAddr (1 + i)), some (.int a1), some (.int a2)] (plainFor_of_name rfl) rfl (Nat.le_of_ble_eq_true rfl) ?_
  refine go_aloadR 0 dJ0_indexOf_7cf53_0 rfl rfl ?_
  obtain ⟨r1, σ2, q3, hf⟩ := bnd_some hf
  refine go_Ri (av := []) (rest := []) h0 (t_J0_isLatin1_aae02 hs h0 q3) ok_J0_isLatin1_aae02 ml_J0_492 dJ0_indexOf_7cf53_1 rfl rfl (by decide) (Nat.le_refl _) (Nat.le_refl _) (Nat.le_of_ble_eq_true rfl) ?_
  refine go_if_eq 23 dJ0_indexOf_7cf53_4 (by decide) (fun c4 => ?_) (fun c4 => ?_)
  · replace hf := (if_pos c4).symm.trans hf
    cases hf
  · replace hf := (if_neg c4).symm.trans hf
    refine go_aloadR 0 dJ0_indexOf_7cf53_7 rfl rfl ?_
    refine go_sval h0 sl_J0_9 dJ0_indexOf_7cf53_8 ?_
    refine go_iload_n 1 dJ0_indexOf_7cf53_11 rfl rfl ?_
    refine go_iload_n 2 dJ0_indexOf_7cf53_12 rfl rfl ?_
    refine go_aloadR 0 dJ0_indexOf_7cf53_13 rfl rfl ?_
    obtain ⟨r5, σ6, q7, hf⟩ := bnd_some hf
    refine go_Ri (av := []) (rest := [.int a2, .int a1, .retAddr (3 + i)]) h0 (t_J0_length_8abf5 hs h0 q7) ok_J0_length_8abf5 ml_J0_505 dJ0_indexOf_7cf53_14 rfl rfl (by decide) (Nat.le_refl _) (Nat.le_refl _) (Nat.le_of_ble_eq_true rfl) ?_
    obtain ⟨r8, σ9, q10, hf⟩ := bnd_some hf
    refine go_Si (av := [.retAddr (3 + i), .int a1, .int a2, .int r5]) (rest := []) (t_J1_indexOf_4cfef hs h0 q10) ok_J1_indexOf_4cfef ml_J0_637 dJ0_indexOf_7cf53_17 rfl rfl (by decide) (Nat.le_refl _) (Nat.le_refl _) (Nat.le_of_ble_eq_true rfl) ?_
    refine go_goto 36 dJ0_indexOf_7cf53_20 (by decide) ?_
    refine go_msk [false, false, false] [none, none, none] rfl ?_
    exact w_J0_indexOf_7cf53_36 hs h0 r8 σ9 hf
def f_J0_indexOf_0f7a4 (N : Nat) (ρ : Nat → Nat → Nat) (i : Nat) (a1 : Int32) (σ : St) : Option (Int32 × St) :=
  bnd (f_J0_indexOf_7cf53 N ρ i a1 0 σ) fun r1 σ2 =>
  some (r1, σ2)
set_option maxRecDepth 100000 in
set_option maxHeartbeats 4000000 in
theorem t_J0_indexOf_0f7a4 {N : Nat} {Γ : SG} {ρ : Nat → Nat → Nat} (hs : Sh Γ ρ) {i : Nat} {a1 : Int32} (h0 : i < 2) {σ : St} {r : Int32} {σr : St} (hf : f_J0_indexOf_0f7a4 N ρ i a1 σ = some (r, σr)) : Tri mJ0_indexOf_0f7a4 3 0 0 [.retAddr (1 + i), .int a1] (hp Γ ρ σ) (Ki Γ ρ r σr) := by
  unfold f_J0_indexOf_0f7a4 at hf
  refine tri_of [some (.retAddr (1 + i)), some (.int a1)] (plainFor_of_name rfl) rfl (Nat.le_of_ble_eq_true rfl) ?_
  refine go_aloadR 0 dJ0_indexOf_0f7a4_0 rfl rfl ?_
  refine go_iload_n 1 dJ0_indexOf_0f7a4_1 rfl rfl ?_
  refine go_iconst 0 dJ0_indexOf_0f7a4_2 (by decide) ?_
  obtain ⟨r1, σ2, q3, hf⟩ := bnd_some hf
  refine go_Ri (av := [.int a1, .int 0]) (rest := []) h0 (t_J0_indexOf_7cf53 hs h0 q3) ok_J0_indexOf_7cf53 ml_J0_633 dJ0_indexOf_0f7a4_3 rfl rfl (by decide) (Nat.le_refl _) (Nat.le_refl _) (Nat.le_of_ble_eq_true rfl) ?_
  cases hf
  exact go_iret rfl dJ0_indexOf_0f7a4_6 (Nat.le_refl _) ⟨rfl, rfl⟩
