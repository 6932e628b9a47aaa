def f_X9_begin (N : Nat) (ρ : Nat → Nat → Nat) (this : Nat) (a1 : Nat) (σ : St) : Option (Int32 × St) :=
  gd (cpok 5 5 0 0 5) <|
  nmd (cpyI σ (ρ a1 5) (ρ this 0) 0 0 5) fun σ2 =>
  gd (cpok 5 5 0 0 5) <|
  nmd (cpyI σ2 (ρ a1 7) (ρ this 1) 0 0 5) fun σ4 =>
  bnd (f_J7_fill_53178 N ρ (ρ this 2) 5 0 σ4) fun _ σ6 =>
  bnd (f_J7_fill_53178 N ρ (ρ this 3) 5 (-1) σ6) fun _ σ9 =>
  nmd (sI σ9 this 4 0) fun σ11 =>
  nmd (sI σ11 this 5 (σ11.1 a1 15)) fun σ12 =>
  some (0, σ12)
set_option maxRecDepth 100000 in
set_option maxHeartbeats 4000000 in
theorem t_X9_begin {N : Nat} {Γ : SG} {ρ : Nat → Nat → Nat} (hs : Sh Γ ρ) {this : Nat} {a1 : Nat} (h0 : Γ[this]? = some (0, 9)) (h1 : Γ[a1]? = some (0, 0)) {σ : St} {r : Int32} {σr : St} (hf : f_X9_begin N ρ this a1 σ = some (r, σr)) : Tri mX9_begin 1 0 0 [.ref this, .ref a1] (hp Γ ρ σ) (Kv Γ ρ σr) := by
  unfold f_X9_begin at hf
  refine tri_of [some (.ref this), some (.ref a1)] (plainFor_of_name rfl) rfl (Nat.le_of_ble_eq_true rfl) ?_
  refine go_aload_n 1 dX9_begin_0 rfl rfl ?_
  refine go_fR fl_X9_33 dX9_begin_1 h1 (by decide) rfl ?_
  refine go_iconst 0 dX9_begin_4 (by decide) ?_
  refine go_aload_n 0 dX9_begin_5 rfl rfl ?_
  refine go_fR fl_X9_11 dX9_begin_6 h0 (by decide) rfl ?_
  refine go_iconst 0 dX9_begin_9 (by decide) ?_
  refine go_iconst 5 dX9_begin_10 (by decide) ?_
  obtain ⟨g1, hf⟩ := gd_some hf
  obtain ⟨σ2, eσ2, hf⟩ := nmd_some hf
  refine go_cpy ml_X9_36 dX9_begin_11 (hs.1 _ 0 5 h1 rfl) (hs.1 _ 9 0 h0 rfl) g1 (by decide) (Nat.le_of_ble_eq_true rfl) ?_
  rw [eσ2]
  refine go_aload_n 1 dX9_begin_14 rfl rfl ?_
  refine go_fR fl_X9_42 dX9_begin_15 h1 (by decide) rfl ?_
  refine go_iconst 0 dX9_begin_18 (by decide) ?_
  refine go_aload_n 0 dX9_begin_19 rfl rfl ?_
  refine go_fR fl_X9_17 dX9_begin_20 h0 (by decide) rfl ?_
  refine go_iconst 0 dX9_begin_23 (by decide) ?_
  refine go_iconst 5 dX9_begin_24 (by decide) ?_
  obtain ⟨g3, hf⟩ := gd_some hf
  obtain ⟨σ4, eσ4, hf⟩ := nmd_some hf
  refine go_cpy ml_X9_36 dX9_begin_25 (hs.1 _ 0 7 h1 rfl) (hs.1 _ 9 1 h0 rfl) g3 (by decide) (Nat.le_of_ble_eq_true rfl) ?_
  rw [eσ4]
  refine go_aload_n 0 dX9_begin_28 rfl rfl ?_
  refine go_fR fl_X9_20 dX9_begin_29 h0 (by decide) rfl ?_
  refine go_iconst 0 dX9_begin_32 (by decide) ?_
  obtain ⟨r5, σ6, q7, hf⟩ := bnd_some hf
  refine go_Sv (av := [.ref (ρ this 2), .int 0]) (rest := []) (t_J7_fill_53178 hs (hs.1 _ 9 2 h0 rfl) q7) ok_J7_fill_53178 ml_X9_43 dX9_begin_33 rfl rfl (by decide) (Nat.le_refl _) (Nat.le_refl _) (Nat.le_of_ble_eq_true rfl) ?_
  refine go_aload_n 0 dX9_begin_36 rfl rfl ?_
  refine go_fR fl_X9_23 dX9_begin_37 h0 (by decide) rfl ?_
  refine go_iconst (-1) dX9_begin_40 (by decide) ?_
  obtain ⟨r8, σ9, q10, hf⟩ := bnd_some hf
  refine go_Sv (av := [.ref (ρ this 3), .int (-1)]) (rest := []) (t_J7_fill_53178 hs (hs.1 _ 9 3 h0 rfl) q10) ok_J7_fill_53178 ml_X9_43 dX9_begin_41 rfl rfl (by decide) (Nat.le_refl _) (Nat.le_refl _) (Nat.le_of_ble_eq_true rfl) ?_
  refine go_aload_n 0 dX9_begin_44 rfl rfl ?_
  refine go_iconst 0 dX9_begin_45 (by decide) ?_
  obtain ⟨σ11, eσ11, hf⟩ := nmd_some hf
  refine go_pI fl_X9_26 ft_9_4 (okv_i _) dX9_begin_46 h0 (by decide) rfl ?_
  rw [eσ11]
  refine go_aload_n 0 dX9_begin_49 rfl rfl ?_
  refine go_aload_n 1 dX9_begin_50 rfl rfl ?_
  refine go_fI fl_X9_49 dX9_begin_51 h1 (by decide) rfl ?_
  obtain ⟨σ12, eσ12, hf⟩ := nmd_some hf
  refine go_pI fl_X9_30 ft_9_5 (okv_i _) dX9_begin_54 h0 (by decide) rfl ?_
  rw [eσ12]
  cases hf
  exact go_vret rfl dX9_begin_57 (Nat.le_refl _) ⟨rfl, rfl⟩
def f_X9_copy (N : Nat) (ρ : Nat → Nat → Nat) (this : Nat) (a1 : Nat) (σ : St) : Option (Int32 × St) :=
  gd (cpok 5 5 0 0 5) <|
  nmd (cpyI σ (ρ a1 0) (ρ this 0) 0 0 5) fun σ2 =>
  gd (cpok 5 5 0 0 5) <|
  nmd (cpyI σ2 (ρ a1 1) (ρ this 1) 0 0 5) fun σ4 =>
  gd (cpok 5 5 0 0 5) <|
  nmd (cpyI σ4 (ρ a1 2) (ρ this 2) 0 0 5) fun σ6 =>
  gd (cpok 5 5 0 0 5) <|
  nmd (cpyI σ6 (ρ a1 3) (ρ this 3) 0 0 5) fun σ8 =>
  nmd (sI σ8 this 4 (σ8.1 a1 4)) fun σ9 =>
  nmd (sI σ9 this 5 (σ9.1 a1 5)) fun σ10 =>
  some (0, σ10)
set_option maxRecDepth 100000 in
set_option maxHeartbeats 4000000 in
theorem t_X9_copy {N : Nat} {Γ : SG} {ρ : Nat → Nat → Nat} (hs : Sh Γ ρ) {this : Nat} {a1 : Nat} (h0 : Γ[this]? = some (0, 9)) (h1 : Γ[a1]? = some (0, 9)) {σ : St} {r : Int32} {σr : St} (hf : f_X9_copy N ρ this a1 σ = some (r, σr)) : Tri mX9_copy 1 0 0 [.ref this, .ref a1] (hp Γ ρ σ) (Kv Γ ρ σr) := by
  unfold f_X9_copy at hf
  refine tri_of [some (.ref this), some (.ref a1)] (plainFor_of_name rfl) rfl (Nat.le_of_ble_eq_true rfl) ?_
  refine go_aload_n 1 dX9_copy_0 rfl rfl ?_
  refine go_fR fl_X9_11 dX9_copy_1 h1 (by decide) rfl ?_
  refine go_iconst 0 dX9_copy_4 (by decide) ?_
  refine go_aload_n 0 dX9_copy_5 rfl rfl ?_
  refine go_fR fl_X9_11 dX9_copy_6 h0 (by decide) rfl ?_
  refine go_iconst 0 dX9_copy_9 (by decide) ?_
  refine go_iconst 5 dX9_copy_10 (by decide) ?_
  obtain ⟨g1, hf⟩ := gd_some hf
  obtain ⟨σ2, eσ2, hf⟩ := nmd_some hf
  refine go_cpy ml_X9_36 dX9_copy_11 (hs.1 _ 9 0 h1 rfl) (hs.1 _ 9 0 h0 rfl) g1 (by decide) (Nat.le_of_ble_eq_true rfl) ?_
  rw [eσ2]
  refine go_aload_n 1 dX9_copy_14 rfl rfl ?_
  refine go_fR fl_X9_17 dX9_copy_15 h1 (by decide) rfl ?_
  refine go_iconst 0 dX9_copy_18 (by decide) ?_
  refine go_aload_n 0 dX9_copy_19 rfl rfl ?_
  refine go_fR fl_X9_17 dX9_copy_20 h0 (by decide) rfl ?_
  refine go_iconst 0 dX9_copy_23 (by decide) ?_
  refine go_iconst 5 dX9_copy_24 (by decide) ?_
  obtain ⟨g3, hf⟩ := gd_some hf
  obtain ⟨σ4, eσ4, hf⟩ := nmd_some hf
  refine go_cpy ml_X9_36 dX9_copy_25 (hs.1 _ 9 1 h1 rfl) (hs.1 _ 9 1 h0 rfl) g3 (by decide) (Nat.le_of_ble_eq_true rfl) ?_
  rw [eσ4]
  refine go_aload_n 1 dX9_copy_28 rfl rfl ?_
  refine go_fR fl_X9_20 dX9_copy_29 h1 (by decide) rfl ?_
  refine go_iconst 0 dX9_copy_32 (by decide) ?_
  refine go_aload_n 0 dX9_copy_33 rfl rfl ?_
  refine go_fR fl_X9_20 dX9_copy_34 h0 (by decide) rfl ?_
  refine go_iconst 0 dX9_copy_37 (by decide) ?_
  refine go_iconst 5 dX9_copy_38 (by decide) ?_
  obtain ⟨g5, hf⟩ := gd_some hf
  obtain ⟨σ6, eσ6, hf⟩ := nmd_some hf
  refine go_cpy ml_X9_36 dX9_copy_39 (hs.1 _ 9 2 h1 rfl) (hs.1 _ 9 2 h0 rfl) g5 (by decide) (Nat.le_of_ble_eq_true rfl) ?_
  rw [eσ6]
  refine go_aload_n 1 dX9_copy_42 rfl rfl ?_
  refine go_fR fl_X9_23 dX9_copy_43 h1 (by decide) rfl ?_
  refine go_iconst 0 dX9_copy_46 (by decide) ?_
  refine go_aload_n 0 dX9_copy_47 rfl rfl ?_
  refine go_fR fl_X9_23 dX9_copy_48 h0 (by decide) rfl ?_
  refine go_iconst 0 dX9_copy_51 (by decide) ?_
  refine go_iconst 5 dX9_copy_52 (by decide) ?_
  obtain ⟨g7, hf⟩ := gd_some hf
  obtain ⟨σ8, eσ8, hf⟩ := nmd_some hf
  refine go_cpy ml_X9_36 dX9_copy_53 (hs.1 _ 9 3 h1 rfl) (hs.1 _ 9 3 h0 rfl) g7 (by decide) (Nat.le_of_ble_eq_true rfl) ?_
  rw [eσ8]
  refine go_aload_n 0 dX9_copy_56 rfl rfl ?_
  refine go_aload_n 1 dX9_copy_57 rfl rfl ?_
  refine go_fI fl_X9_26 dX9_copy_58 h1 (by decide) rfl ?_
  obtain ⟨σ9, eσ9, hf⟩ := nmd_some hf
  refine go_pI fl_X9_26 ft_9_4 (okv_i _) dX9_copy_61 h0 (by decide) rfl ?_
  rw [eσ9]
  refine go_aload_n 0 dX9_copy_64 rfl rfl ?_
  refine go_aload_n 1 dX9_copy_65 rfl rfl ?_
  refine go_fI fl_X9_30 dX9_copy_66 h1 (by decide) rfl ?_
  obtain ⟨σ10, eσ10, hf⟩ := nmd_some hf
  refine go_pI fl_X9_30 ft_9_5 (okv_i _) dX9_copy_69 h0 (by decide) rfl ?_
  rw [eσ10]
  cases hf
  exact go_vret rfl dX9_copy_72 (Nat.le_refl _) ⟨rfl, rfl⟩
def f_X9_keepIn_13 (N : Nat) (ρ : Nat → Nat → Nat) (this : Nat) (a1 n1 : Nat) (a2 : Int32) (σ : St) : Option (Int32 × St) :=
  some (0, σ)
def f_X9_keepIn (N : Nat) (ρ : Nat → Nat → Nat) (this : Nat) (a1 n1 : Nat) (a2 : Int32) (σ : St) : Option (Int32 × St) :=
  if (a2 : Int32) < 0 then
    f_X9_keepIn_13 N ρ this a1 n1 a2 σ
  else
    if (a2 : Int32) ≤ ((nI n1) - 22) then
      gd (cpok 5 n1 0 a2 5) <|
      nmd (cpyI σ (ρ this 0) a1 0 a2 5) fun σ4 =>
      gd (cpok 5 n1 0 (a2 + 5) 5) <|
      nmd (cpyI σ4 (ρ this 1) a1 0 (a2 + 5) 5) fun σ6 =>
      gd (cpok 5 n1 0 (a2 + (2 * 5)) 5) <|
      nmd (cpyI σ6 (ρ this 2) a1 0 (a2 + (2 * 5)) 5) fun σ8 =>
      gd (cpok 5 n1 0 (a2 + (3 * 5)) 5) <|
      nmd (cpyI σ8 (ρ this 3) a1 0 (a2 + (3 * 5)) 5) fun σ10 =>
      gd (ib (a2 + (4 * 5)) n1) <|
      nmd (sI σ10 a1 (a2 + (4 * 5)).toNatClampNeg (σ10.1 this 4)) fun σ12 =>
      gd (ib ((a2 + (4 * 5)) + 1) n1) <|
      nmd (sI σ12 a1 ((a2 + (4 * 5)) + 1).toNatClampNeg (σ12.1 this 5)) fun σ14 =>
      some (0, σ14)
    else
      f_X9_keepIn_13 N ρ this a1 n1 a2 σ
set_option maxRecDepth 100000 in
set_option maxHeartbeats 4000000 in
theorem w_X9_keepIn_13 {N : Nat} {Γ : SG} {ρ : Nat → Nat → Nat} (hs : Sh Γ ρ) {this : Nat} {a1 n1 : Nat} {a2 : Int32} (h0 : Γ[this]? = some (0, 9)) (h1 : Γ[a1]? = some (1, n1)) {n0 : Nat} {r : Int32} {σr : St} (σ : St) (hf : f_X9_keepIn_13 N ρ this a1 n1 a2 σ = some (r, σr)) : Go mX9_keepIn 1 0 0 n0 (Kv Γ ρ σr) 0 0 13 [none, none, none, none] [] (hp Γ ρ σ) := by
  unfold f_X9_keepIn_13 at hf
  cases hf
  exact go_vret rfl dX9_keepIn_13 (Nat.le_refl _) ⟨rfl, rfl⟩
set_option maxRecDepth 100000 in
set_option maxHeartbeats 4000000 in
theorem t_X9_keepIn {N : Nat} {Γ : SG} {ρ : Nat → Nat → Nat} (hs : Sh Γ ρ) {this : Nat} {a1 n1 : Nat} {a2 : Int32} (h0 : Γ[this]? = some (0, 9)) (h1 : Γ[a1]? = some (1, n1)) {σ : St} {r : Int32} {σr : St} (hf : f_X9_keepIn N ρ this a1 n1 a2 σ = some (r, σr)) : Tri mX9_keepIn 1 0 0 [.ref this, .ref a1, .int a2] (hp Γ ρ σ) (Kv Γ ρ σr) := by
  unfold f_X9_keepIn at hf
  refine tri_of [some (.ref this), some (.ref a1), some (.int a2), none] (plainFor_of_name rfl) rfl (Nat.le_of_ble_eq_true rfl) ?_
  refine go_iload_n 2 dX9_keepIn_0 rfl rfl ?_
  refine go_if_lt 13 dX9_keepIn_1 (by decide) (fun c1 => ?_) (fun c1 => ?_)
  · replace hf := (if_pos c1).symm.trans hf
    refine go_msk [false, false, false, false] [none, none, none, none] rfl ?_
    exact w_X9_keepIn_13 hs h0 h1 σ hf
  · replace hf := (if_neg c1).symm.trans hf
    refine go_iload_n 2 dX9_keepIn_4 rfl rfl ?_
    refine go_aload_n 1 dX9_keepIn_5 rfl rfl ?_
    refine go_len dX9_keepIn_6 h1 (by decide) ?_
    refine go_bipush 22 dX9_keepIn_7 (by decide) ?_
    refine go_isub dX9_keepIn_9 ?_
    refine go_icmp_le 14 dX9_keepIn_10 (by decide) (fun c2 => ?_) (fun c2 => ?_)
    · replace hf := (if_pos c2).symm.trans hf
      refine go_iconst 5 dX9_keepIn_14 (by decide) ?_
      refine go_istore_n 3 [some (.ref this), some (.ref a1), some (.int a2), some (.int 5)] dX9_keepIn_15 rfl (by decide) rfl ?_
      refine go_aload_n 0 dX9_keepIn_16 rfl rfl ?_
      refine go_fR fl_X9_11 dX9_keepIn_17 h0 (by decide) rfl ?_
      refine go_iconst 0 dX9_keepIn_20 (by decide) ?_
      refine go_aload_n 1 dX9_keepIn_21 rfl rfl ?_
      refine go_iload_n 2 dX9_keepIn_22 rfl rfl ?_
      refine go_iload_n 3 dX9_keepIn_23 rfl rfl ?_
      obtain ⟨g3, hf⟩ := gd_some hf
      obtain ⟨σ4, eσ4, hf⟩ := nmd_some hf
      refine go_cpy ml_X9_36 dX9_keepIn_24 (hs.1 _ 9 0 h0 rfl) h1 g3 (by decide) (Nat.le_of_ble_eq_true rfl) ?_
      rw [eσ4]
      refine go_aload_n 0 dX9_keepIn_27 rfl rfl ?_
      refine go_fR fl_X9_17 dX9_keepIn_28 h0 (by decide) rfl ?_
      refine go_iconst 0 dX9_keepIn_31 (by decide) ?_
      refine go_aload_n 1 dX9_keepIn_32 rfl rfl ?_
      refine go_iload_n 2 dX9_keepIn_33 rfl rfl ?_
      refine go_iload_n 3 dX9_keepIn_34 rfl rfl ?_
      refine go_iadd dX9_keepIn_35 ?_
      refine go_iload_n 3 dX9_keepIn_36 rfl rfl ?_
      obtain ⟨g5, hf⟩ := gd_some hf
      obtain ⟨σ6, eσ6, hf⟩ := nmd_some hf
      refine go_cpy ml_X9_36 dX9_keepIn_37 (hs.1 _ 9 1 h0 rfl) h1 g5 (by decide) (Nat.le_of_ble_eq_true rfl) ?_
      rw [eσ6]
      refine go_aload_n 0 dX9_keepIn_40 rfl rfl ?_
      refine go_fR fl_X9_20 dX9_keepIn_41 h0 (by decide) rfl ?_
      refine go_iconst 0 dX9_keepIn_44 (by decide) ?_
      refine go_aload_n 1 dX9_keepIn_45 rfl rfl ?_
      refine go_iload_n 2 dX9_keepIn_46 rfl rfl ?_
      refine go_iconst 2 dX9_keepIn_47 (by decide) ?_
      refine go_iload_n 3 dX9_keepIn_48 rfl rfl ?_
      refine go_imul dX9_keepIn_49 ?_
      refine go_iadd dX9_keepIn_50 ?_
      refine go_iload_n 3 dX9_keepIn_51 rfl rfl ?_
      obtain ⟨g7, hf⟩ := gd_some hf
      obtain ⟨σ8, eσ8, hf⟩ := nmd_some hf
      refine go_cpy ml_X9_36 dX9_keepIn_52 (hs.1 _ 9 2 h0 rfl) h1 g7 (by decide) (Nat.le_of_ble_eq_true rfl) ?_
      rw [eσ8]
      refine go_aload_n 0 dX9_keepIn_55 rfl rfl ?_
      refine go_fR fl_X9_23 dX9_keepIn_56 h0 (by decide) rfl ?_
      refine go_iconst 0 dX9_keepIn_59 (by decide) ?_
      refine go_aload_n 1 dX9_keepIn_60 rfl rfl ?_
      refine go_iload_n 2 dX9_keepIn_61 rfl rfl ?_
      refine go_iconst 3 dX9_keepIn_62 (by decide) ?_
      refine go_iload_n 3 dX9_keepIn_63 rfl rfl ?_
      refine go_imul dX9_keepIn_64 ?_
      refine go_iadd dX9_keepIn_65 ?_
      refine go_iload_n 3 dX9_keepIn_66 rfl rfl ?_
      obtain ⟨g9, hf⟩ := gd_some hf
      obtain ⟨σ10, eσ10, hf⟩ := nmd_some hf
      refine go_cpy ml_X9_36 dX9_keepIn_67 (hs.1 _ 9 3 h0 rfl) h1 g9 (by decide) (Nat.le_of_ble_eq_true rfl) ?_
      rw [eσ10]
      refine go_aload_n 1 dX9_keepIn_70 rfl rfl ?_
      refine go_iload_n 2 dX9_keepIn_71 rfl rfl ?_
      refine go_iconst 4 dX9_keepIn_72 (by decide) ?_
      refine go_iload_n 3 dX9_keepIn_73 rfl rfl ?_
      refine go_imul dX9_keepIn_74 ?_
      refine go_iadd dX9_keepIn_75 ?_
      refine go_aload_n 0 dX9_keepIn_76 rfl rfl ?_
      refine go_fI fl_X9_26 dX9_keepIn_77 h0 (by decide) rfl ?_
      obtain ⟨g11, hf⟩ := gd_some hf
      obtain ⟨σ12, eσ12, hf⟩ := nmd_some hf
      refine go_wI dX9_keepIn_80 h1 (ib_in g11) ?_
      rw [eσ12]
      refine go_aload_n 1 dX9_keepIn_81 rfl rfl ?_
      refine go_iload_n 2 dX9_keepIn_82 rfl rfl ?_
      refine go_iconst 4 dX9_keepIn_83 (by decide) ?_
      refine go_iload_n 3 dX9_keepIn_84 rfl rfl ?_
      refine go_imul dX9_keepIn_85 ?_
      refine go_iadd dX9_keepIn_86 ?_
      refine go_iconst 1 dX9_keepIn_87 (by decide) ?_
      refine go_iadd dX9_keepIn_88 ?_
      refine go_aload_n 0 dX9_keepIn_89 rfl rfl ?_
      refine go_fI fl_X9_30 dX9_keepIn_90 h0 (by decide) rfl ?_
      obtain ⟨g13, hf⟩ := gd_some hf
      obtain ⟨σ14, eσ14, hf⟩ := nmd_some hf
      refine go_wI dX9_keepIn_93 h1 (ib_in g13) ?_
      rw [eσ14]
      cases hf
      exact go_vret rfl dX9_keepIn_94 (Nat.le_refl _) ⟨rfl, rfl⟩
    · replace hf := (if_neg c2).symm.trans hf
      refine go_msk [false, false, false, false] [none, none, none, none] rfl ?_
      exact w_X9_keepIn_13 hs h0 h1 σ hf
def f_X9_takeFrom_13 (N : Nat) (ρ : Nat → Nat → Nat) (this : Nat) (a1 n1 : Nat) (a2 : Int32) (σ : St) : Option (Int32 × St) :=
  some (0, σ)
def f_X9_takeFrom (N : Nat) (ρ : Nat → Nat → Nat) (this : Nat) (a1 n1 : Nat) (a2 : Int32) (σ : St) : Option (Int32 × St) :=
  if (a2 : Int32) < 0 then
    f_X9_takeFrom_13 N ρ this a1 n1 a2 σ
  else
    if (a2 : Int32) ≤ ((nI n1) - 22) then
      gd (cpok n1 5 a2 0 5) <|
      nmd (cpyI σ a1 (ρ this 0) a2 0 5) fun σ4 =>
      gd (cpok n1 5 (a2 + 5) 0 5) <|
      nmd (cpyI σ4 a1 (ρ this 1) (a2 + 5) 0 5) fun σ6 =>
      gd (cpok n1 5 (a2 + (2 * 5)) 0 5) <|
      nmd (cpyI σ6 a1 (ρ this 2) (a2 + (2 * 5)) 0 5) fun σ8 =>
      gd (cpok n1 5 (a2 + (3 * 5)) 0 5) <|
      nmd (cpyI σ8 a1 (ρ this 3) (a2 + (3 * 5)) 0 5) fun σ10 =>
      gd (ib (a2 + (4 * 5)) n1) <|
      nmd (sI σ10 this 4 (σ10.1 a1 (a2 + (4 * 5)).toNatClampNeg)) fun σ12 =>
      gd (ib ((a2 + (4 * 5)) + 1) n1) <|
      nmd (sI σ12 this 5 (σ12.1 a1 ((a2 + (4 * 5)) + 1).toNatClampNeg)) fun σ14 =>
      some (0, σ14)
    else
      f_X9_takeFrom_13 N ρ this a1 n1 a2 σ
set_option maxRecDepth 100000 in
set_option maxHeartbeats 4000000 in
theorem w_X9_takeFrom_13 {N : Nat} {Γ : SG} {ρ : Nat → Nat → Nat} (hs : Sh Γ ρ) {this : Nat} {a1 n1 : Nat} {a2 : Int32} (h0 : Γ[this]? = some (0, 9)) (h1 : Γ[a1]? = some (1, n1)) {n0 : Nat} {r : Int32} {σr : St} (σ : St) (hf : f_X9_takeFrom_13 N ρ this a1 n1 a2 σ = some (r, σr)) : Go mX9_takeFrom 1 0 0 n0 (Kv Γ ρ σr) 0 0 13 [none, none, none, none] [] (hp Γ ρ σ) := by
  unfold f_X9_takeFrom_13 at hf
  cases hf
  exact go_vret rfl dX9_takeFrom_13 (Nat.le_refl _) ⟨rfl, rfl⟩
set_option maxRecDepth 100000 in
set_option maxHeartbeats 4000000 in
theorem t_X9_takeFrom {N : Nat} {Γ : SG} {ρ : Nat → Nat → Nat} (hs : Sh Γ ρ) {this : Nat} {a1 n1 : Nat} {a2 : Int32} (h0 : Γ[this]? = some (0, 9)) (h1 : Γ[a1]? = some (1, n1)) {σ : St} {r : Int32} {σr : St} (hf : f_X9_takeFrom N ρ this a1 n1 a2 σ = some (r, σr)) : Tri mX9_takeFrom 1 0 0 [.ref this, .ref a1, .int a2] (hp Γ ρ σ) (Kv Γ ρ σr) := by
  unfold f_X9_takeFrom at hf
  refine tri_of [some (.ref this), some (.ref a1), some (.int a2), none] (plainFor_of_name rfl) rfl (Nat.le_of_ble_eq_true rfl) ?_
  refine go_iload_n 2 dX9_takeFrom_0 rfl rfl ?_
  refine go_if_lt 13 dX9_takeFrom_1 (by decide) (fun c1 => ?_) (fun c1 => ?_)
  · replace hf := (if_pos c1).symm.trans hf
    refine go_msk [false, false, false, false] [none, none, none, none] rfl ?_
    exact w_X9_takeFrom_13 hs h0 h1 σ hf
  · replace hf := (if_neg c1).symm.trans hf
    refine go_iload_n 2 dX9_takeFrom_4 rfl rfl ?_
    refine go_aload_n 1 dX9_takeFrom_5 rfl rfl ?_
    refine go_len dX9_takeFrom_6 h1 (by decide) ?_
    refine go_bipush 22 dX9_takeFrom_7 (by decide) ?_
    refine go_isub dX9_takeFrom_9 ?_
    refine go_icmp_le 14 dX9_takeFrom_10 (by decide) (fun c2 => ?_) (fun c2 => ?_)
    · replace hf := (if_pos c2).symm.trans hf
      refine go_iconst 5 dX9_takeFrom_14 (by decide) ?_
      refine go_istore_n 3 [some (.ref this), some (.ref a1), some (.int a2), some (.int 5)] dX9_takeFrom_15 rfl (by decide) rfl ?_
      refine go_aload_n 1 dX9_takeFrom_16 rfl rfl ?_
      refine go_iload_n 2 dX9_takeFrom_17 rfl rfl ?_
      refine go_aload_n 0 dX9_takeFrom_18 rfl rfl ?_
      refine go_fR fl_X9_11 dX9_takeFrom_19 h0 (by decide) rfl ?_
      refine go_iconst 0 dX9_takeFrom_22 (by decide) ?_
      refine go_iload_n 3 dX9_takeFrom_23 rfl rfl ?_
      obtain ⟨g3, hf⟩ := gd_some hf
      obtain ⟨σ4, eσ4, hf⟩ := nmd_some hf
      refine go_cpy ml_X9_36 dX9_takeFrom_24 h1 (hs.1 _ 9 0 h0 rfl) g3 (by decide) (Nat.le_of_ble_eq_true rfl) ?_
      rw [eσ4]
      refine go_aload_n 1 dX9_takeFrom_27 rfl rfl ?_
      refine go_iload_n 2 dX9_takeFrom_28 rfl rfl ?_
      refine go_iload_n 3 dX9_takeFrom_29 rfl rfl ?_
      refine go_iadd dX9_takeFrom_30 ?_
      refine go_aload_n 0 dX9_takeFrom_31 rfl rfl ?_
      refine go_fR fl_X9_17 dX9_takeFrom_32 h0 (by decide) rfl ?_
      refine go_iconst 0 dX9_takeFrom_35 (by decide) ?_
      refine go_iload_n 3 dX9_takeFrom_36 rfl rfl ?_
      obtain ⟨g5, hf⟩ := gd_some hf
      obtain ⟨σ6, eσ6, hf⟩ := nmd_some hf
      refine go_cpy ml_X9_36 dX9_takeFrom_37 h1 (hs.1 _ 9 1 h0 rfl) g5 (by decide) (Nat.le_of_ble_eq_true rfl) ?_
      rw [eσ6]
      refine go_aload_n 1 dX9_takeFrom_40 rfl rfl ?_
      refine go_iload_n 2 dX9_takeFrom_41 rfl rfl ?_
      refine go_iconst 2 dX9_takeFrom_42 (by decide) ?_
      refine go_iload_n 3 dX9_takeFrom_43 rfl rfl ?_
      refine go_imul dX9_takeFrom_44 ?_
      refine go_iadd dX9_takeFrom_45 ?_
      refine go_aload_n 0 dX9_takeFrom_46 rfl rfl ?_
      refine go_fR fl_X9_20 dX9_takeFrom_47 h0 (by decide) rfl ?_
      refine go_iconst 0 dX9_takeFrom_50 (by decide) ?_
      refine go_iload_n 3 dX9_takeFrom_51 rfl rfl ?_
      obtain ⟨g7, hf⟩ := gd_some hf
      obtain ⟨σ8, eσ8, hf⟩ := nmd_some hf
      refine go_cpy ml_X9_36 dX9_takeFrom_52 h1 (hs.1 _ 9 2 h0 rfl) g7 (by decide) (Nat.le_of_ble_eq_true rfl) ?_
      rw [eσ8]
      refine go_aload_n 1 dX9_takeFrom_55 rfl rfl ?_
      refine go_iload_n 2 dX9_takeFrom_56 rfl rfl ?_
      refine go_iconst 3 dX9_takeFrom_57 (by decide) ?_
      refine go_iload_n 3 dX9_takeFrom_58 rfl rfl ?_
      refine go_imul dX9_takeFrom_59 ?_
      refine go_iadd dX9_takeFrom_60 ?_
      refine go_aload_n 0 dX9_takeFrom_61 rfl rfl ?_
      refine go_fR fl_X9_23 dX9_takeFrom_62 h0 (by decide) rfl ?_
      refine go_iconst 0 dX9_takeFrom_65 (by decide) ?_
      refine go_iload_n 3 dX9_takeFrom_66 rfl rfl ?_
      obtain ⟨g9, hf⟩ := gd_some hf
      obtain ⟨σ10, eσ10, hf⟩ := nmd_some hf
      refine go_cpy ml_X9_36 dX9_takeFrom_67 h1 (hs.1 _ 9 3 h0 rfl) g9 (by decide) (Nat.le_of_ble_eq_true rfl) ?_
      rw [eσ10]
      refine go_aload_n 0 dX9_takeFrom_70 rfl rfl ?_
      refine go_aload_n 1 dX9_takeFrom_71 rfl rfl ?_
      refine go_iload_n 2 dX9_takeFrom_72 rfl rfl ?_
      refine go_iconst 4 dX9_takeFrom_73 (by decide) ?_
      refine go_iload_n 3 dX9_takeFrom_74 rfl rfl ?_
      refine go_imul dX9_takeFrom_75 ?_
      refine go_iadd dX9_takeFrom_76 ?_
      obtain ⟨g11, hf⟩ := gd_some hf
      refine go_rI dX9_takeFrom_77 h1 (ib_in g11) ?_
      obtain ⟨σ12, eσ12, hf⟩ := nmd_some hf
      refine go_pI fl_X9_26 ft_9_4 (okv_i _) dX9_takeFrom_78 h0 (by decide) rfl ?_
      rw [eσ12]
      refine go_aload_n 0 dX9_takeFrom_81 rfl rfl ?_
      refine go_aload_n 1 dX9_takeFrom_82 rfl rfl ?_
      refine go_iload_n 2 dX9_takeFrom_83 rfl rfl ?_
      refine go_iconst 4 dX9_takeFrom_84 (by decide) ?_
      refine go_iload_n 3 dX9_takeFrom_85 rfl rfl ?_
      refine go_imul dX9_takeFrom_86 ?_
      refine go_iadd dX9_takeFrom_87 ?_
      refine go_iconst 1 dX9_takeFrom_88 (by decide) ?_
      refine go_iadd dX9_takeFrom_89 ?_
      obtain ⟨g13, hf⟩ := gd_some hf
      refine go_rI dX9_takeFrom_90 h1 (ib_in g13) ?_
      obtain ⟨σ14, eσ14, hf⟩ := nmd_some hf
      refine go_pI fl_X9_30 ft_9_5 (okv_i _) dX9_takeFrom_91 h0 (by decide) rfl ?_
      rw [eσ14]
      cases hf
      exact go_vret rfl dX9_takeFrom_94 (Nat.le_refl _) ⟨rfl, rfl⟩
    · replace hf := (if_neg c2).symm.trans hf
      refine go_msk [false, false, false, false] [none, none, none, none] rfl ?_
      exact w_X9_takeFrom_13 hs h0 h1 σ hf
def f_X9_isSaved_18 (N : Nat) (ρ : Nat → Nat → Nat) (this : Nat) (a1 : Nat) (a2 : Int32) (s0 : Int32) (σ : St) : Option (Int32 × St) :=
  gd (bb s0) <|
  some (s0, σ)
def f_X9_isSaved (N : Nat) (ρ : Nat → Nat → Nat) (this : Nat) (a1 : Nat) (a2 : Int32) (σ : St) : Option (Int32 × St) :=
  gd (ib a2 5) <|
  if (σ.1 (ρ this 2) a2.toNatClampNeg : Int32) < (σ.1 a1 13) then
    f_X9_isSaved_18 N ρ this a1 a2 0 σ
  else
    f_X9_isSaved_18 N ρ this a1 a2 1 σ
set_option maxRecDepth 100000 in
set_option maxHeartbeats 4000000 in
theorem w_X9_isSaved_18 {N : Nat} {Γ : SG} {ρ : Nat → Nat → Nat} (hs : Sh Γ ρ) {this : Nat} {a1 : Nat} {a2 : Int32} (h0 : Γ[this]? = some (0, 9)) (h1 : Γ[a1]? = some (0, 0)) {n0 : Nat} {r : Int32} {σr : St} (s0 : Int32) (σ : St) (hf : f_X9_isSaved_18 N ρ this a1 a2 s0 σ = some (r, σr)) : Go mX9_isSaved 0 0 0 n0 (Ki Γ ρ r σr) 0 0 18 [none, none, none] [.int s0] (hp Γ ρ σ) := by
  unfold f_X9_isSaved_18 at hf
  obtain ⟨g1, hf⟩ := gd_some hf
  cases hf
  exact go_zret rfl (bb_of g1) dX9_isSaved_18 (Nat.le_refl _) ⟨rfl, rfl⟩
set_option maxRecDepth 100000 in
set_option maxHeartbeats 4000000 in
theorem t_X9_isSaved {N : Nat} {Γ : SG} {ρ : Nat → Nat → Nat} (hs : Sh Γ ρ) {this : Nat} {a1 : Nat} {a2 : Int32} (h0 : Γ[this]? = some (0, 9)) (h1 : Γ[a1]? = some (0, 0)) {σ : St} {r : Int32} {σr : St} (hf : f_X9_isSaved N ρ this a1 a2 σ = some (r, σr)) : Tri mX9_isSaved 0 0 0 [.ref this, .ref a1, .int a2] (hp Γ ρ σ) (Ki Γ ρ r σr) := by
  unfold f_X9_isSaved at hf
  refine tri_of [some (.ref this), some (.ref a1), some (.int a2)] (plainFor_of_name rfl) rfl (Nat.le_of_ble_eq_true rfl) ?_
  refine go_aload_n 0 dX9_isSaved_0 rfl rfl ?_
  refine go_fR fl_X9_20 dX9_isSaved_1 h0 (by decide) rfl ?_
  refine go_iload_n 2 dX9_isSaved_4 rfl rfl ?_
  obtain ⟨g2, hf⟩ := gd_some hf
  refine go_rI dX9_isSaved_5 (hs.1 _ 9 2 h0 rfl) (ib_in g2) ?_
  refine go_aload_n 1 dX9_isSaved_6 rfl rfl ?_
  refine go_fI fl_X9_52 dX9_isSaved_7 h1 (by decide) rfl ?_
  refine go_icmp_lt 17 dX9_isSaved_10 (by decide) (fun c3 => ?_) (fun c3 => ?_)
  · replace hf := (if_pos c3).symm.trans hf
    refine go_iconst 0 dX9_isSaved_17 (by decide) ?_
    refine go_msk [false, false, false] [none, none, none] rfl ?_
    exact w_X9_isSaved_18 hs h0 h1 0 σ hf
  · replace hf := (if_neg c3).symm.trans hf
    refine go_iconst 1 dX9_isSaved_13 (by decide) ?_
    refine go_goto 18 dX9_isSaved_14 (by decide) ?_
    refine go_msk [false, false, false] [none, none, none] rfl ?_
    exact w_X9_isSaved_18 hs h0 h1 1 σ hf
def f_X9_savedBits_27 (N : Nat) (ρ : Nat → Nat → Nat) (this : Nat) (a1 : Nat) (rec4 : Int32 → Int32 → St → Option (Int32 × St)) (x2 : Int32) (x3 : Int32) (σ : St) : Option (Int32 × St) :=
  rec4 x2 (x3 + 1) σ
def b_X9_savedBits_4 (N : Nat) (ρ : Nat → Nat → Nat) (this : Nat) (a1 : Nat) (rec4 : Int32 → Int32 → St → Option (Int32 × St)) (x2 : Int32) (x3 : Int32) (σ : St) : Option (Int32 × St) :=
  if (σ.1 a1 12) ≤ (x3 : Int32) then
    some (x2, σ)
  else
    bnd (f_X9_isSaved N ρ this a1 x3 σ) fun r2 σ3 =>
    if (r2 : Int32) = 0 then
      f_X9_savedBits_27 N ρ this a1 rec4 x2 x3 σ3
    else
      nmd (x2 ||| (1 <<< (x3 &&& 31))) fun y6 =>
      f_X9_savedBits_27 N ρ this a1 rec4 y6 x3 σ3
def f_X9_savedBits_4 (N : Nat) (ρ : Nat → Nat → Nat) (this : Nat) (a1 : Nat) : Nat → Int32 → Int32 → St → Option (Int32 × St)
  | 0, _, _, _ => none
  | n + 1, x2, x3, σ => b_X9_savedBits_4 N ρ this a1 (f_X9_savedBits_4 N ρ this a1 n) x2 x3 σ
def f_X9_savedBits (N : Nat) (ρ : Nat → Nat → Nat) (this : Nat) (a1 : Nat) (σ : St) : Option (Int32 × St) :=
  f_X9_savedBits_4 N ρ this a1 N 0 0 σ
set_option maxRecDepth 100000 in
set_option maxHeartbeats 4000000 in
theorem w_X9_savedBits_27 {N : Nat} {Γ : SG} {ρ : Nat → Nat → Nat} (hs : Sh Γ ρ) {this : Nat} {a1 : Nat} (h0 : Γ[this]? = some (0, 9)) (h1 : Γ[a1]? = some (0, 0)) {n0 : Nat} {r : Int32} {σr : St} (rec4 : Int32 → Int32 → St → Option (Int32 × St)) (hrec4 : ∀ (x2 : Int32) (x3 : Int32) (σ : St), rec4 x2 x3 σ = some (r, σr) → Go mX9_savedBits 1 0 0 n0 (Ki Γ ρ r σr) 0 0 4 [some (.ref this), some (.ref a1), some (.int x2), some (.int x3)] [] (hp Γ ρ σ)) (x2 : Int32) (x3 : Int32) (σ : St) (hf : f_X9_savedBits_27 N ρ this a1 rec4 x2 x3 σ = some (r, σr)) : Go mX9_savedBits 1 0 0 n0 (Ki Γ ρ r σr) 0 0 27 [some (.ref this), some (.ref a1), some (.int x2), some (.int x3)] [] (hp Γ ρ σ) := by
  unfold f_X9_savedBits_27 at hf
  refine go_iinc (x3 + 1) [some (.ref this), some (.ref a1), some (.int x2), some (.int (x3 + 1))] dX9_savedBits_27 rfl rfl (by decide) rfl ?_
  refine go_goto 4 dX9_savedBits_30 (by decide) ?_
  exact hrec4 x2 (x3 + 1) σ hf
set_option maxRecDepth 100000 in
set_option maxHeartbeats 4000000 in
theorem v_X9_savedBits_4 {N : Nat} {Γ : SG} {ρ : Nat → Nat → Nat} (hs : Sh Γ ρ) {this : Nat} {a1 : Nat} (h0 : Γ[this]? = some (0, 9)) (h1 : Γ[a1]? = some (0, 0)) {n0 : Nat} {r : Int32} {σr : St} (rec4 : Int32 → Int32 → St → Option (Int32 × St)) (hrec4 : ∀ (x2 : Int32) (x3 : Int32) (σ : St), rec4 x2 x3 σ = some (r, σr) → Go mX9_savedBits 1 0 0 n0 (Ki Γ ρ r σr) 0 0 4 [some (.ref this), some (.ref a1), some (.int x2), some (.int x3)] [] (hp Γ ρ σ)) (x2 : Int32) (x3 : Int32) (σ : St) (hf : b_X9_savedBits_4 N ρ this a1 rec4 x2 x3 σ = some (r, σr)) : Go mX9_savedBits 1 0 0 n0 (Ki Γ ρ r σr) 0 0 4 [some (.ref this), some (.ref a1), some (.int x2), some (.int x3)] [] (hp Γ ρ σ) := by
  unfold b_X9_savedBits_4 at hf
  refine go_iload_n 3 dX9_savedBits_4 rfl rfl ?_
  refine go_aload_n 1 dX9_savedBits_5 rfl rfl ?_
  refine go_fI fl_X9_55 dX9_savedBits_6 h1 (by decide) rfl ?_
  refine go_icmp_ge 33 dX9_savedBits_9 (by decide) (fun c1 => ?_) (fun c1 => ?_)
  · replace hf := (if_pos c1).symm.trans hf
    refine go_iload_n 2 dX9_savedBits_33 rfl rfl ?_
    cases hf
    exact go_iret rfl dX9_savedBits_34 (Nat.le_refl _) ⟨rfl, rfl⟩
  · replace hf := (if_neg c1).symm.trans hf
    refine go_aload_n 0 dX9_savedBits_12 rfl rfl ?_
    refine go_aload_n 1 dX9_savedBits_13 rfl rfl ?_
    refine go_iload_n 3 dX9_savedBits_14 rfl rfl ?_
    obtain ⟨r2, σ3, q4, hf⟩ := bnd_some hf
    refine go_Vi (av := [.ref a1, .int x3]) (rest := []) (t_X9_isSaved hs h0 h1 q4) ok_X9_isSaved ml_X9_58 dX9_savedBits_15 h0 rfl rfl (by decide) (Nat.le_refl _) (Nat.le_refl _) (Nat.le_of_ble_eq_true rfl) ?_
    refine go_if_eq 27 dX9_savedBits_18 (by decide) (fun c5 => ?_) (fun c5 => ?_)
    · replace hf := (if_pos c5).symm.trans hf
      exact w_X9_savedBits_27 hs h0 h1 rec4 hrec4 x2 x3 σ3 hf
    · replace hf := (if_neg c5).symm.trans hf
      refine go_iload_n 2 dX9_savedBits_21 rfl rfl ?_
      refine go_iconst 1 dX9_savedBits_22 (by decide) ?_
      refine go_iload_n 3 dX9_savedBits_23 rfl rfl ?_
      refine go_ishl dX9_savedBits_24 ?_
      refine go_ior dX9_savedBits_25 ?_
      obtain ⟨y6, ey6, hf⟩ := nmd_some hf
      refine go_nm ey6 ?_
      refine go_istore_n 2 [some (.ref this), some (.ref a1), some (.int y6), some (.int x3)] dX9_savedBits_26 rfl (by decide) rfl ?_
      exact w_X9_savedBits_27 hs h0 h1 rec4 hrec4 y6 x3 σ3 hf
theorem w_X9_savedBits_4 {N : Nat} {Γ : SG} {ρ : Nat → Nat → Nat} (hs : Sh Γ ρ) {this : Nat} {a1 : Nat} (h0 : Γ[this]? = some (0, 9)) (h1 : Γ[a1]? = some (0, 0)) {n0 : Nat} {r : Int32} {σr : St} : ∀ (n : Nat) (x2 : Int32) (x3 : Int32) (σ : St), f_X9_savedBits_4 N ρ this a1 n x2 x3 σ = some (r, σr) → Go mX9_savedBits 1 0 0 n0 (Ki Γ ρ r σr) 0 0 4 [some (.ref this), some (.ref a1), some (.int x2), some (.int x3)] [] (hp Γ ρ σ) := by
  intro n
  induction n with
  | zero => intro x2 x3 σ hf; cases hf
  | succ n ih => intro x2 x3 σ hf; exact v_X9_savedBits_4 hs h0 h1 _ ih x2 x3 σ hf
set_option maxRecDepth 100000 in
set_option maxHeartbeats 4000000 in
theorem t_X9_savedBits {N : Nat} {Γ : SG} {ρ : Nat → Nat → Nat} (hs : Sh Γ ρ) {this : Nat} {a1 : Nat} (h0 : Γ[this]? = some (0, 9)) (h1 : Γ[a1]? = some (0, 0)) {σ : St} {r : Int32} {σr : St} (hf : f_X9_savedBits N ρ this a1 σ = some (r, σr)) : Tri mX9_savedBits 1 0 0 [.ref this, .ref a1] (hp Γ ρ σ) (Ki Γ ρ r σr) := by
  unfold f_X9_savedBits at hf
  refine tri_of [some (.ref this), some (.ref a1), none, none] (plainFor_of_name rfl) rfl (Nat.le_of_ble_eq_true rfl) ?_
  refine go_iconst 0 dX9_savedBits_0 (by decide) ?_
  refine go_istore_n 2 [some (.ref this), some (.ref a1), some (.int 0), none] dX9_savedBits_1 rfl (by decide) rfl ?_
  refine go_iconst 0 dX9_savedBits_2 (by decide) ?_
  refine go_istore_n 3 [some (.ref this), some (.ref a1), some (.int 0), some (.int 0)] dX9_savedBits_3 rfl (by decide) rfl ?_
  exact w_X9_savedBits_4 hs h0 h1 N 0 0 σ hf
def f_X9_setAt_25 (N : Nat) (ρ : Nat → Nat → Nat) (this : Nat) (a1 : Int32) (rec4 : Int32 → Int32 → St → Option (Int32 × St)) (x2 : Int32) (x3 : Int32) (σ : St) : Option (Int32 × St) :=
  rec4 x2 (x3 + 1) σ
def b_X9_setAt_4 (N : Nat) (ρ : Nat → Nat → Nat) (this : Nat) (a1 : Int32) (rec4 : Int32 → Int32 → St → Option (Int32 × St)) (x2 : Int32) (x3 : Int32) (σ : St) : Option (Int32 × St) :=
  if 5 ≤ (x3 : Int32) then
    some (x2, σ)
  else
    gd (ib x3 5) <|
    if (σ.1 (ρ this 3) x3.toNatClampNeg : Int32) = a1 then
      nmd (x2 ||| (1 <<< (x3 &&& 31))) fun y4 =>
      f_X9_setAt_25 N ρ this a1 rec4 y4 x3 σ
    else
      f_X9_setAt_25 N ρ this a1 rec4 x2 x3 σ
def f_X9_setAt_4 (N : Nat) (ρ : Nat → Nat → Nat) (this : Nat) (a1 : Int32) : Nat → Int32 → Int32 → St → Option (Int32 × St)
  | 0, _, _, _ => none
  | n + 1, x2, x3, σ => b_X9_setAt_4 N ρ this a1 (f_X9_setAt_4 N ρ this a1 n) x2 x3 σ
def f_X9_setAt (N : Nat) (ρ : Nat → Nat → Nat) (this : Nat) (a1 : Int32) (σ : St) : Option (Int32 × St) :=
  f_X9_setAt_4 N ρ this a1 N 0 0 σ
set_option maxRecDepth 100000 in
set_option maxHeartbeats 4000000 in
theorem w_X9_setAt_25 {N : Nat} {Γ : SG} {ρ : Nat → Nat → Nat} (hs : Sh Γ ρ) {this : Nat} {a1 : Int32} (h0 : Γ[this]? = some (0, 9)) {n0 : Nat} {r : Int32} {σr : St} (rec4 : Int32 → Int32 → St → Option (Int32 × St)) (hrec4 : ∀ (x2 : Int32) (x3 : Int32) (σ : St), rec4 x2 x3 σ = some (r, σr) → Go mX9_setAt 0 0 0 n0 (Ki Γ ρ r σr) 0 0 4 [some (.ref this), some (.int a1), some (.int x2), some (.int x3)] [] (hp Γ ρ σ)) (x2 : Int32) (x3 : Int32) (σ : St) (hf : f_X9_setAt_25 N ρ this a1 rec4 x2 x3 σ = some (r, σr)) : Go mX9_setAt 0 0 0 n0 (Ki Γ ρ r σr) 0 0 25 [some (.ref this), some (.int a1), some (.int x2), some (.int x3)] [] (hp Γ ρ σ) := by
  unfold f_X9_setAt_25 at hf
  refine go_iinc (x3 + 1) [some (.ref this), some (.int a1), some (.int x2), some (.int (x3 + 1))] dX9_setAt_25 rfl rfl (by decide) rfl ?_
  refine go_goto 4 dX9_setAt_28 (by decide) ?_
  exact hrec4 x2 (x3 + 1) σ hf
set_option maxRecDepth 100000 in
set_option maxHeartbeats 4000000 in
theorem v_X9_setAt_4 {N : Nat} {Γ : SG} {ρ : Nat → Nat → Nat} (hs : Sh Γ ρ) {this : Nat} {a1 : Int32} (h0 : Γ[this]? = some (0, 9)) {n0 : Nat} {r : Int32} {σr : St} (rec4 : Int32 → Int32 → St → Option (Int32 × St)) (hrec4 : ∀ (x2 : Int32) (x3 : Int32) (σ : St), rec4 x2 x3 σ = some (r, σr) → Go mX9_setAt 0 0 0 n0 (Ki Γ ρ r σr) 0 0 4 [some (.ref this), some (.int a1), some (.int x2), some (.int x3)] [] (hp Γ ρ σ)) (x2 : Int32) (x3 : Int32) (σ : St) (hf : b_X9_setAt_4 N ρ this a1 rec4 x2 x3 σ = some (r, σr)) : Go mX9_setAt 0 0 0 n0 (Ki Γ ρ r σr) 0 0 4 [some (.ref this), some (.int a1), some (.int x2), some (.int x3)] [] (hp Γ ρ σ) := by
  unfold b_X9_setAt_4 at hf
  refine go_iload_n 3 dX9_setAt_4 rfl rfl ?_
  refine go_iconst 5 dX9_setAt_5 (by decide) ?_
  refine go_icmp_ge 31 dX9_setAt_6 (by decide) (fun c1 => ?_) (fun c1 => ?_)
  · replace hf := (if_pos c1).symm.trans hf
    refine go_iload_n 2 dX9_setAt_31 rfl rfl ?_
    cases hf
    exact go_iret rfl dX9_setAt_32 (Nat.le_refl _) ⟨rfl, rfl⟩
  · replace hf := (if_neg c1).symm.trans hf
    refine go_aload_n 0 dX9_setAt_9 rfl rfl ?_
    refine go_fR fl_X9_23 dX9_setAt_10 h0 (by decide) rfl ?_
    refine go_iload_n 3 dX9_setAt_13 rfl rfl ?_
    obtain ⟨g2, hf⟩ := gd_some hf
    refine go_rI dX9_setAt_14 (hs.1 _ 9 3 h0 rfl) (ib_in g2) ?_
    refine go_iload_n 1 dX9_setAt_15 rfl rfl ?_
    refine go_icmp_ne 25 dX9_setAt_16 (by decide) (fun c3 => ?_) (fun c3 => ?_)
    · replace hf := (if_neg c3).symm.trans hf
      exact w_X9_setAt_25 hs h0 rec4 hrec4 x2 x3 σ hf
    · replace hf := (if_pos c3).symm.trans hf
      refine go_iload_n 2 dX9_setAt_19 rfl rfl ?_
      refine go_iconst 1 dX9_setAt_20 (by decide) ?_
      refine go_iload_n 3 dX9_setAt_21 rfl rfl ?_
      refine go_ishl dX9_setAt_22 ?_
      refine go_ior dX9_setAt_23 ?_
      obtain ⟨y4, ey4, hf⟩ := nmd_some hf
      refine go_nm ey4 ?_
      refine go_istore_n 2 [some (.ref this), some (.int a1), some (.int y4), some (.int x3)] dX9_setAt_24 rfl (by decide) rfl ?_
      exact w_X9_setAt_25 hs h0 rec4 hrec4 y4 x3 σ hf
theorem w_X9_setAt_4 {N : Nat} {Γ : SG} {ρ : Nat → Nat → Nat} (hs : Sh Γ ρ) {this : Nat} {a1 : Int32} (h0 : Γ[this]? = some (0, 9)) {n0 : Nat} {r : Int32} {σr : St} : ∀ (n : Nat) (x2 : Int32) (x3 : Int32) (σ : St), f_X9_setAt_4 N ρ this a1 n x2 x3 σ = some (r, σr) → Go mX9_setAt 0 0 0 n0 (Ki Γ ρ r σr) 0 0 4 [some (.ref this), some (.int a1), some (.int x2), some (.int x3)] [] (hp Γ ρ σ) := by
  intro n
  induction n with
  | zero => intro x2 x3 σ hf; cases hf
  | succ n ih => intro x2 x3 σ hf; exact v_X9_setAt_4 hs h0 _ ih x2 x3 σ hf
set_option maxRecDepth 100000 in
set_option maxHeartbeats 4000000 in
theorem t_X9_setAt {N : Nat} {Γ : SG} {ρ : Nat → Nat → Nat} (hs : Sh Γ ρ) {this : Nat} {a1 : Int32} (h0 : Γ[this]? = some (0, 9)) {σ : St} {r : Int32} {σr : St} (hf : f_X9_setAt N ρ this a1 σ = some (r, σr)) : Tri mX9_setAt 0 0 0 [.ref this, .int a1] (hp Γ ρ σ) (Ki Γ ρ r σr) := by
  unfold f_X9_setAt at hf
  refine tri_of [some (.ref this), some (.int a1), none, none] (plainFor_of_name rfl) rfl (Nat.le_of_ble_eq_true rfl) ?_
  refine go_iconst 0 dX9_setAt_0 (by decide) ?_
  refine go_istore_n 2 [some (.ref this), some (.int a1), some (.int 0), none] dX9_setAt_1 rfl (by decide) rfl ?_
  refine go_iconst 0 dX9_setAt_2 (by decide) ?_
  refine go_istore_n 3 [some (.ref this), some (.int a1), some (.int 0), some (.int 0)] dX9_setAt_3 rfl (by decide) rfl ?_
  exact w_X9_setAt_4 hs h0 N 0 0 σ hf
def f_X9_counting_49 (N : Nat) (ρ : Nat → Nat → Nat) (this : Nat) (a1 : Nat) (a2 : Int32) (rec5 : Int32 → Int32 → St → Option (Int32 × St)) (x3 : Int32) (x4 : Int32) (σ : St) : Option (Int32 × St) :=
  rec5 x3 (x4 + 1) σ
def b_X9_counting_5 (N : Nat) (ρ : Nat → Nat → Nat) (this : Nat) (a1 : Nat) (a2 : Int32) (rec5 : Int32 → Int32 → St → Option (Int32 × St)) (x3 : Int32) (x4 : Int32) (σ : St) : Option (Int32 × St) :=
  if (σ.1 a1 11) ≤ (x4 : Int32) then
    some (x3, σ)
  else
    bnd (f_X9_setAt N ρ this x4 σ) fun r2 σ3 =>
    bnd (f_X0_quarrelIn N ρ a1 r2 σ3) fun r5 σ6 =>
    if (r5 : Int32) = 0 then
      bnd (f_J6_bitCount_0f7a4 N ρ r2 σ6) fun r9 σ10 =>
      bnd (f_X0_bearing N ρ a1 this x4 r2 r9 a2 σ10) fun r12 σ13 =>
      nmd (x3 ||| r12) fun y15 =>
      f_X9_counting_49 N ρ this a1 a2 rec5 y15 x4 σ13
    else
      f_X9_counting_49 N ρ this a1 a2 rec5 x3 x4 σ6
def f_X9_counting_5 (N : Nat) (ρ : Nat → Nat → Nat) (this : Nat) (a1 : Nat) (a2 : Int32) : Nat → Int32 → Int32 → St → Option (Int32 × St)
  | 0, _, _, _ => none
  | n + 1, x3, x4, σ => b_X9_counting_5 N ρ this a1 a2 (f_X9_counting_5 N ρ this a1 a2 n) x3 x4 σ
def f_X9_counting (N : Nat) (ρ : Nat → Nat → Nat) (this : Nat) (a1 : Nat) (a2 : Int32) (σ : St) : Option (Int32 × St) :=
  f_X9_counting_5 N ρ this a1 a2 N 0 0 σ
set_option maxRecDepth 100000 in
set_option maxHeartbeats 4000000 in
theorem w_X9_counting_49 {N : Nat} {Γ : SG} {ρ : Nat → Nat → Nat} (hs : Sh Γ ρ) {this : Nat} {a1 : Nat} {a2 : Int32} (h0 : Γ[this]? = some (0, 9)) (h1 : Γ[a1]? = some (0, 0)) {n0 : Nat} {r : Int32} {σr : St} (rec5 : Int32 → Int32 → St → Option (Int32 × St)) (hrec5 : ∀ (x3 : Int32) (x4 : Int32) (σ : St), rec5 x3 x4 σ = some (r, σr) → Go mX9_counting 4 0 0 n0 (Ki Γ ρ r σr) 0 0 5 [some (.ref this), some (.ref a1), some (.int a2), some (.int x3), some (.int x4), none] [] (hp Γ ρ σ)) (x3 : Int32) (x4 : Int32) (σ : St) (hf : f_X9_counting_49 N ρ this a1 a2 rec5 x3 x4 σ = some (r, σr)) : Go mX9_counting 4 0 0 n0 (Ki Γ ρ r σr) 0 0 49 [some (.ref this), some (.ref a1), some (.int a2), some (.int x3), some (.int x4), none] [] (hp Γ ρ σ) := by
  unfold f_X9_counting_49 at hf
  refine go_iinc (x4 + 1) [some (.ref this), some (.ref a1), some (.int a2), some (.int x3), some (.int (x4 + 1)), none] dX9_counting_49 rfl rfl (by decide) rfl ?_
  refine go_goto 5 dX9_counting_52 (by decide) ?_
  exact hrec5 x3 (x4 + 1) σ hf
set_option maxRecDepth 100000 in
set_option maxHeartbeats 4000000 in
theorem v_X9_counting_5 {N : Nat} {Γ : SG} {ρ : Nat → Nat → Nat} (hs : Sh Γ ρ) {this : Nat} {a1 : Nat} {a2 : Int32} (h0 : Γ[this]? = some (0, 9)) (h1 : Γ[a1]? = some (0, 0)) {n0 : Nat} {r : Int32} {σr : St} (rec5 : Int32 → Int32 → St → Option (Int32 × St)) (hrec5 : ∀ (x3 : Int32) (x4 : Int32) (σ : St), rec5 x3 x4 σ = some (r, σr) → Go mX9_counting 4 0 0 n0 (Ki Γ ρ r σr) 0 0 5 [some (.ref this), some (.ref a1), some (.int a2), some (.int x3), some (.int x4), none] [] (hp Γ ρ σ)) (x3 : Int32) (x4 : Int32) (σ : St) (hf : b_X9_counting_5 N ρ this a1 a2 rec5 x3 x4 σ = some (r, σr)) : Go mX9_counting 4 0 0 n0 (Ki Γ ρ r σr) 0 0 5 [some (.ref this), some (.ref a1), some (.int a2), some (.int x3), some (.int x4), none] [] (hp Γ ρ σ) := by
  unfold b_X9_counting_5 at hf
  refine go_iload dX9_counting_5 rfl ?_
  refine go_aload_n 1 dX9_counting_7 rfl rfl ?_
  refine go_fI fl_X9_62 dX9_counting_8 h1 (by decide) rfl ?_
  refine go_icmp_ge 55 dX9_counting_11 (by decide) (fun c1 => ?_) (fun c1 => ?_)
  · replace hf := (if_pos c1).symm.trans hf
    refine go_iload_n 3 dX9_counting_55 rfl rfl ?_
    cases hf
    exact go_iret rfl dX9_counting_56 (Nat.le_refl _) ⟨rfl, rfl⟩
  · replace hf := (if_neg c1).symm.trans hf
    refine go_aload_n 0 dX9_counting_14 rfl rfl ?_
    refine go_iload dX9_counting_15 rfl ?_
    obtain ⟨r2, σ3, q4, hf⟩ := bnd_some hf
    refine go_Vi (av := [.int x4]) (rest := []) (t_X9_setAt hs h0 q4) ok_X9_setAt ml_X9_65 dX9_counting_17 h0 rfl rfl (by decide) (Nat.le_refl _) (Nat.le_refl _) (Nat.le_of_ble_eq_true rfl) ?_
    refine go_istore [some (.ref this), some (.ref a1), some (.int a2), some (.int x3), some (.int x4), some (.int r2)] dX9_counting_20 (by decide) rfl ?_
    refine go_aload_n 1 dX9_counting_22 rfl rfl ?_
    refine go_iload dX9_counting_23 rfl ?_
    obtain ⟨r5, σ6, q7, hf⟩ := bnd_some hf
    refine go_Vi (av := [.int r2]) (rest := []) (t_X0_quarrelIn hs h1 q7) ok_X0_quarrelIn ml_X9_69 dX9_counting_25 h1 rfl rfl (by decide) (Nat.le_refl _) (Nat.le_refl _) (Nat.le_of_ble_eq_true rfl) ?_
    refine go_if_ne 49 dX9_counting_28 (by decide) (fun c8 => ?_) (fun c8 => ?_)
    · replace hf := (if_neg c8).symm.trans hf
      refine go_msk [true, true, true, true, true, false] [some (.ref this), some (.ref a1), some (.int a2), some (.int x3), some (.int x4), none] rfl ?_
      exact w_X9_counting_49 hs h0 h1 rec5 hrec5 x3 x4 σ6 hf
    · replace hf := (if_pos c8).symm.trans hf
      refine go_iload_n 3 dX9_counting_31 rfl rfl ?_
      refine go_aload_n 1 dX9_counting_32 rfl rfl ?_
      refine go_aload_n 0 dX9_counting_33 rfl rfl ?_
      refine go_iload dX9_counting_34 rfl ?_
      refine go_iload dX9_counting_36 rfl ?_
      refine go_iload dX9_counting_38 rfl ?_
      obtain ⟨r9, σ10, q11, hf⟩ := bnd_some hf
      refine go_Si (av := [.int r2]) (rest := [.int r2, .int x4, .ref this, .ref a1, .int x3]) (t_J6_bitCount_0f7a4 hs  q11) ok_J6_bitCount_0f7a4 ml_X9_73 dX9_counting_40 rfl rfl (by decide) (Nat.le_refl _) (Nat.le_refl _) (Nat.le_of_ble_eq_true rfl) ?_
      refine go_iload_n 2 dX9_counting_43 rfl rfl ?_
      obtain ⟨r12, σ13, q14, hf⟩ := bnd_some hf
      refine go_Vi (av := [.ref this, .int x4, .int r2, .int r9, .int a2]) (rest := [.int x3]) (t_X0_bearing hs h1 h0 q14) ok_X0_bearing ml_X9_78 dX9_counting_44 h1 rfl rfl (by decide) (Nat.le_refl _) (Nat.le_refl _) (Nat.le_of_ble_eq_true rfl) ?_
      refine go_ior dX9_counting_47 ?_
      obtain ⟨y15, ey15, hf⟩ := nmd_some hf
      refine go_nm ey15 ?_
      refine go_istore_n 3 [some (.ref this), some (.ref a1), some (.int a2), some (.int y15), some (.int x4), some (.int r2)] dX9_counting_48 rfl (by decide) rfl ?_
      refine go_msk [true, true, true, true, true, false] [some (.ref this), some (.ref a1), some (.int a2), some (.int y15), some (.int x4), none] rfl ?_
      exact w_X9_counting_49 hs h0 h1 rec5 hrec5 y15 x4 σ13 hf
theorem w_X9_counting_5 {N : Nat} {Γ : SG} {ρ : Nat → Nat → Nat} (hs : Sh Γ ρ) {this : Nat} {a1 : Nat} {a2 : Int32} (h0 : Γ[this]? = some (0, 9)) (h1 : Γ[a1]? = some (0, 0)) {n0 : Nat} {r : Int32} {σr : St} : ∀ (n : Nat) (x3 : Int32) (x4 : Int32) (σ : St), f_X9_counting_5 N ρ this a1 a2 n x3 x4 σ = some (r, σr) → Go mX9_counting 4 0 0 n0 (Ki Γ ρ r σr) 0 0 5 [some (.ref this), some (.ref a1), some (.int a2), some (.int x3), some (.int x4), none] [] (hp Γ ρ σ) := by
  intro n
  induction n with
  | zero => intro x3 x4 σ hf; cases hf
  | succ n ih => intro x3 x4 σ hf; exact v_X9_counting_5 hs h0 h1 _ ih x3 x4 σ hf
set_option maxRecDepth 100000 in
set_option maxHeartbeats 4000000 in
theorem t_X9_counting {N : Nat} {Γ : SG} {ρ : Nat → Nat → Nat} (hs : Sh Γ ρ) {this : Nat} {a1 : Nat} {a2 : Int32} (h0 : Γ[this]? = some (0, 9)) (h1 : Γ[a1]? = some (0, 0)) {σ : St} {r : Int32} {σr : St} (hf : f_X9_counting N ρ this a1 a2 σ = some (r, σr)) : Tri mX9_counting 4 0 0 [.ref this, .ref a1, .int a2] (hp Γ ρ σ) (Ki Γ ρ r σr) := by
  unfold f_X9_counting at hf
  refine tri_of [some (.ref this), some (.ref a1), some (.int a2), none, none, none] (plainFor_of_name rfl) rfl (Nat.le_of_ble_eq_true rfl) ?_
  refine go_iconst 0 dX9_counting_0 (by decide) ?_
  refine go_istore_n 3 [some (.ref this), some (.ref a1), some (.int a2), some (.int 0), none, none] dX9_counting_1 rfl (by decide) rfl ?_
  refine go_iconst 0 dX9_counting_2 (by decide) ?_
  refine go_istore [some (.ref this), some (.ref a1), some (.int a2), some (.int 0), some (.int 0), none] dX9_counting_3 (by decide) rfl ?_
  exact w_X9_counting_5 hs h0 h1 N 0 0 σ hf
def f_X9_quarrelling_33 (N : Nat) (ρ : Nat → Nat → Nat) (this : Nat) (a1 : Nat) (rec4 : Int32 → Int32 → St → Option (Int32 × St)) (x2 : Int32) (x3 : Int32) (σ : St) : Option (Int32 × St) :=
  rec4 x2 (x3 + 1) σ
def b_X9_quarrelling_4 (N : Nat) (ρ : Nat → Nat → Nat) (this : Nat) (a1 : Nat) (rec4 : Int32 → Int32 → St → Option (Int32 × St)) (x2 : Int32) (x3 : Int32) (σ : St) : Option (Int32 × St) :=
  if (σ.1 a1 11) ≤ (x3 : Int32) then
    some (x2, σ)
  else
    bnd (f_X9_setAt N ρ this x3 σ) fun r2 σ3 =>
    bnd (f_X0_quarrelIn N ρ a1 r2 σ3) fun r5 σ6 =>
    if (r5 : Int32) = 0 then
      f_X9_quarrelling_33 N ρ this a1 rec4 x2 x3 σ6
    else
      nmd (x2 ||| r2) fun y9 =>
      f_X9_quarrelling_33 N ρ this a1 rec4 y9 x3 σ6
def f_X9_quarrelling_4 (N : Nat) (ρ : Nat → Nat → Nat) (this : Nat) (a1 : Nat) : Nat → Int32 → Int32 → St → Option (Int32 × St)
  | 0, _, _, _ => none
  | n + 1, x2, x3, σ => b_X9_quarrelling_4 N ρ this a1 (f_X9_quarrelling_4 N ρ this a1 n) x2 x3 σ
def f_X9_quarrelling (N : Nat) (ρ : Nat → Nat → Nat) (this : Nat) (a1 : Nat) (σ : St) : Option (Int32 × St) :=
  f_X9_quarrelling_4 N ρ this a1 N 0 0 σ
set_option maxRecDepth 100000 in
set_option maxHeartbeats 4000000 in
theorem w_X9_quarrelling_33 {N : Nat} {Γ : SG} {ρ : Nat → Nat → Nat} (hs : Sh Γ ρ) {this : Nat} {a1 : Nat} (h0 : Γ[this]? = some (0, 9)) (h1 : Γ[a1]? = some (0, 0)) {n0 : Nat} {r : Int32} {σr : St} (rec4 : Int32 → Int32 → St → Option (Int32 × St)) (hrec4 : ∀ (x2 : Int32) (x3 : Int32) (σ : St), rec4 x2 x3 σ = some (r, σr) → Go mX9_quarrelling 1 0 0 n0 (Ki Γ ρ r σr) 0 0 4 [some (.ref this), some (.ref a1), some (.int x2), some (.int x3), none] [] (hp Γ ρ σ)) (x2 : Int32) (x3 : Int32) (σ : St) (hf : f_X9_quarrelling_33 N ρ this a1 rec4 x2 x3 σ = some (r, σr)) : Go mX9_quarrelling 1 0 0 n0 (Ki Γ ρ r σr) 0 0 33 [some (.ref this), some (.ref a1), some (.int x2), some (.int x3), none] [] (hp Γ ρ σ) := by
  unfold f_X9_quarrelling_33 at hf
  refine go_iinc (x3 + 1) [some (.ref this), some (.ref a1), some (.int x2), some (.int (x3 + 1)), none] dX9_quarrelling_33 rfl rfl (by decide) rfl ?_
  refine go_goto 4 dX9_quarrelling_36 (by decide) ?_
  exact hrec4 x2 (x3 + 1) σ hf
set_option maxRecDepth 100000 in
set_option maxHeartbeats 4000000 in
theorem v_X9_quarrelling_4 {N : Nat} {Γ : SG} {ρ : Nat → Nat → Nat} (hs : Sh Γ ρ) {this : Nat} {a1 : Nat} (h0 : Γ[this]? = some (0, 9)) (h1 : Γ[a1]? = some (0, 0)) {n0 : Nat} {r : Int32} {σr : St} (rec4 : Int32 → Int32 → St → Option (Int32 × St)) (hrec4 : ∀ (x2 : Int32) (x3 : Int32) (σ : St), rec4 x2 x3 σ = some (r, σr) → Go mX9_quarrelling 1 0 0 n0 (Ki Γ ρ r σr) 0 0 4 [some (.ref this), some (.ref a1), some (.int x2), some (.int x3), none] [] (hp Γ ρ σ)) (x2 : Int32) (x3 : Int32) (σ : St) (hf : b_X9_quarrelling_4 N ρ this a1 rec4 x2 x3 σ = some (r, σr)) : Go mX9_quarrelling 1 0 0 n0 (Ki Γ ρ r σr) 0 0 4 [some (.ref this), some (.ref a1), some (.int x2), some (.int x3), none] [] (hp Γ ρ σ) := by
  unfold b_X9_quarrelling_4 at hf
  refine go_iload_n 3 dX9_quarrelling_4 rfl rfl ?_
  refine go_aload_n 1 dX9_quarrelling_5 rfl rfl ?_
  refine go_fI fl_X9_62 dX9_quarrelling_6 h1 (by decide) rfl ?_
  refine go_icmp_ge 39 dX9_quarrelling_9 (by decide) (fun c1 => ?_) (fun c1 => ?_)
  · replace hf := (if_pos c1).symm.trans hf
    refine go_iload_n 2 dX9_quarrelling_39 rfl rfl ?_
    cases hf
    exact go_iret rfl dX9_quarrelling_40 (Nat.le_refl _) ⟨rfl, rfl⟩
  · replace hf := (if_neg c1).symm.trans hf
    refine go_aload_n 0 dX9_quarrelling_12 rfl rfl ?_
    refine go_iload_n 3 dX9_quarrelling_13 rfl rfl ?_
    obtain ⟨r2, σ3, q4, hf⟩ := bnd_some hf
    refine go_Vi (av := [.int x3]) (rest := []) (t_X9_setAt hs h0 q4) ok_X9_setAt ml_X9_65 dX9_quarrelling_14 h0 rfl rfl (by decide) (Nat.le_refl _) (Nat.le_refl _) (Nat.le_of_ble_eq_true rfl) ?_
    refine go_istore [some (.ref this), some (.ref a1), some (.int x2), some (.int x3), some (.int r2)] dX9_quarrelling_17 (by decide) rfl ?_
    refine go_aload_n 1 dX9_quarrelling_19 rfl rfl ?_
    refine go_iload dX9_quarrelling_20 rfl ?_
    obtain ⟨r5, σ6, q7, hf⟩ := bnd_some hf
    refine go_Vi (av := [.int r2]) (rest := []) (t_X0_quarrelIn hs h1 q7) ok_X0_quarrelIn ml_X9_69 dX9_quarrelling_22 h1 rfl rfl (by decide) (Nat.le_refl _) (Nat.le_refl _) (Nat.le_of_ble_eq_true rfl) ?_
    refine go_if_eq 33 dX9_quarrelling_25 (by decide) (fun c8 => ?_) (fun c8 => ?_)
    · replace hf := (if_pos c8).symm.trans hf
      refine go_msk [true, true, true, true, false] [some (.ref this), some (.ref a1), some (.int x2), some (.int x3), none] rfl ?_
      exact w_X9_quarrelling_33 hs h0 h1 rec4 hrec4 x2 x3 σ6 hf
    · replace hf := (if_neg c8).symm.trans hf
      refine go_iload_n 2 dX9_quarrelling_28 rfl rfl ?_
      refine go_iload dX9_quarrelling_29 rfl ?_
      refine go_ior dX9_quarrelling_31 ?_
      obtain ⟨y9, ey9, hf⟩ := nmd_some hf
      refine go_nm ey9 ?_
      refine go_istore_n 2 [some (.ref this), some (.ref a1), some (.int y9), some (.int x3), some (.int r2)] dX9_quarrelling_32 rfl (by decide) rfl ?_
      refine go_msk [true, true, true, true, false] [some (.ref this), some (.ref a1), some (.int y9), some (.int x3), none] rfl ?_
      exact w_X9_quarrelling_33 hs h0 h1 rec4 hrec4 y9 x3 σ6 hf
theorem w_X9_quarrelling_4 {N : Nat} {Γ : SG} {ρ : Nat → Nat → Nat} (hs : Sh Γ ρ) {this : Nat} {a1 : Nat} (h0 : Γ[this]? = some (0, 9)) (h1 : Γ[a1]? = some (0, 0)) {n0 : Nat} {r : Int32} {σr : St} : ∀ (n : Nat) (x2 : Int32) (x3 : Int32) (σ : St), f_X9_quarrelling_4 N ρ this a1 n x2 x3 σ = some (r, σr) → Go mX9_quarrelling 1 0 0 n0 (Ki Γ ρ r σr) 0 0 4 [some (.ref this), some (.ref a1), some (.int x2), some (.int x3), none] [] (hp Γ ρ σ) := by
  intro n
  induction n with
  | zero => intro x2 x3 σ hf; cases hf
  | succ n ih => intro x2 x3 σ hf; exact v_X9_quarrelling_4 hs h0 h1 _ ih x2 x3 σ hf
set_option maxRecDepth 100000 in
set_option maxHeartbeats 4000000 in
theorem t_X9_quarrelling {N : Nat} {Γ : SG} {ρ : Nat → Nat → Nat} (hs : Sh Γ ρ) {this : Nat} {a1 : Nat} (h0 : Γ[this]? = some (0, 9)) (h1 : Γ[a1]? = some (0, 0)) {σ : St} {r : Int32} {σr : St} (hf : f_X9_quarrelling N ρ this a1 σ = some (r, σr)) : Tri mX9_quarrelling 1 0 0 [.ref this, .ref a1] (hp Γ ρ σ) (Ki Γ ρ r σr) := by
  unfold f_X9_quarrelling at hf
  refine tri_of [some (.ref this), some (.ref a1), none, none, none] (plainFor_of_name rfl) rfl (Nat.le_of_ble_eq_true rfl) ?_
  refine go_iconst 0 dX9_quarrelling_0 (by decide) ?_
  refine go_istore_n 2 [some (.ref this), some (.ref a1), some (.int 0), none, none] dX9_quarrelling_1 rfl (by decide) rfl ?_
  refine go_iconst 0 dX9_quarrelling_2 (by decide) ?_
  refine go_istore_n 3 [some (.ref this), some (.ref a1), some (.int 0), some (.int 0), none] dX9_quarrelling_3 rfl (by decide) rfl ?_
  exact w_X9_quarrelling_4 hs h0 h1 N 0 0 σ hf
def f_X9_breaking (N : Nat) (ρ : Nat → Nat → Nat) (this : Nat) (a1 : Nat) (σ : St) : Option (Int32 × St) :=
  bnd (f_X9_setAt N ρ this (-1) σ) fun r1 σ2 =>
  bnd (f_X0_allStools N ρ a1 σ2) fun r4 σ5 =>
  bnd (f_X9_quarrelling N ρ this a1 σ5) fun r7 σ8 =>
  bnd (f_X9_counting N ρ this a1 0 σ8) fun r10 σ11 =>
  some (((r4 &&& (r1 ^^^ (-1))) &&& (r7 ^^^ (-1))) &&& (r10 ^^^ (-1)), σ11)
set_option maxRecDepth 100000 in
set_option maxHeartbeats 4000000 in
theorem t_X9_breaking {N : Nat} {Γ : SG} {ρ : Nat → Nat → Nat} (hs : Sh Γ ρ) {this : Nat} {a1 : Nat} (h0 : Γ[this]? = some (0, 9)) (h1 : Γ[a1]? = some (0, 0)) {σ : St} {r : Int32} {σr : St} (hf : f_X9_breaking N ρ this a1 σ = some (r, σr)) : Tri mX9_breaking 5 0 0 [.ref this, .ref a1] (hp Γ ρ σ) (Ki Γ ρ r σr) := by
  unfold f_X9_breaking at hf
  refine tri_of [some (.ref this), some (.ref a1), none] (plainFor_of_name rfl) rfl (Nat.le_of_ble_eq_true rfl) ?_
  refine go_aload_n 0 dX9_breaking_0 rfl rfl ?_
  refine go_iconst (-1) dX9_breaking_1 (by decide) ?_
  obtain ⟨r1, σ2, q3, hf⟩ := bnd_some hf
  refine go_Vi (av := [.int (-1)]) (rest := []) (t_X9_setAt hs h0 q3) ok_X9_setAt ml_X9_65 dX9_breaking_2 h0 rfl rfl (by decide) (Nat.le_refl _) (Nat.le_refl _) (Nat.le_of_ble_eq_true rfl) ?_
  refine go_istore_n 2 [some (.ref this), some (.ref a1), some (.int r1)] dX9_breaking_5 rfl (by decide) rfl ?_
  refine go_aload_n 1 dX9_breaking_6 rfl rfl ?_
  obtain ⟨r4, σ5, q6, hf⟩ := bnd_some hf
  refine go_Vi (av := []) (rest := []) (t_X0_allStools hs h1 q6) ok_X0_allStools ml_X9_82 dX9_breaking_7 h1 rfl rfl (by decide) (Nat.le_refl _) (Nat.le_refl _) (Nat.le_of_ble_eq_true rfl) ?_
  refine go_iload_n 2 dX9_breaking_10 rfl rfl ?_
  refine go_iconst (-1) dX9_breaking_11 (by decide) ?_
  refine go_ixor dX9_breaking_12 ?_
  refine go_iand dX9_breaking_13 ?_
  refine go_aload_n 0 dX9_breaking_14 rfl rfl ?_
  refine go_aload_n 1 dX9_breaking_15 rfl rfl ?_
  obtain ⟨r7, σ8, q9, hf⟩ := bnd_some hf
  refine go_Vi (av := [.ref a1]) (rest := [.int (r4 &&& (r1 ^^^ (-1)))]) (t_X9_quarrelling hs h0 h1 q9) ok_X9_quarrelling ml_X9_86 dX9_breaking_16 h0 rfl rfl (by decide) (Nat.le_refl _) (Nat.le_refl _) (Nat.le_of_ble_eq_true rfl) ?_
  refine go_iconst (-1) dX9_breaking_19 (by decide) ?_
  refine go_ixor dX9_breaking_20 ?_
  refine go_iand dX9_breaking_21 ?_
  refine go_aload_n 0 dX9_breaking_22 rfl rfl ?_
  refine go_aload_n 1 dX9_breaking_23 rfl rfl ?_
  refine go_iconst 0 dX9_breaking_24 (by decide) ?_
  obtain ⟨r10, σ11, q12, hf⟩ := bnd_some hf
  refine go_Vi (av := [.ref a1, .int 0]) (rest := [.int ((r4 &&& (r1 ^^^ (-1))) &&& (r7 ^^^ (-1)))]) (t_X9_counting hs h0 h1 q12) ok_X9_counting ml_X9_90 dX9_breaking_25 h0 rfl rfl (by decide) (Nat.le_refl _) (Nat.le_refl _) (Nat.le_of_ble_eq_true rfl) ?_
  refine go_iconst (-1) dX9_breaking_28 (by decide) ?_
  refine go_ixor dX9_breaking_29 ?_
  refine go_iand dX9_breaking_30 ?_
  cases hf
  exact go_iret rfl dX9_breaking_31 (Nat.le_refl _) ⟨rfl, rfl⟩
def f_X9_drawCold_51 (N : Nat) (ρ : Nat → Nat → Nat) (this : Nat) (a1 : Nat) (rec4 : Int32 → Int32 → St → Option (Int32 × St)) (x2 : Int32) (x3 : Int32) (σ : St) : Option (Int32 × St) :=
  rec4 x2 (x3 + 1) σ
def b_X9_drawCold_4 (N : Nat) (ρ : Nat → Nat → Nat) (this : Nat) (a1 : Nat) (rec4 : Int32 → Int32 → St → Option (Int32 × St)) (x2 : Int32) (x3 : Int32) (σ : St) : Option (Int32 × St) :=
  if (σ.1 a1 11) ≤ (x3 : Int32) then
    some (x2, σ)
  else
    nmd (sI σ this 5 (irem (((σ.1 this 5) * 137) + 71) 1000)) fun σ2 =>
    if (σ2.1 a1 14) ≤ (irem (σ2.1 this 5) 100 : Int32) then
      f_X9_drawCold_51 N ρ this a1 rec4 x2 x3 σ2
    else
      nmd (x2 ||| (1 <<< (x3 &&& 31))) fun y4 =>
      f_X9_drawCold_51 N ρ this a1 rec4 y4 x3 σ2
def f_X9_drawCold_4 (N : Nat) (ρ : Nat → Nat → Nat) (this : Nat) (a1 : Nat) : Nat → Int32 → Int32 → St → Option (Int32 × St)
  | 0, _, _, _ => none
  | n + 1, x2, x3, σ => b_X9_drawCold_4 N ρ this a1 (f_X9_drawCold_4 N ρ this a1 n) x2 x3 σ
def f_X9_drawCold (N : Nat) (ρ : Nat → Nat → Nat) (this : Nat) (a1 : Nat) (σ : St) : Option (Int32 × St) :=
  f_X9_drawCold_4 N ρ this a1 N 0 0 σ
set_option maxRecDepth 100000 in
set_option maxHeartbeats 4000000 in
theorem w_X9_drawCold_51 {N : Nat} {Γ : SG} {ρ : Nat → Nat → Nat} (hs : Sh Γ ρ) {this : Nat} {a1 : Nat} (h0 : Γ[this]? = some (0, 9)) (h1 : Γ[a1]? = some (0, 0)) {n0 : Nat} {r : Int32} {σr : St} (rec4 : Int32 → Int32 → St → Option (Int32 × St)) (hrec4 : ∀ (x2 : Int32) (x3 : Int32) (σ : St), rec4 x2 x3 σ = some (r, σr) → Go mX9_drawCold 0 0 0 n0 (Ki Γ ρ r σr) 0 0 4 [some (.ref this), some (.ref a1), some (.int x2), some (.int x3)] [] (hp Γ ρ σ)) (x2 : Int32) (x3 : Int32) (σ : St) (hf : f_X9_drawCold_51 N ρ this a1 rec4 x2 x3 σ = some (r, σr)) : Go mX9_drawCold 0 0 0 n0 (Ki Γ ρ r σr) 0 0 51 [some (.ref this), some (.ref a1), some (.int x2), some (.int x3)] [] (hp Γ ρ σ) := by
  unfold f_X9_drawCold_51 at hf
  refine go_iinc (x3 + 1) [some (.ref this), some (.ref a1), some (.int x2), some (.int (x3 + 1))] dX9_drawCold_51 rfl rfl (by decide) rfl ?_
  refine go_goto 4 dX9_drawCold_54 (by decide) ?_
  exact hrec4 x2 (x3 + 1) σ hf
set_option maxRecDepth 100000 in
set_option maxHeartbeats 4000000 in
theorem v_X9_drawCold_4 {N : Nat} {Γ : SG} {ρ : Nat → Nat → Nat} (hs : Sh Γ ρ) {this : Nat} {a1 : Nat} (h0 : Γ[this]? = some (0, 9)) (h1 : Γ[a1]? = some (0, 0)) {n0 : Nat} {r : Int32} {σr : St} (rec4 : Int32 → Int32 → St → Option (Int32 × St)) (hrec4 : ∀ (x2 : Int32) (x3 : Int32) (σ : St), rec4 x2 x3 σ = some (r, σr) → Go mX9_drawCold 0 0 0 n0 (Ki Γ ρ r σr) 0 0 4 [some (.ref this), some (.ref a1), some (.int x2), some (.int x3)] [] (hp Γ ρ σ)) (x2 : Int32) (x3 : Int32) (σ : St) (hf : b_X9_drawCold_4 N ρ this a1 rec4 x2 x3 σ = some (r, σr)) : Go mX9_drawCold 0 0 0 n0 (Ki Γ ρ r σr) 0 0 4 [some (.ref this), some (.ref a1), some (.int x2), some (.int x3)] [] (hp Γ ρ σ) := by
  unfold b_X9_drawCold_4 at hf
  refine go_iload_n 3 dX9_drawCold_4 rfl rfl ?_
  refine go_aload_n 1 dX9_drawCold_5 rfl rfl ?_
  refine go_fI fl_X9_62 dX9_drawCold_6 h1 (by decide) rfl ?_
  refine go_icmp_ge 57 dX9_drawCold_9 (by decide) (fun c1 => ?_) (fun c1 => ?_)
  · replace hf := (if_pos c1).symm.trans hf
    refine go_iload_n 2 dX9_drawCold_57 rfl rfl ?_
    cases hf
    exact go_iret rfl dX9_drawCold_58 (Nat.le_refl _) ⟨rfl, rfl⟩
  · replace hf := (if_neg c1).symm.trans hf
    refine go_aload_n 0 dX9_drawCold_12 rfl rfl ?_
    refine go_aload_n 0 dX9_drawCold_13 rfl rfl ?_
    refine go_fI fl_X9_30 dX9_drawCold_14 h0 (by decide) rfl ?_
    refine go_sipush 137 dX9_drawCold_17 (by decide) ?_
    refine go_imul dX9_drawCold_20 ?_
    refine go_bipush 71 dX9_drawCold_21 (by decide) ?_
    refine go_iadd dX9_drawCold_23 ?_
    refine go_sipush 1000 dX9_drawCold_24 (by decide) ?_
    refine go_irem dX9_drawCold_27 (by decide) ?_
    obtain ⟨σ2, eσ2, hf⟩ := nmd_some hf
    refine go_pI fl_X9_30 ft_9_5 (okv_i _) dX9_drawCold_28 h0 (by decide) rfl ?_
    rw [eσ2]
    refine go_aload_n 0 dX9_drawCold_31 rfl rfl ?_
    refine go_fI fl_X9_30 dX9_drawCold_32 h0 (by decide) rfl ?_
    refine go_bipush 100 dX9_drawCold_35 (by decide) ?_
    refine go_irem dX9_drawCold_37 (by decide) ?_
    refine go_aload_n 1 dX9_drawCold_38 rfl rfl ?_
    refine go_fI fl_X9_94 dX9_drawCold_39 h1 (by decide) rfl ?_
    refine go_icmp_ge 51 dX9_drawCold_42 (by decide) (fun c3 => ?_) (fun c3 => ?_)
    · replace hf := (if_pos c3).symm.trans hf
      exact w_X9_drawCold_51 hs h0 h1 rec4 hrec4 x2 x3 σ2 hf
    · replace hf := (if_neg c3).symm.trans hf
      refine go_iload_n 2 dX9_drawCold_45 rfl rfl ?_
      refine go_iconst 1 dX9_drawCold_46 (by decide) ?_
      refine go_iload_n 3 dX9_drawCold_47 rfl rfl ?_
      refine go_ishl dX9_drawCold_48 ?_
      refine go_ior dX9_drawCold_49 ?_
      obtain ⟨y4, ey4, hf⟩ := nmd_some hf
      refine go_nm ey4 ?_
      refine go_istore_n 2 [some (.ref this), some (.ref a1), some (.int y4), some (.int x3)] dX9_drawCold_50 rfl (by decide) rfl ?_
      exact w_X9_drawCold_51 hs h0 h1 rec4 hrec4 y4 x3 σ2 hf
theorem w_X9_drawCold_4 {N : Nat} {Γ : SG} {ρ : Nat → Nat → Nat} (hs : Sh Γ ρ) {this : Nat} {a1 : Nat} (h0 : Γ[this]? = some (0, 9)) (h1 : Γ[a1]? = some (0, 0)) {n0 : Nat} {r : Int32} {σr : St} : ∀ (n : Nat) (x2 : Int32) (x3 : Int32) (σ : St), f_X9_drawCold_4 N ρ this a1 n x2 x3 σ = some (r, σr) → Go mX9_drawCold 0 0 0 n0 (Ki Γ ρ r σr) 0 0 4 [some (.ref this), some (.ref a1), some (.int x2), some (.int x3)] [] (hp Γ ρ σ) := by
  intro n
  induction n with
  | zero => intro x2 x3 σ hf; cases hf
  | succ n ih => intro x2 x3 σ hf; exact v_X9_drawCold_4 hs h0 h1 _ ih x2 x3 σ hf
set_option maxRecDepth 100000 in
set_option maxHeartbeats 4000000 in
theorem t_X9_drawCold {N : Nat} {Γ : SG} {ρ : Nat → Nat → Nat} (hs : Sh Γ ρ) {this : Nat} {a1 : Nat} (h0 : Γ[this]? = some (0, 9)) (h1 : Γ[a1]? = some (0, 0)) {σ : St} {r : Int32} {σr : St} (hf : f_X9_drawCold N ρ this a1 σ = some (r, σr)) : Tri mX9_drawCold 0 0 0 [.ref this, .ref a1] (hp Γ ρ σ) (Ki Γ ρ r σr) := by
  unfold f_X9_drawCold at hf
  refine tri_of [some (.ref this), some (.ref a1), none, none] (plainFor_of_name rfl) rfl (Nat.le_of_ble_eq_true rfl) ?_
  refine go_iconst 0 dX9_drawCold_0 (by decide) ?_
  refine go_istore_n 2 [some (.ref this), some (.ref a1), some (.int 0), none] dX9_drawCold_1 rfl (by decide) rfl ?_
  refine go_iconst 0 dX9_drawCold_2 (by decide) ?_
  refine go_istore_n 3 [some (.ref this), some (.ref a1), some (.int 0), some (.int 0)] dX9_drawCold_3 rfl (by decide) rfl ?_
  exact w_X9_drawCold_4 hs h0 h1 N 0 0 σ hf
def f_X9_kneel (N : Nat) (ρ : Nat → Nat → Nat) (this : Nat) (a1 : Nat) (a2 : Int32) (a3 : Int32) (a4 : Int32) (σ : St) : Option (Int32 × St) :=
  bnd (f_X0_loadOf N ρ a1 this a2 a3 a4 0 σ) fun r1 σ2 =>
  gd (ib a2 5) <|
  if (r1 : Int32) ≤ (σ2.1 (ρ this 0) a2.toNatClampNeg) then
    bnd (f_X0_wearOf N ρ a1 this a2 a3 a4 σ2) fun r6 σ7 =>
    gd (ib a2 5) <|
    gd (ib a2 5) <|
    nmd (sI σ7 (ρ this 2) a2.toNatClampNeg (mmin 99 ((σ7.1 (ρ this 2) a2.toNatClampNeg) + 1))) fun σ11 =>
    gd (ib a2 5) <|
    gd (ib a2 5) <|
    nmd (sI σ11 (ρ this 1) a2.toNatClampNeg (mmin 99 ((σ11.1 (ρ this 1) a2.toNatClampNeg) + (r1 / 5)))) fun σ14 =>
    gd (ib a2 5) <|
    gd (ib a2 5) <|
    nmd (sI σ14 (ρ this 0) a2.toNatClampNeg ((σ14.1 (ρ this 0) a2.toNatClampNeg) - r6)) fun σ17 =>
    some (1, σ17)
  else
    gd (ib a2 5) <|
    gd (ib a2 5) <|
    nmd (sI σ2 (ρ this 0) a2.toNatClampNeg ((σ2.1 (ρ this 0) a2.toNatClampNeg) / 2)) fun σ20 =>
    some (0, σ20)
set_option maxRecDepth 100000 in
set_option maxHeartbeats 4000000 in
theorem t_X9_kneel {N : Nat} {Γ : SG} {ρ : Nat → Nat → Nat} (hs : Sh Γ ρ) {this : Nat} {a1 : Nat} {a2 : Int32} {a3 : Int32} {a4 : Int32} (h0 : Γ[this]? = some (0, 9)) (h1 : Γ[a1]? = some (0, 0)) {σ : St} {r : Int32} {σr : St} (hf : f_X9_kneel N ρ this a1 a2 a3 a4 σ = some (r, σr)) : Tri mX9_kneel 3 0 0 [.ref this, .ref a1, .int a2, .int a3, .int a4] (hp Γ ρ σ) (Ki Γ ρ r σr) := by
  unfold f_X9_kneel at hf
  refine tri_of [some (.ref this), some (.ref a1), some (.int a2), some (.int a3), some (.int a4), none, none] (plainFor_of_name rfl) rfl (Nat.le_of_ble_eq_true rfl) ?_
  refine go_aload_n 1 dX9_kneel_0 rfl rfl ?_
  refine go_aload_n 0 dX9_kneel_1 rfl rfl ?_
  refine go_iload_n 2 dX9_kneel_2 rfl rfl ?_
  refine go_iload_n 3 dX9_kneel_3 rfl rfl ?_
  refine go_iload dX9_kneel_4 rfl ?_
  refine go_iconst 0 dX9_kneel_6 (by decide) ?_
  obtain ⟨r1, σ2, q3, hf⟩ := bnd_some hf
  refine go_Vi (av := [.ref this, .int a2, .int a3, .int a4, .int 0]) (rest := []) (t_X0_loadOf hs h1 h0 q3) ok_X0_loadOf ml_X9_111 dX9_kneel_7 h1 rfl rfl (by decide) (Nat.le_refl _) (Nat.le_refl _) (Nat.le_of_ble_eq_true rfl) ?_
  refine go_istore [some (.ref this), some (.ref a1), some (.int a2), some (.int a3), some (.int a4), some (.int r1), none] dX9_kneel_10 (by decide) rfl ?_
  refine go_iload dX9_kneel_12 rfl ?_
  refine go_aload_n 0 dX9_kneel_14 rfl rfl ?_
  refine go_fR fl_X9_11 dX9_kneel_15 h0 (by decide) rfl ?_
  refine go_iload_n 2 dX9_kneel_18 rfl rfl ?_
  obtain ⟨g4, hf⟩ := gd_some hf
  refine go_rI dX9_kneel_19 (hs.1 _ 9 0 h0 rfl) (ib_in g4) ?_
  refine go_icmp_le 35 dX9_kneel_20 (by decide) (fun c5 => ?_) (fun c5 => ?_)
  · replace hf := (if_pos c5).symm.trans hf
    refine go_aload_n 1 dX9_kneel_35 rfl rfl ?_
    refine go_aload_n 0 dX9_kneel_36 rfl rfl ?_
    refine go_iload_n 2 dX9_kneel_37 rfl rfl ?_
    refine go_iload_n 3 dX9_kneel_38 rfl rfl ?_
    refine go_iload dX9_kneel_39 rfl ?_
    obtain ⟨r6, σ7, q8, hf⟩ := bnd_some hf
    refine go_Vi (av := [.ref this, .int a2, .int a3, .int a4]) (rest := []) (t_X0_wearOf hs h1 h0 q8) ok_X0_wearOf ml_X9_114 dX9_kneel_41 h1 rfl rfl (by decide) (Nat.le_refl _) (Nat.le_refl _) (Nat.le_of_ble_eq_true rfl) ?_
    refine go_istore [some (.ref this), some (.ref a1), some (.int a2), some (.int a3), some (.int a4), some (.int r1), some (.int r6)] dX9_kneel_44 (by decide) rfl ?_
    refine go_aload_n 0 dX9_kneel_46 rfl rfl ?_
    refine go_fR fl_X9_20 dX9_kneel_47 h0 (by decide) rfl ?_
    refine go_iload_n 2 dX9_kneel_50 rfl rfl ?_
    refine go_bipush 99 dX9_kneel_51 (by decide) ?_
    refine go_aload_n 0 dX9_kneel_53 rfl rfl ?_
    refine go_fR fl_X9_20 dX9_kneel_54 h0 (by decide) rfl ?_
    refine go_iload_n 2 dX9_kneel_57 rfl rfl ?_
    obtain ⟨g9, hf⟩ := gd_some hf
    refine go_rI dX9_kneel_58 (hs.1 _ 9 2 h0 rfl) (ib_in g9) ?_
    refine go_iconst 1 dX9_kneel_59 (by decide) ?_
    refine go_iadd dX9_kneel_60 ?_
    refine go_mmin ml_X9_105 dX9_kneel_61 (by decide) (Nat.le_refl _) (Nat.le_refl _) (Nat.le_of_ble_eq_true rfl) ?_
    obtain ⟨g10, hf⟩ := gd_some hf
    obtain ⟨σ11, eσ11, hf⟩ := nmd_some hf
    refine go_wI dX9_kneel_64 (hs.1 _ 9 2 h0 rfl) (ib_in g10) ?_
    rw [eσ11]
    refine go_aload_n 0 dX9_kneel_65 rfl rfl ?_
    refine go_fR fl_X9_17 dX9_kneel_66 h0 (by decide) rfl ?_
    refine go_iload_n 2 dX9_kneel_69 rfl rfl ?_
    refine go_bipush 99 dX9_kneel_70 (by decide) ?_
    refine go_aload_n 0 dX9_kneel_72 rfl rfl ?_
    refine go_fR fl_X9_17 dX9_kneel_73 h0 (by decide) rfl ?_
    refine go_iload_n 2 dX9_kneel_76 rfl rfl ?_
    obtain ⟨g12, hf⟩ := gd_some hf
    refine go_rI dX9_kneel_77 (hs.1 _ 9 1 h0 rfl) (ib_in g12) ?_
    refine go_iload dX9_kneel_78 rfl ?_
    refine go_iconst 5 dX9_kneel_80 (by decide) ?_
    refine go_idiv dX9_kneel_81 (by decide) ?_
    refine go_iadd dX9_kneel_82 ?_
    refine go_mmin ml_X9_105 dX9_kneel_83 (by decide) (Nat.le_refl _) (Nat.le_refl _) (Nat.le_of_ble_eq_true rfl) ?_
    obtain ⟨g13, hf⟩ := gd_some hf
    obtain ⟨σ14, eσ14, hf⟩ := nmd_some hf
    refine go_wI dX9_kneel_86 (hs.1 _ 9 1 h0 rfl) (ib_in g13) ?_
    rw [eσ14]
    refine go_aload_n 0 dX9_kneel_87 rfl rfl ?_
    refine go_fR fl_X9_11 dX9_kneel_88 h0 (by decide) rfl ?_
    refine go_iload_n 2 dX9_kneel_91 rfl rfl ?_
    refine go_dup2 dX9_kneel_92 rfl rfl ?_
    obtain ⟨g15, hf⟩ := gd_some hf
    refine go_rI dX9_kneel_93 (hs.1 _ 9 0 h0 rfl) (ib_in g15) ?_
    refine go_iload dX9_kneel_94 rfl ?_
    refine go_isub dX9_kneel_96 ?_
    obtain ⟨g16, hf⟩ := gd_some hf
    obtain ⟨σ17, eσ17, hf⟩ := nmd_some hf
    refine go_wI dX9_kneel_97 (hs.1 _ 9 0 h0 rfl) (ib_in g16) ?_
    rw [eσ17]
    refine go_iconst 1 dX9_kneel_98 (by decide) ?_
    cases hf
    exact go_zret rfl (by decide) dX9_kneel_99 (Nat.le_refl _) ⟨rfl, rfl⟩
  · replace hf := (if_neg c5).symm.trans hf
    refine go_aload_n 0 dX9_kneel_23 rfl rfl ?_
    refine go_fR fl_X9_11 dX9_kneel_24 h0 (by decide) rfl ?_
    refine go_iload_n 2 dX9_kneel_27 rfl rfl ?_
    refine go_dup2 dX9_kneel_28 rfl rfl ?_
    obtain ⟨g18, hf⟩ := gd_some hf
    refine go_rI dX9_kneel_29 (hs.1 _ 9 0 h0 rfl) (ib_in g18) ?_
    refine go_iconst 2 dX9_kneel_30 (by decide) ?_
    refine go_idiv dX9_kneel_31 (by decide) ?_
    obtain ⟨g19, hf⟩ := gd_some hf
    obtain ⟨σ20, eσ20, hf⟩ := nmd_some hf
    refine go_wI dX9_kneel_32 (hs.1 _ 9 0 h0 rfl) (ib_in g19) ?_
    rw [eσ20]
    refine go_iconst 0 dX9_kneel_33 (by decide) ?_
    cases hf
    exact go_zret rfl (by decide) dX9_kneel_34 (Nat.le_refl _) ⟨rfl, rfl⟩
def f_X9_rest (N : Nat) (ρ : Nat → Nat → Nat) (this : Nat) (a1 : Nat) (a2 : Int32) (σ : St) : Option (Int32 × St) :=
  gd (ib a2 5) <|
  gd (ib a2 5) <|
  gd (ib a2 5) <|
  nmd (sI σ (ρ this 0) a2.toNatClampNeg (mmin (σ.1 (ρ a1 5) a2.toNatClampNeg) ((σ.1 (ρ this 0) a2.toNatClampNeg) + 2))) fun σ4 =>
  some (0, σ4)
set_option maxRecDepth 100000 in
set_option maxHeartbeats 4000000 in
theorem t_X9_rest {N : Nat} {Γ : SG} {ρ : Nat → Nat → Nat} (hs : Sh Γ ρ) {this : Nat} {a1 : Nat} {a2 : Int32} (h0 : Γ[this]? = some (0, 9)) (h1 : Γ[a1]? = some (0, 0)) {σ : St} {r : Int32} {σr : St} (hf : f_X9_rest N ρ this a1 a2 σ = some (r, σr)) : Tri mX9_rest 1 0 0 [.ref this, .ref a1, .int a2] (hp Γ ρ σ) (Kv Γ ρ σr) := by
  unfold f_X9_rest at hf
  refine tri_of [some (.ref this), some (.ref a1), some (.int a2)] (plainFor_of_name rfl) rfl (Nat.le_of_ble_eq_true rfl) ?_
  refine go_aload_n 0 dX9_rest_0 rfl rfl ?_
  refine go_fR fl_X9_11 dX9_rest_1 h0 (by decide) rfl ?_
  refine go_iload_n 2 dX9_rest_4 rfl rfl ?_
  refine go_aload_n 1 dX9_rest_5 rfl rfl ?_
  refine go_fR fl_X9_33 dX9_rest_6 h1 (by decide) rfl ?_
  refine go_iload_n 2 dX9_rest_9 rfl rfl ?_
  obtain ⟨g1, hf⟩ := gd_some hf
  refine go_rI dX9_rest_10 (hs.1 _ 0 5 h1 rfl) (ib_in g1) ?_
  refine go_aload_n 0 dX9_rest_11 rfl rfl ?_
  refine go_fR fl_X9_11 dX9_rest_12 h0 (by decide) rfl ?_
  refine go_iload_n 2 dX9_rest_15 rfl rfl ?_
  obtain ⟨g2, hf⟩ := gd_some hf
  refine go_rI dX9_rest_16 (hs.1 _ 9 0 h0 rfl) (ib_in g2) ?_
  refine go_iconst 2 dX9_rest_17 (by decide) ?_
  refine go_iadd dX9_rest_18 ?_
  refine go_mmin ml_X9_105 dX9_rest_19 (by decide) (Nat.le_refl _) (Nat.le_refl _) (Nat.le_of_ble_eq_true rfl) ?_
  obtain ⟨g3, hf⟩ := gd_some hf
  obtain ⟨σ4, eσ4, hf⟩ := nmd_some hf
  refine go_wI dX9_rest_22 (hs.1 _ 9 0 h0 rfl) (ib_in g3) ?_
  rw [eσ4]
  cases hf
  exact go_vret rfl dX9_rest_23 (Nat.le_refl _) ⟨rfl, rfl⟩
def f_X9_passEvening_72 (N : Nat) (ρ : Nat → Nat → Nat) (this : Nat) (a1 : Nat) (a2 : Int32) (rec2 : Int32 → St → Option (Int32 × St)) (x3 : Int32) (σ : St) : Option (Int32 × St) :=
  rec2 (x3 + 1) σ
def b_X9_passEvening_2 (N : Nat) (ρ : Nat → Nat → Nat) (this : Nat) (a1 : Nat) (a2 : Int32) (rec2 : Int32 → St → Option (Int32 × St)) (x3 : Int32) (σ : St) : Option (Int32 × St) :=
  if (σ.1 a1 12) ≤ (x3 : Int32) then
    nmd (sI σ this 4 ((σ.1 this 4) + 1)) fun σ2 =>
    some (0, σ2)
  else
    gd (ib x3 5) <|
    nmd (σ.1 (ρ this 3) x3.toNatClampNeg) fun y4 =>
    bnd (f_X9_setAt N ρ this y4 σ) fun r5 σ6 =>
    if 0 ≤ (y4 : Int32) then
      if ((a2 >>> (y4 &&& 31)) &&& 1 : Int32) = 0 then
        bnd (f_X0_quarrelIn N ρ a1 r5 σ6) fun r10 σ11 =>
        if (r10 : Int32) = 0 then
          bnd (f_J6_bitCount_0f7a4 N ρ r5 σ11) fun r14 σ15 =>
          bnd (f_X9_kneel N ρ this a1 x3 y4 r14 σ15) fun r17 σ18 =>
          f_X9_passEvening_72 N ρ this a1 a2 rec2 x3 σ18
        else
          f_X9_passEvening_72 N ρ this a1 a2 rec2 x3 σ11
      else
        f_X9_passEvening_72 N ρ this a1 a2 rec2 x3 σ6
    else
      bnd (f_X9_rest N ρ this a1 x3 σ6) fun _ σ21 =>
      f_X9_passEvening_72 N ρ this a1 a2 rec2 x3 σ21
def f_X9_passEvening_2 (N : Nat) (ρ : Nat → Nat → Nat) (this : Nat) (a1 : Nat) (a2 : Int32) : Nat → Int32 → St → Option (Int32 × St)
  | 0, _, _ => none
  | n + 1, x3, σ => b_X9_passEvening_2 N ρ this a1 a2 (f_X9_passEvening_2 N ρ this a1 a2 n) x3 σ
def f_X9_passEvening (N : Nat) (ρ : Nat → Nat → Nat) (this : Nat) (a1 : Nat) (a2 : Int32) (σ : St) : Option (Int32 × St) :=
  f_X9_passEvening_2 N ρ this a1 a2 N 0 σ
set_option maxRecDepth 100000 in
set_option maxHeartbeats 4000000 in
theorem w_X9_passEvening_72 {N : Nat} {Γ : SG} {ρ : Nat → Nat → Nat} (hs : Sh Γ ρ) {this : Nat} {a1 : Nat} {a2 : Int32} (h0 : Γ[this]? = some (0, 9)) (h1 : Γ[a1]? = some (0, 0)) {n0 : Nat} {r : Int32} {σr : St} (rec2 : Int32 → St → Option (Int32 × St)) (hrec2 : ∀ (x3 : Int32) (σ : St), rec2 x3 σ = some (r, σr) → Go mX9_passEvening 4 0 0 n0 (Kv Γ ρ σr) 0 0 2 [some (.ref this), some (.ref a1), some (.int a2), some (.int x3), none, none] [] (hp Γ ρ σ)) (x3 : Int32) (σ : St) (hf : f_X9_passEvening_72 N ρ this a1 a2 rec2 x3 σ = some (r, σr)) : Go mX9_passEvening 4 0 0 n0 (Kv Γ ρ σr) 0 0 72 [some (.ref this), some (.ref a1), some (.int a2), some (.int x3), none, none] [] (hp Γ ρ σ) := by
  unfold f_X9_passEvening_72 at hf
  refine go_iinc (x3 + 1) [some (.ref this), some (.ref a1), some (.int a2), some (.int (x3 + 1)), none, none] dX9_passEvening_72 rfl rfl (by decide) rfl ?_
  refine go_goto 2 dX9_passEvening_75 (by decide) ?_
  exact hrec2 (x3 + 1) σ hf
set_option maxRecDepth 100000 in
set_option maxHeartbeats 4000000 in
theorem v_X9_passEvening_2 {N : Nat} {Γ : SG} {ρ : Nat → Nat → Nat} (hs : Sh Γ ρ) {this : Nat} {a1 : Nat} {a2 : Int32} (h0 : Γ[this]? = some (0, 9)) (h1 : Γ[a1]? = some (0, 0)) {n0 : Nat} {r : Int32} {σr : St} (rec2 : Int32 → St → Option (Int32 × St)) (hrec2 : ∀ (x3 : Int32) (σ : St), rec2 x3 σ = some (r, σr) → Go mX9_passEvening 4 0 0 n0 (Kv Γ ρ σr) 0 0 2 [some (.ref this), some (.ref a1), some (.int a2), some (.int x3), none, none] [] (hp Γ ρ σ)) (x3 : Int32) (σ : St) (hf : b_X9_passEvening_2 N ρ this a1 a2 rec2 x3 σ = some (r, σr)) : Go mX9_passEvening 4 0 0 n0 (Kv Γ ρ σr) 0 0 2 [some (.ref this), some (.ref a1), some (.int a2), some (.int x3), none, none] [] (hp Γ ρ σ) := by
  unfold b_X9_passEvening_2 at hf
  refine go_iload_n 3 dX9_passEvening_2 rfl rfl ?_
  refine go_aload_n 1 dX9_passEvening_3 rfl rfl ?_
  refine go_fI fl_X9_55 dX9_passEvening_4 h1 (by decide) rfl ?_
  refine go_icmp_ge 78 dX9_passEvening_7 (by decide) (fun c1 => ?_) (fun c1 => ?_)
  · replace hf := (if_pos c1).symm.trans hf
    refine go_aload_n 0 dX9_passEvening_78 rfl rfl ?_
    refine go_dup dX9_passEvening_79 rfl ?_
    refine go_fI fl_X9_26 dX9_passEvening_80 h0 (by decide) rfl ?_
    refine go_iconst 1 dX9_passEvening_83 (by decide) ?_
    refine go_iadd dX9_passEvening_84 ?_
    obtain ⟨σ2, eσ2, hf⟩ := nmd_some hf
    refine go_pI fl_X9_26 ft_9_4 (okv_i _) dX9_passEvening_85 h0 (by decide) rfl ?_
    rw [eσ2]
    cases hf
    exact go_vret rfl dX9_passEvening_88 (Nat.le_refl _) ⟨rfl, rfl⟩
  · replace hf := (if_neg c1).symm.trans hf
    refine go_aload_n 0 dX9_passEvening_10 rfl rfl ?_
    refine go_fR fl_X9_23 dX9_passEvening_11 h0 (by decide) rfl ?_
    refine go_iload_n 3 dX9_passEvening_14 rfl rfl ?_
    obtain ⟨g3, hf⟩ := gd_some hf
    refine go_rI dX9_passEvening_15 (hs.1 _ 9 3 h0 rfl) (ib_in g3) ?_
    obtain ⟨y4, ey4, hf⟩ := nmd_some hf
    refine go_nm ey4 ?_
    refine go_istore [some (.ref this), some (.ref a1), some (.int a2), some (.int x3), some (.int y4), none] dX9_passEvening_16 (by decide) rfl ?_
    refine go_aload_n 0 dX9_passEvening_18 rfl rfl ?_
    refine go_iload dX9_passEvening_19 rfl ?_
    obtain ⟨r5, σ6, q7, hf⟩ := bnd_some hf
    refine go_Vi (av := [.int y4]) (rest := []) (t_X9_setAt hs h0 q7) ok_X9_setAt ml_X9_65 dX9_passEvening_21 h0 rfl rfl (by decide) (Nat.le_refl _) (Nat.le_refl _) (Nat.le_of_ble_eq_true rfl) ?_
    refine go_istore [some (.ref this), some (.ref a1), some (.int a2), some (.int x3), some (.int y4), some (.int r5)] dX9_passEvening_24 (by decide) rfl ?_
    refine go_iload dX9_passEvening_26 rfl ?_
    refine go_if_ge 40 dX9_passEvening_28 (by decide) (fun c8 => ?_) (fun c8 => ?_)
    · replace hf := (if_pos c8).symm.trans hf
      refine go_iload_n 2 dX9_passEvening_40 rfl rfl ?_
      refine go_iload dX9_passEvening_41 rfl ?_
      refine go_ishr dX9_passEvening_43 ?_
      refine go_iconst 1 dX9_passEvening_44 (by decide) ?_
      refine go_iand dX9_passEvening_45 ?_
      refine go_if_ne 72 dX9_passEvening_46 (by decide) (fun c9 => ?_) (fun c9 => ?_)
      · replace hf := (if_neg c9).symm.trans hf
        refine go_msk [true, true, true, true, false, false] [some (.ref this), some (.ref a1), some (.int a2), some (.int x3), none, none] rfl ?_
        exact w_X9_passEvening_72 hs h0 h1 rec2 hrec2 x3 σ6 hf
      · replace hf := (if_pos c9).symm.trans hf
        refine go_aload_n 1 dX9_passEvening_49 rfl rfl ?_
        refine go_iload dX9_passEvening_50 rfl ?_
        obtain ⟨r10, σ11, q12, hf⟩ := bnd_some hf
        refine go_Vi (av := [.int r5]) (rest := []) (t_X0_quarrelIn hs h1 q12) ok_X0_quarrelIn ml_X9_69 dX9_passEvening_52 h1 rfl rfl (by decide) (Nat.le_refl _) (Nat.le_refl _) (Nat.le_of_ble_eq_true rfl) ?_
        refine go_if_ne 72 dX9_passEvening_55 (by decide) (fun c13 => ?_) (fun c13 => ?_)
        · replace hf := (if_neg c13).symm.trans hf
          refine go_msk [true, true, true, true, false, false] [some (.ref this), some (.ref a1), some (.int a2), some (.int x3), none, none] rfl ?_
          exact w_X9_passEvening_72 hs h0 h1 rec2 hrec2 x3 σ11 hf
        · replace hf := (if_pos c13).symm.trans hf
          refine go_aload_n 0 dX9_passEvening_58 rfl rfl ?_
          refine go_aload_n 1 dX9_passEvening_59 rfl rfl ?_
          refine go_iload_n 3 dX9_passEvening_60 rfl rfl ?_
          refine go_iload dX9_passEvening_61 rfl ?_
          refine go_iload dX9_passEvening_63 rfl ?_
          obtain ⟨r14, σ15, q16, hf⟩ := bnd_some hf
          refine go_Si (av := [.int r5]) (rest := [.int y4, .int x3, .ref a1, .ref this]) (t_J6_bitCount_0f7a4 hs  q16) ok_J6_bitCount_0f7a4 ml_X9_73 dX9_passEvening_65 rfl rfl (by decide) (Nat.le_refl _) (Nat.le_refl _) (Nat.le_of_ble_eq_true rfl) ?_
          obtain ⟨r17, σ18, q19, hf⟩ := bnd_some hf
          refine go_Vi (av := [.ref a1, .int x3, .int y4, .int r14]) (rest := []) (t_X9_kneel hs h0 h1 q19) ok_X9_kneel ml_X9_101 dX9_passEvening_68 h0 rfl rfl (by decide) (Nat.le_refl _) (Nat.le_refl _) (Nat.le_of_ble_eq_true rfl) ?_
          refine go_pop dX9_passEvening_71 rfl ?_
          refine go_msk [true, true, true, true, false, false] [some (.ref this), some (.ref a1), some (.int a2), some (.int x3), none, none] rfl ?_
          exact w_X9_passEvening_72 hs h0 h1 rec2 hrec2 x3 σ18 hf
    · replace hf := (if_neg c8).symm.trans hf
      refine go_aload_n 0 dX9_passEvening_31 rfl rfl ?_
      refine go_aload_n 1 dX9_passEvening_32 rfl rfl ?_
      refine go_iload_n 3 dX9_passEvening_33 rfl rfl ?_
      obtain ⟨r20, σ21, q22, hf⟩ := bnd_some hf
      refine go_Vv (av := [.ref a1, .int x3]) (rest := []) (t_X9_rest hs h0 h1 q22) ok_X9_rest ml_X9_97 dX9_passEvening_34 h0 rfl rfl (by decide) (Nat.le_refl _) (Nat.le_refl _) (Nat.le_of_ble_eq_true rfl) ?_
      refine go_goto 72 dX9_passEvening_37 (by decide) ?_
      refine go_msk [true, true, true, true, false, false] [some (.ref this), some (.ref a1), some (.int a2), some (.int x3), none, none] rfl ?_
      exact w_X9_passEvening_72 hs h0 h1 rec2 hrec2 x3 σ21 hf
theorem w_X9_passEvening_2 {N : Nat} {Γ : SG} {ρ : Nat → Nat → Nat} (hs : Sh Γ ρ) {this : Nat} {a1 : Nat} {a2 : Int32} (h0 : Γ[this]? = some (0, 9)) (h1 : Γ[a1]? = some (0, 0)) {n0 : Nat} {r : Int32} {σr : St} : ∀ (n : Nat) (x3 : Int32) (σ : St), f_X9_passEvening_2 N ρ this a1 a2 n x3 σ = some (r, σr) → Go mX9_passEvening 4 0 0 n0 (Kv Γ ρ σr) 0 0 2 [some (.ref this), some (.ref a1), some (.int a2), some (.int x3), none, none] [] (hp Γ ρ σ) := by
  intro n
  induction n with
  | zero => intro x3 σ hf; cases hf
  | succ n ih => intro x3 σ hf; exact v_X9_passEvening_2 hs h0 h1 _ ih x3 σ hf
set_option maxRecDepth 100000 in
set_option maxHeartbeats 4000000 in
theorem t_X9_passEvening {N : Nat} {Γ : SG} {ρ : Nat → Nat → Nat} (hs : Sh Γ ρ) {this : Nat} {a1 : Nat} {a2 : Int32} (h0 : Γ[this]? = some (0, 9)) (h1 : Γ[a1]? = some (0, 0)) {σ : St} {r : Int32} {σr : St} (hf : f_X9_passEvening N ρ this a1 a2 σ = some (r, σr)) : Tri mX9_passEvening 4 0 0 [.ref this, .ref a1, .int a2] (hp Γ ρ σ) (Kv Γ ρ σr) := by
  unfold f_X9_passEvening at hf
  refine tri_of [some (.ref this), some (.ref a1), some (.int a2), none, none, none] (plainFor_of_name rfl) rfl (Nat.le_of_ble_eq_true rfl) ?_
  refine go_iconst 0 dX9_passEvening_0 (by decide) ?_
  refine go_istore_n 3 [some (.ref this), some (.ref a1), some (.int a2), some (.int 0), none, none] dX9_passEvening_1 rfl (by decide) rfl ?_
  exact w_X9_passEvening_2 hs h0 h1 N 0 σ hf
def f_X4_begin (N : Nat) (ρ : Nat → Nat → Nat) (this : Nat) (a1 : Nat) (σ : St) : Option (Int32 × St) :=
  nmd (sI σ this 1 0) fun σ1 =>
  nmd (sI σ1 this 2 0) fun σ2 =>
  bnd (f_X9_keepIn N ρ a1 (ρ this 0) 902 0 σ2) fun _ σ4 =>
  some (0, σ4)
set_option maxRecDepth 100000 in
set_option maxHeartbeats 4000000 in
theorem t_X4_begin {N : Nat} {Γ : SG} {ρ : Nat → Nat → Nat} (hs : Sh Γ ρ) {this : Nat} {a1 : Nat} (h0 : Γ[this]? = some (0, 4)) (h1 : Γ[a1]? = some (0, 9)) {σ : St} {r : Int32} {σr : St} (hf : f_X4_begin N ρ this a1 σ = some (r, σr)) : Tri mX4_begin 2 0 0 [.ref this, .ref a1] (hp Γ ρ σ) (Kv Γ ρ σr) := by
  unfold f_X4_begin at hf
  refine tri_of [some (.ref this), some (.ref a1)] (plainFor_of_name rfl) rfl (Nat.le_of_ble_eq_true rfl) ?_
  refine go_aload_n 0 dX4_begin_0 rfl rfl ?_
  refine go_iconst 0 dX4_begin_1 (by decide) ?_
  obtain ⟨σ1, eσ1, hf⟩ := nmd_some hf
  refine go_pI fl_X4_15 ft_4_1 (okv_i _) dX4_begin_2 h0 (by decide) rfl ?_
  rw [eσ1]
  refine go_aload_n 0 dX4_begin_5 rfl rfl ?_
  refine go_iconst 0 dX4_begin_6 (by decide) ?_
  obtain ⟨σ2, eσ2, hf⟩ := nmd_some hf
  refine go_pI fl_X4_19 ft_4_2 (okv_i _) dX4_begin_7 h0 (by decide) rfl ?_
  rw [eσ2]
  refine go_aload_n 1 dX4_begin_10 rfl rfl ?_
  refine go_aload_n 0 dX4_begin_11 rfl rfl ?_
  refine go_fR fl_X4_11 dX4_begin_12 h0 (by decide) rfl ?_
  refine go_iconst 0 dX4_begin_15 (by decide) ?_
  obtain ⟨r3, σ4, q5, hf⟩ := bnd_some hf
  refine go_Vv (av := [.ref (ρ this 0), .int 0]) (rest := []) (t_X9_keepIn hs h1 (hs.1 _ 4 0 h0 rfl) q5) ok_X9_keepIn ml_X4_22 dX4_begin_16 h1 rfl rfl (by decide) (Nat.le_refl _) (Nat.le_refl _) (Nat.le_of_ble_eq_true rfl) ?_
  cases hf
  exact go_vret rfl dX4_begin_19 (Nat.le_refl _) ⟨rfl, rfl⟩
def f_X4_add_32 (N : Nat) (ρ : Nat → Nat → Nat) (this : Nat) (a1 : Nat) (σ : St) : Option (Int32 × St) :=
  nmd (sI σ this 1 ((σ.1 this 1) + 1)) fun σ1 =>
  nmd (sI σ1 this 2 0) fun σ2 =>
  bnd (f_X9_keepIn N ρ a1 (ρ this 0) 902 ((σ2.1 this 1) * 22) σ2) fun _ σ4 =>
  some (0, σ4)
def f_X4_add (N : Nat) (ρ : Nat → Nat → Nat) (this : Nat) (a1 : Nat) (σ : St) : Option (Int32 × St) :=
  if (σ.1 this 1 : Int32) < 40 then
    f_X4_add_32 N ρ this a1 σ
  else
    gd (cpok 902 902 22 0 880) <|
    nmd (cpyI σ (ρ this 0) (ρ this 0) 22 0 880) fun σ8 =>
    nmd (sI σ8 this 1 39) fun σ9 =>
    f_X4_add_32 N ρ this a1 σ9
set_option maxRecDepth 100000 in
set_option maxHeartbeats 4000000 in
theorem w_X4_add_32 {N : Nat} {Γ : SG} {ρ : Nat → Nat → Nat} (hs : Sh Γ ρ) {this : Nat} {a1 : Nat} (h0 : Γ[this]? = some (0, 4)) (h1 : Γ[a1]? = some (0, 9)) {n0 : Nat} {r : Int32} {σr : St} (σ : St) (hf : f_X4_add_32 N ρ this a1 σ = some (r, σr)) : Go mX4_add 2 0 0 n0 (Kv Γ ρ σr) 0 0 32 [some (.ref this), some (.ref a1)] [] (hp Γ ρ σ) := by
  unfold f_X4_add_32 at hf
  refine go_aload_n 0 dX4_add_32 rfl rfl ?_
  refine go_dup dX4_add_33 rfl ?_
  refine go_fI fl_X4_15 dX4_add_34 h0 (by decide) rfl ?_
  refine go_iconst 1 dX4_add_37 (by decide) ?_
  refine go_iadd dX4_add_38 ?_
  obtain ⟨σ1, eσ1, hf⟩ := nmd_some hf
  refine go_pI fl_X4_15 ft_4_1 (okv_i _) dX4_add_39 h0 (by decide) rfl ?_
  rw [eσ1]
  refine go_aload_n 0 dX4_add_42 rfl rfl ?_
  refine go_iconst 0 dX4_add_43 (by decide) ?_
  obtain ⟨σ2, eσ2, hf⟩ := nmd_some hf
  refine go_pI fl_X4_19 ft_4_2 (okv_i _) dX4_add_44 h0 (by decide) rfl ?_
  rw [eσ2]
  refine go_aload_n 1 dX4_add_47 rfl rfl ?_
  refine go_aload_n 0 dX4_add_48 rfl rfl ?_
  refine go_fR fl_X4_11 dX4_add_49 h0 (by decide) rfl ?_
  refine go_aload_n 0 dX4_add_52 rfl rfl ?_
  refine go_fI fl_X4_15 dX4_add_53 h0 (by decide) rfl ?_
  refine go_bipush 22 dX4_add_56 (by decide) ?_
  refine go_imul dX4_add_58 ?_
  obtain ⟨r3, σ4, q5, hf⟩ := bnd_some hf
  refine go_Vv (av := [.ref (ρ this 0), .int ((σ2.1 this 1) * 22)]) (rest := []) (t_X9_keepIn hs h1 (hs.1 _ 4 0 h0 rfl) q5) ok_X9_keepIn ml_X4_22 dX4_add_59 h1 rfl rfl (by decide) (Nat.le_refl _) (Nat.le_refl _) (Nat.le_of_ble_eq_true rfl) ?_
  cases hf
  exact go_vret rfl dX4_add_62 (Nat.le_refl _) ⟨rfl, rfl⟩
set_option maxRecDepth 100000 in
set_option maxHeartbeats 4000000 in
theorem t_X4_add {N : Nat} {Γ : SG} {ρ : Nat → Nat → Nat} (hs : Sh Γ ρ) {this : Nat} {a1 : Nat} (h0 : Γ[this]? = some (0, 4)) (h1 : Γ[a1]? = some (0, 9)) {σ : St} {r : Int32} {σr : St} (hf : f_X4_add N ρ this a1 σ = some (r, σr)) : Tri mX4_add 2 0 0 [.ref this, .ref a1] (hp Γ ρ σ) (Kv Γ ρ σr) := by
  unfold f_X4_add at hf
  refine tri_of [some (.ref this), some (.ref a1)] (plainFor_of_name rfl) rfl (Nat.le_of_ble_eq_true rfl) ?_
  refine go_aload_n 0 dX4_add_0 rfl rfl ?_
  refine go_fI fl_X4_15 dX4_add_1 h0 (by decide) rfl ?_
  refine go_bipush 40 dX4_add_4 (by decide) ?_
  refine go_icmp_lt 32 dX4_add_6 (by decide) (fun c6 => ?_) (fun c6 => ?_)
  · replace hf := (if_pos c6).symm.trans hf
    exact w_X4_add_32 hs h0 h1 σ hf
  · replace hf := (if_neg c6).symm.trans hf
    refine go_aload_n 0 dX4_add_9 rfl rfl ?_
    refine go_fR fl_X4_11 dX4_add_10 h0 (by decide) rfl ?_
    refine go_bipush 22 dX4_add_13 (by decide) ?_
    refine go_aload_n 0 dX4_add_15 rfl rfl ?_
    refine go_fR fl_X4_11 dX4_add_16 h0 (by decide) rfl ?_
    refine go_iconst 0 dX4_add_19 (by decide) ?_
    refine go_sipush 880 dX4_add_20 (by decide) ?_
    obtain ⟨g7, hf⟩ := gd_some hf
    obtain ⟨σ8, eσ8, hf⟩ := nmd_some hf
    refine go_cpy ml_X4_26 dX4_add_23 (hs.1 _ 4 0 h0 rfl) (hs.1 _ 4 0 h0 rfl) g7 (by decide) (Nat.le_of_ble_eq_true rfl) ?_
    rw [eσ8]
    refine go_aload_n 0 dX4_add_26 rfl rfl ?_
    refine go_bipush 39 dX4_add_27 (by decide) ?_
    obtain ⟨σ9, eσ9, hf⟩ := nmd_some hf
    refine go_pI fl_X4_15 ft_4_1 (okv_i _) dX4_add_29 h0 (by decide) rfl ?_
    rw [eσ9]
    exact w_X4_add_32 hs h0 h1 σ9 hf
def f_X4_stepBack (N : Nat) (ρ : Nat → Nat → Nat) (this : Nat) (a1 : Nat) (σ : St) : Option (Int32 × St) :=
  if (σ.1 this 1 : Int32) = 0 then
    some (0, σ)
  else
    nmd (sI σ this 1 ((σ.1 this 1) - 1)) fun σ2 =>
    nmd (sI σ2 this 2 ((σ2.1 this 2) + 1)) fun σ3 =>
    bnd (f_X9_takeFrom N ρ a1 (ρ this 0) 902 ((σ3.1 this 1) * 22) σ3) fun _ σ5 =>
    some (1, σ5)
set_option maxRecDepth 100000 in
set_option maxHeartbeats 4000000 in
theorem t_X4_stepBack {N : Nat} {Γ : SG} {ρ : Nat → Nat → Nat} (hs : Sh Γ ρ) {this : Nat} {a1 : Nat} (h0 : Γ[this]? = some (0, 4)) (h1 : Γ[a1]? = some (0, 9)) {σ : St} {r : Int32} {σr : St} (hf : f_X4_stepBack N ρ this a1 σ = some (r, σr)) : Tri mX4_stepBack 2 0 0 [.ref this, .ref a1] (hp Γ ρ σ) (Ki Γ ρ r σr) := by
  unfold f_X4_stepBack at hf
  refine tri_of [some (.ref this), some (.ref a1)] (plainFor_of_name rfl) rfl (Nat.le_of_ble_eq_true rfl) ?_
  refine go_aload_n 0 dX4_stepBack_0 rfl rfl ?_
  refine go_fI fl_X4_15 dX4_stepBack_1 h0 (by decide) rfl ?_
  refine go_if_ne 9 dX4_stepBack_4 (by decide) (fun c1 => ?_) (fun c1 => ?_)
  · replace hf := (if_neg c1).symm.trans hf
    refine go_aload_n 0 dX4_stepBack_9 rfl rfl ?_
    refine go_dup dX4_stepBack_10 rfl ?_
    refine go_fI fl_X4_15 dX4_stepBack_11 h0 (by decide) rfl ?_
    refine go_iconst 1 dX4_stepBack_14 (by decide) ?_
    refine go_isub dX4_stepBack_15 ?_
    obtain ⟨σ2, eσ2, hf⟩ := nmd_some hf
    refine go_pI fl_X4_15 ft_4_1 (okv_i _) dX4_stepBack_16 h0 (by decide) rfl ?_
    rw [eσ2]
    refine go_aload_n 0 dX4_stepBack_19 rfl rfl ?_
    refine go_dup dX4_stepBack_20 rfl ?_
    refine go_fI fl_X4_19 dX4_stepBack_21 h0 (by decide) rfl ?_
    refine go_iconst 1 dX4_stepBack_24 (by decide) ?_
    refine go_iadd dX4_stepBack_25 ?_
    obtain ⟨σ3, eσ3, hf⟩ := nmd_some hf
    refine go_pI fl_X4_19 ft_4_2 (okv_i _) dX4_stepBack_26 h0 (by decide) rfl ?_
    rw [eσ3]
    refine go_aload_n 1 dX4_stepBack_29 rfl rfl ?_
    refine go_aload_n 0 dX4_stepBack_30 rfl rfl ?_
    refine go_fR fl_X4_11 dX4_stepBack_31 h0 (by decide) rfl ?_
    refine go_aload_n 0 dX4_stepBack_34 rfl rfl ?_
    refine go_fI fl_X4_15 dX4_stepBack_35 h0 (by decide) rfl ?_
    refine go_bipush 22 dX4_stepBack_38 (by decide) ?_
    refine go_imul dX4_stepBack_40 ?_
    obtain ⟨r4, σ5, q6, hf⟩ := bnd_some hf
    refine go_Vv (av := [.ref (ρ this 0), .int ((σ3.1 this 1) * 22)]) (rest := []) (t_X9_takeFrom hs h1 (hs.1 _ 4 0 h0 rfl) q6) ok_X9_takeFrom ml_X4_32 dX4_stepBack_41 h1 rfl rfl (by decide) (Nat.le_refl _) (Nat.le_refl _) (Nat.le_of_ble_eq_true rfl) ?_
    refine go_iconst 1 dX4_stepBack_44 (by decide) ?_
    cases hf
    exact go_zret rfl (by decide) dX4_stepBack_45 (Nat.le_refl _) ⟨rfl, rfl⟩
  · replace hf := (if_pos c1).symm.trans hf
    refine go_iconst 0 dX4_stepBack_7 (by decide) ?_
    cases hf
    exact go_zret rfl (by decide) dX4_stepBack_8 (Nat.le_refl _) ⟨rfl, rfl⟩
def f_X4_stepOn (N : Nat) (ρ : Nat → Nat → Nat) (this : Nat) (a1 : Nat) (σ : St) : Option (Int32 × St) :=
  if (σ.1 this 2 : Int32) = 0 then
    some (0, σ)
  else
    nmd (sI σ this 2 ((σ.1 this 2) - 1)) fun σ2 =>
    nmd (sI σ2 this 1 ((σ2.1 this 1) + 1)) fun σ3 =>
    bnd (f_X9_takeFrom N ρ a1 (ρ this 0) 902 ((σ3.1 this 1) * 22) σ3) fun _ σ5 =>
    some (1, σ5)
set_option maxRecDepth 100000 in
set_option maxHeartbeats 4000000 in
theorem t_X4_stepOn {N : Nat} {Γ : SG} {ρ : Nat → Nat → Nat} (hs : Sh Γ ρ) {this : Nat} {a1 : Nat} (h0 : Γ[this]? = some (0, 4)) (h1 : Γ[a1]? = some (0, 9)) {σ : St} {r : Int32} {σr : St} (hf : f_X4_stepOn N ρ this a1 σ = some (r, σr)) : Tri mX4_stepOn 2 0 0 [.ref this, .ref a1] (hp Γ ρ σ) (Ki Γ ρ r σr) := by
  unfold f_X4_stepOn at hf
  refine tri_of [some (.ref this), some (.ref a1)] (plainFor_of_name rfl) rfl (Nat.le_of_ble_eq_true rfl) ?_
  refine go_aload_n 0 dX4_stepOn_0 rfl rfl ?_
  refine go_fI fl_X4_19 dX4_stepOn_1 h0 (by decide) rfl ?_
  refine go_if_ne 9 dX4_stepOn_4 (by decide) (fun c1 => ?_) (fun c1 => ?_)
  · replace hf := (if_neg c1).symm.trans hf
    refine go_aload_n 0 dX4_stepOn_9 rfl rfl ?_
    refine go_dup dX4_stepOn_10 rfl ?_
    refine go_fI fl_X4_19 dX4_stepOn_11 h0 (by decide) rfl ?_
    refine go_iconst 1 dX4_stepOn_14 (by decide) ?_
    refine go_isub dX4_stepOn_15 ?_
    obtain ⟨σ2, eσ2, hf⟩ := nmd_some hf
    refine go_pI fl_X4_19 ft_4_2 (okv_i _) dX4_stepOn_16 h0 (by decide) rfl ?_
    rw [eσ2]
    refine go_aload_n 0 dX4_stepOn_19 rfl rfl ?_
    refine go_dup dX4_stepOn_20 rfl ?_
    refine go_fI fl_X4_15 dX4_stepOn_21 h0 (by decide) rfl ?_
    refine go_iconst 1 dX4_stepOn_24 (by decide) ?_
    refine go_iadd dX4_stepOn_25 ?_
    obtain ⟨σ3, eσ3, hf⟩ := nmd_some hf
    refine go_pI fl_X4_15 ft_4_1 (okv_i _) dX4_stepOn_26 h0 (by decide) rfl ?_
    rw [eσ3]
    refine go_aload_n 1 dX4_stepOn_29 rfl rfl ?_
    refine go_aload_n 0 dX4_stepOn_30 rfl rfl ?_
    refine go_fR fl_X4_11 dX4_stepOn_31 h0 (by decide) rfl ?_
    refine go_aload_n 0 dX4_stepOn_34 rfl rfl ?_
    refine go_fI fl_X4_15 dX4_stepOn_35 h0 (by decide) rfl ?_
    refine go_bipush 22 dX4_stepOn_38 (by decide) ?_
    refine go_imul dX4_stepOn_40 ?_
    obtain ⟨r4, σ5, q6, hf⟩ := bnd_some hf
    refine go_Vv (av := [.ref (ρ this 0), .int ((σ3.1 this 1) * 22)]) (rest := []) (t_X9_takeFrom hs h1 (hs.1 _ 4 0 h0 rfl) q6) ok_X9_takeFrom ml_X4_32 dX4_stepOn_41 h1 rfl rfl (by decide) (Nat.le_refl _) (Nat.le_refl _) (Nat.le_of_ble_eq_true rfl) ?_
    refine go_iconst 1 dX4_stepOn_44 (by decide) ?_
    cases hf
    exact go_zret rfl (by decide) dX4_stepOn_45 (Nat.le_refl _) ⟨rfl, rfl⟩
  · replace hf := (if_pos c1).symm.trans hf
    refine go_iconst 0 dX4_stepOn_7 (by decide) ?_
    cases hf
    exact go_zret rfl (by decide) dX4_stepOn_8 (Nat.le_refl _) ⟨rfl, rfl⟩
