def f_X6_forget (N : Nat) (ρ : Nat → Nat → Nat) (this : Nat) (σ : St) : Option (Int32 × St) :=
  nmd (sI σ this 6 0) fun σ1 =>
  some (0, σ1)
set_option maxRecDepth 100000 in
set_option maxHeartbeats 4000000 in
theorem t_X6_forget {N : Nat} {Γ : SG} {ρ : Nat → Nat → Nat} (hs : Sh Γ ρ) {this : Nat} (h0 : Γ[this]? = some (0, 6)) {σ : St} {r : Int32} {σr : St} (hf : f_X6_forget N ρ this σ = some (r, σr)) : Tri mX6_forget 0 0 0 [.ref this] (hp Γ ρ σ) (Kv Γ ρ σr) := by
  unfold f_X6_forget at hf
  refine tri_of [some (.ref this)] (plainFor_of_name rfl) rfl (Nat.le_of_ble_eq_true rfl) ?_
  refine go_aload_n 0 dX6_forget_0 rfl rfl ?_
  refine go_iconst 0 dX6_forget_1 (by decide) ?_
  obtain ⟨σ1, eσ1, hf⟩ := nmd_some hf
  refine go_pI fl_X6_31 ft_6_6 (okv_i _) dX6_forget_2 h0 (by decide) rfl ?_
  rw [eσ1]
  cases hf
  exact go_vret rfl dX6_forget_5 (Nat.le_refl _) ⟨rfl, rfl⟩
def f_X6_tell_29 (N : Nat) (ρ : Nat → Nat → Nat) (this : Nat) (a1 : Int32) (a2 : Int32) (a3 : Int32) (a4 : Int32) (σ : St) : Option (Int32 × St) :=
  some ((-1), σ)
def f_X6_tell (N : Nat) (ρ : Nat → Nat → Nat) (this : Nat) (a1 : Int32) (a2 : Int32) (a3 : Int32) (a4 : Int32) (σ : St) : Option (Int32 × St) :=
  if (a1 : Int32) < 1 then
    f_X6_tell_29 N ρ this a1 a2 a3 a4 σ
  else
    if 3 < (a1 : Int32) then
      f_X6_tell_29 N ρ this a1 a2 a3 a4 σ
    else
      if (a3 : Int32) < 0 then
        f_X6_tell_29 N ρ this a1 a2 a3 a4 σ
      else
        if 99 < (a3 : Int32) then
          f_X6_tell_29 N ρ this a1 a2 a3 a4 σ
        else
          if (σ.1 this 6 : Int32) < 30 then
            nmd (σ.1 this 6) fun y6 =>
            gd (ib y6 30) <|
            nmd (sI σ (ρ this 0) y6.toNatClampNeg a1) fun σ8 =>
            gd (ib y6 30) <|
            nmd (sI σ8 (ρ this 1) y6.toNatClampNeg (vp_nar .boolean a2)) fun σ10 =>
            gd (ib y6 30) <|
            nmd (sI σ10 (ρ this 2) y6.toNatClampNeg a3) fun σ12 =>
            gd (ib y6 30) <|
            nmd (sI σ12 (ρ this 3) y6.toNatClampNeg (vp_nar .boolean a4)) fun σ14 =>
            gd (ib y6 30) <|
            nmd (sI σ14 (ρ this 4) y6.toNatClampNeg (σ14.1 this 7)) fun σ16 =>
            gd (ib y6 30) <|
            nmd (sI σ16 (ρ this 5) y6.toNatClampNeg (-1)) fun σ18 =>
            nmd (sI σ18 this 6 ((σ18.1 this 6) + 1)) fun σ19 =>
            some (y6, σ19)
          else
            f_X6_tell_29 N ρ this a1 a2 a3 a4 σ
set_option maxRecDepth 100000 in
set_option maxHeartbeats 4000000 in
theorem w_X6_tell_29 {N : Nat} {Γ : SG} {ρ : Nat → Nat → Nat} (hs : Sh Γ ρ) {this : Nat} {a1 : Int32} {a2 : Int32} {a3 : Int32} {a4 : Int32} (h0 : Γ[this]? = some (0, 6)) {n0 : Nat} {r : Int32} {σr : St} (σ : St) (hf : f_X6_tell_29 N ρ this a1 a2 a3 a4 σ = some (r, σr)) : Go mX6_tell 0 0 0 n0 (Ki Γ ρ r σr) 0 0 29 [none, none, none, none, none, none] [] (hp Γ ρ σ) := by
  unfold f_X6_tell_29 at hf
  refine go_iconst (-1) dX6_tell_29 (by decide) ?_
  cases hf
  exact go_iret rfl dX6_tell_30 (Nat.le_refl _) ⟨rfl, rfl⟩
set_option maxRecDepth 100000 in
set_option maxHeartbeats 4000000 in
theorem t_X6_tell {N : Nat} {Γ : SG} {ρ : Nat → Nat → Nat} (hs : Sh Γ ρ) {this : Nat} {a1 : Int32} {a2 : Int32} {a3 : Int32} {a4 : Int32} (h0 : Γ[this]? = some (0, 6)) {σ : St} {r : Int32} {σr : St} (hf : f_X6_tell N ρ this a1 a2 a3 a4 σ = some (r, σr)) : Tri mX6_tell 0 0 0 [.ref this, .int a1, .int a2, .int a3, .int a4] (hp Γ ρ σ) (Ki Γ ρ r σr) := by
  unfold f_X6_tell at hf
  refine tri_of [some (.ref this), some (.int a1), some (.int a2), some (.int a3), some (.int a4), none] (plainFor_of_name rfl) rfl (Nat.le_of_ble_eq_true rfl) ?_
  refine go_iload_n 1 dX6_tell_0 rfl rfl ?_
  refine go_iconst 1 dX6_tell_1 (by decide) ?_
  refine go_icmp_lt 29 dX6_tell_2 (by decide) (fun c1 => ?_) (fun c1 => ?_)
  · replace hf := (if_pos c1).symm.trans hf
    refine go_msk [false, false, false, false, false, false] [none, none, none, none, none, none] rfl ?_
    exact w_X6_tell_29 hs h0 σ hf
  · replace hf := (if_neg c1).symm.trans hf
    refine go_iload_n 1 dX6_tell_5 rfl rfl ?_
    refine go_iconst 3 dX6_tell_6 (by decide) ?_
    refine go_icmp_gt 29 dX6_tell_7 (by decide) (fun c2 => ?_) (fun c2 => ?_)
    · replace hf := (if_pos c2).symm.trans hf
      refine go_msk [false, false, false, false, false, false] [none, none, none, none, none, none] rfl ?_
      exact w_X6_tell_29 hs h0 σ hf
    · replace hf := (if_neg c2).symm.trans hf
      refine go_iload_n 3 dX6_tell_10 rfl rfl ?_
      refine go_if_lt 29 dX6_tell_11 (by decide) (fun c3 => ?_) (fun c3 => ?_)
      · replace hf := (if_pos c3).symm.trans hf
        refine go_msk [false, false, false, false, false, false] [none, none, none, none, none, none] rfl ?_
        exact w_X6_tell_29 hs h0 σ hf
      · replace hf := (if_neg c3).symm.trans hf
        refine go_iload_n 3 dX6_tell_14 rfl rfl ?_
        refine go_bipush 99 dX6_tell_15 (by decide) ?_
        refine go_icmp_gt 29 dX6_tell_17 (by decide) (fun c4 => ?_) (fun c4 => ?_)
        · replace hf := (if_pos c4).symm.trans hf
          refine go_msk [false, false, false, false, false, false] [none, none, none, none, none, none] rfl ?_
          exact w_X6_tell_29 hs h0 σ hf
        · replace hf := (if_neg c4).symm.trans hf
          refine go_aload_n 0 dX6_tell_20 rfl rfl ?_
          refine go_fI fl_X6_31 dX6_tell_21 h0 (by decide) rfl ?_
          refine go_bipush 30 dX6_tell_24 (by decide) ?_
          refine go_icmp_lt 31 dX6_tell_26 (by decide) (fun c5 => ?_) (fun c5 => ?_)
          · replace hf := (if_pos c5).symm.trans hf
            refine go_aload_n 0 dX6_tell_31 rfl rfl ?_
            refine go_fI fl_X6_31 dX6_tell_32 h0 (by decide) rfl ?_
            obtain ⟨y6, ey6, hf⟩ := nmd_some hf
            refine go_nm ey6 ?_
            refine go_istore [some (.ref this), some (.int a1), some (.int a2), some (.int a3), some (.int a4), some (.int y6)] dX6_tell_35 (by decide) rfl ?_
            refine go_aload_n 0 dX6_tell_37 rfl rfl ?_
            refine go_fR fl_X6_11 dX6_tell_38 h0 (by decide) rfl ?_
            refine go_iload dX6_tell_41 rfl ?_
            refine go_iload_n 1 dX6_tell_43 rfl rfl ?_
            obtain ⟨g7, hf⟩ := gd_some hf
            obtain ⟨σ8, eσ8, hf⟩ := nmd_some hf
            refine go_wI dX6_tell_44 (hs.1 _ 6 0 h0 rfl) (ib_in g7) ?_
            rw [eσ8]
            refine go_aload_n 0 dX6_tell_45 rfl rfl ?_
            refine go_fR fl_X6_15 dX6_tell_46 h0 (by decide) rfl ?_
            refine go_iload dX6_tell_49 rfl ?_
            refine go_iload_n 2 dX6_tell_51 rfl rfl ?_
            obtain ⟨g9, hf⟩ := gd_some hf
            obtain ⟨σ10, eσ10, hf⟩ := nmd_some hf
            refine go_wZ dX6_tell_52 (hs.1 _ 6 1 h0 rfl) (ib_in g9) ?_
            rw [eσ10]
            refine go_aload_n 0 dX6_tell_53 rfl rfl ?_
            refine go_fR fl_X6_19 dX6_tell_54 h0 (by decide) rfl ?_
            refine go_iload dX6_tell_57 rfl ?_
            refine go_iload_n 3 dX6_tell_59 rfl rfl ?_
            obtain ⟨g11, hf⟩ := gd_some hf
            obtain ⟨σ12, eσ12, hf⟩ := nmd_some hf
            refine go_wI dX6_tell_60 (hs.1 _ 6 2 h0 rfl) (ib_in g11) ?_
            rw [eσ12]
            refine go_aload_n 0 dX6_tell_61 rfl rfl ?_
            refine go_fR fl_X6_22 dX6_tell_62 h0 (by decide) rfl ?_
            refine go_iload dX6_tell_65 rfl ?_
            refine go_iload dX6_tell_67 rfl ?_
            obtain ⟨g13, hf⟩ := gd_some hf
            obtain ⟨σ14, eσ14, hf⟩ := nmd_some hf
            refine go_wZ dX6_tell_69 (hs.1 _ 6 3 h0 rfl) (ib_in g13) ?_
            rw [eσ14]
            refine go_aload_n 0 dX6_tell_70 rfl rfl ?_
            refine go_fR fl_X6_25 dX6_tell_71 h0 (by decide) rfl ?_
            refine go_iload dX6_tell_74 rfl ?_
            refine go_aload_n 0 dX6_tell_76 rfl rfl ?_
            refine go_fI fl_X6_35 dX6_tell_77 h0 (by decide) rfl ?_
            obtain ⟨g15, hf⟩ := gd_some hf
            obtain ⟨σ16, eσ16, hf⟩ := nmd_some hf
            refine go_wI dX6_tell_80 (hs.1 _ 6 4 h0 rfl) (ib_in g15) ?_
            rw [eσ16]
            refine go_aload_n 0 dX6_tell_81 rfl rfl ?_
            refine go_fR fl_X6_28 dX6_tell_82 h0 (by decide) rfl ?_
            refine go_iload dX6_tell_85 rfl ?_
            refine go_iconst (-1) dX6_tell_87 (by decide) ?_
            obtain ⟨g17, hf⟩ := gd_some hf
            obtain ⟨σ18, eσ18, hf⟩ := nmd_some hf
            refine go_wI dX6_tell_88 (hs.1 _ 6 5 h0 rfl) (ib_in g17) ?_
            rw [eσ18]
            refine go_aload_n 0 dX6_tell_89 rfl rfl ?_
            refine go_dup dX6_tell_90 rfl ?_
            refine go_fI fl_X6_31 dX6_tell_91 h0 (by decide) rfl ?_
            refine go_iconst 1 dX6_tell_94 (by decide) ?_
            refine go_iadd dX6_tell_95 ?_
            obtain ⟨σ19, eσ19, hf⟩ := nmd_some hf
            refine go_pI fl_X6_31 ft_6_6 (okv_i _) dX6_tell_96 h0 (by decide) rfl ?_
            rw [eσ19]
            refine go_iload dX6_tell_99 rfl ?_
            cases hf
            exact go_iret rfl dX6_tell_101 (Nat.le_refl _) ⟨rfl, rfl⟩
          · replace hf := (if_neg c5).symm.trans hf
            refine go_msk [false, false, false, false, false, false] [none, none, none, none, none, none] rfl ?_
            exact w_X6_tell_29 hs h0 σ hf
def f_X6_takeBack_28 (N : Nat) (ρ : Nat → Nat → Nat) (this : Nat) (a1 : Int32) (σ : St) : Option (Int32 × St) :=
  some (0, σ)
def f_X6_takeBack (N : Nat) (ρ : Nat → Nat → Nat) (this : Nat) (a1 : Int32) (σ : St) : Option (Int32 × St) :=
  if (a1 : Int32) < 0 then
    f_X6_takeBack_28 N ρ this a1 σ
  else
    if (σ.1 this 6) ≤ (a1 : Int32) then
      f_X6_takeBack_28 N ρ this a1 σ
    else
      if 30 ≤ (a1 : Int32) then
        f_X6_takeBack_28 N ρ this a1 σ
      else
        gd (ib a1 30) <|
        if (σ.1 (ρ this 5) a1.toNatClampNeg : Int32) = (-1) then
          gd (ib a1 30) <|
          nmd (sI σ (ρ this 5) a1.toNatClampNeg (σ.1 this 7)) fun σ7 =>
          some (1, σ7)
        else
          f_X6_takeBack_28 N ρ this a1 σ
set_option maxRecDepth 100000 in
set_option maxHeartbeats 4000000 in
theorem w_X6_takeBack_28 {N : Nat} {Γ : SG} {ρ : Nat → Nat → Nat} (hs : Sh Γ ρ) {this : Nat} {a1 : Int32} (h0 : Γ[this]? = some (0, 6)) {n0 : Nat} {r : Int32} {σr : St} (σ : St) (hf : f_X6_takeBack_28 N ρ this a1 σ = some (r, σr)) : Go mX6_takeBack 0 0 0 n0 (Ki Γ ρ r σr) 0 0 28 [none, none] [] (hp Γ ρ σ) := by
  unfold f_X6_takeBack_28 at hf
  refine go_iconst 0 dX6_takeBack_28 (by decide) ?_
  cases hf
  exact go_zret rfl (by decide) dX6_takeBack_29 (Nat.le_refl _) ⟨rfl, rfl⟩
set_option maxRecDepth 100000 in
set_option maxHeartbeats 4000000 in
theorem t_X6_takeBack {N : Nat} {Γ : SG} {ρ : Nat → Nat → Nat} (hs : Sh Γ ρ) {this : Nat} {a1 : Int32} (h0 : Γ[this]? = some (0, 6)) {σ : St} {r : Int32} {σr : St} (hf : f_X6_takeBack N ρ this a1 σ = some (r, σr)) : Tri mX6_takeBack 0 0 0 [.ref this, .int a1] (hp Γ ρ σ) (Ki Γ ρ r σr) := by
  unfold f_X6_takeBack at hf
  refine tri_of [some (.ref this), some (.int a1)] (plainFor_of_name rfl) rfl (Nat.le_of_ble_eq_true rfl) ?_
  refine go_iload_n 1 dX6_takeBack_0 rfl rfl ?_
  refine go_if_lt 28 dX6_takeBack_1 (by decide) (fun c1 => ?_) (fun c1 => ?_)
  · replace hf := (if_pos c1).symm.trans hf
    refine go_msk [false, false] [none, none] rfl ?_
    exact w_X6_takeBack_28 hs h0 σ hf
  · replace hf := (if_neg c1).symm.trans hf
    refine go_iload_n 1 dX6_takeBack_4 rfl rfl ?_
    refine go_aload_n 0 dX6_takeBack_5 rfl rfl ?_
    refine go_fI fl_X6_31 dX6_takeBack_6 h0 (by decide) rfl ?_
    refine go_icmp_ge 28 dX6_takeBack_9 (by decide) (fun c2 => ?_) (fun c2 => ?_)
    · replace hf := (if_pos c2).symm.trans hf
      refine go_msk [false, false] [none, none] rfl ?_
      exact w_X6_takeBack_28 hs h0 σ hf
    · replace hf := (if_neg c2).symm.trans hf
      refine go_iload_n 1 dX6_takeBack_12 rfl rfl ?_
      refine go_bipush 30 dX6_takeBack_13 (by decide) ?_
      refine go_icmp_ge 28 dX6_takeBack_15 (by decide) (fun c3 => ?_) (fun c3 => ?_)
      · replace hf := (if_pos c3).symm.trans hf
        refine go_msk [false, false] [none, none] rfl ?_
        exact w_X6_takeBack_28 hs h0 σ hf
      · replace hf := (if_neg c3).symm.trans hf
        refine go_aload_n 0 dX6_takeBack_18 rfl rfl ?_
        refine go_fR fl_X6_28 dX6_takeBack_19 h0 (by decide) rfl ?_
        refine go_iload_n 1 dX6_takeBack_22 rfl rfl ?_
        obtain ⟨g4, hf⟩ := gd_some hf
        refine go_rI dX6_takeBack_23 (hs.1 _ 6 5 h0 rfl) (ib_in g4) ?_
        refine go_iconst (-1) dX6_takeBack_24 (by decide) ?_
        refine go_icmp_eq 30 dX6_takeBack_25 (by decide) (fun c5 => ?_) (fun c5 => ?_)
        · replace hf := (if_pos c5).symm.trans hf
          refine go_aload_n 0 dX6_takeBack_30 rfl rfl ?_
          refine go_fR fl_X6_28 dX6_takeBack_31 h0 (by decide) rfl ?_
          refine go_iload_n 1 dX6_takeBack_34 rfl rfl ?_
          refine go_aload_n 0 dX6_takeBack_35 rfl rfl ?_
          refine go_fI fl_X6_35 dX6_takeBack_36 h0 (by decide) rfl ?_
          obtain ⟨g6, hf⟩ := gd_some hf
          obtain ⟨σ7, eσ7, hf⟩ := nmd_some hf
          refine go_wI dX6_takeBack_39 (hs.1 _ 6 5 h0 rfl) (ib_in g6) ?_
          rw [eσ7]
          refine go_iconst 1 dX6_takeBack_40 (by decide) ?_
          cases hf
          exact go_zret rfl (by decide) dX6_takeBack_41 (Nat.le_refl _) ⟨rfl, rfl⟩
        · replace hf := (if_neg c5).symm.trans hf
          refine go_msk [false, false] [none, none] rfl ?_
          exact w_X6_takeBack_28 hs h0 σ hf
def f_X6_goOn_22 (N : Nat) (ρ : Nat → Nat → Nat) (this : Nat) (a1 : Int32) (σ : St) : Option (Int32 × St) :=
  some ((-1), σ)
def f_X6_goOn (N : Nat) (ρ : Nat → Nat → Nat) (this : Nat) (a1 : Int32) (σ : St) : Option (Int32 × St) :=
  if (a1 : Int32) < 0 then
    f_X6_goOn_22 N ρ this a1 σ
  else
    if 1000 < (a1 : Int32) then
      f_X6_goOn_22 N ρ this a1 σ
    else
      if ((σ.1 this 7) + a1 : Int32) ≤ (100000) then
        nmd (sI σ this 7 ((σ.1 this 7) + a1)) fun σ4 =>
        some (σ4.1 this 7, σ4)
      else
        f_X6_goOn_22 N ρ this a1 σ
set_option maxRecDepth 100000 in
set_option maxHeartbeats 4000000 in
theorem w_X6_goOn_22 {N : Nat} {Γ : SG} {ρ : Nat → Nat → Nat} (hs : Sh Γ ρ) {this : Nat} {a1 : Int32} (h0 : Γ[this]? = some (0, 6)) {n0 : Nat} {r : Int32} {σr : St} (σ : St) (hf : f_X6_goOn_22 N ρ this a1 σ = some (r, σr)) : Go mX6_goOn 0 0 0 n0 (Ki Γ ρ r σr) 0 0 22 [none, none] [] (hp Γ ρ σ) := by
  unfold f_X6_goOn_22 at hf
  refine go_iconst (-1) dX6_goOn_22 (by decide) ?_
  cases hf
  exact go_iret rfl dX6_goOn_23 (Nat.le_refl _) ⟨rfl, rfl⟩
set_option maxRecDepth 100000 in
set_option maxHeartbeats 4000000 in
theorem t_X6_goOn {N : Nat} {Γ : SG} {ρ : Nat → Nat → Nat} (hs : Sh Γ ρ) {this : Nat} {a1 : Int32} (h0 : Γ[this]? = some (0, 6)) {σ : St} {r : Int32} {σr : St} (hf : f_X6_goOn N ρ this a1 σ = some (r, σr)) : Tri mX6_goOn 0 0 0 [.ref this, .int a1] (hp Γ ρ σ) (Ki Γ ρ r σr) := by
  unfold f_X6_goOn at hf
  refine tri_of [some (.ref this), some (.int a1)] (plainFor_of_name rfl) rfl (Nat.le_of_ble_eq_true rfl) ?_
  refine go_iload_n 1 dX6_goOn_0 rfl rfl ?_
  refine go_if_lt 22 dX6_goOn_1 (by decide) (fun c1 => ?_) (fun c1 => ?_)
  · replace hf := (if_pos c1).symm.trans hf
    refine go_msk [false, false] [none, none] rfl ?_
    exact w_X6_goOn_22 hs h0 σ hf
  · replace hf := (if_neg c1).symm.trans hf
    refine go_iload_n 1 dX6_goOn_4 rfl rfl ?_
    refine go_sipush 1000 dX6_goOn_5 (by decide) ?_
    refine go_icmp_gt 22 dX6_goOn_8 (by decide) (fun c2 => ?_) (fun c2 => ?_)
    · replace hf := (if_pos c2).symm.trans hf
      refine go_msk [false, false] [none, none] rfl ?_
      exact w_X6_goOn_22 hs h0 σ hf
    · replace hf := (if_neg c2).symm.trans hf
      refine go_aload_n 0 dX6_goOn_11 rfl rfl ?_
      refine go_fI fl_X6_35 dX6_goOn_12 h0 (by decide) rfl ?_
      refine go_iload_n 1 dX6_goOn_15 rfl rfl ?_
      refine go_iadd dX6_goOn_16 ?_
      refine go_ldc (100000) dX6_goOn_17 cn_X6_64 ?_
      refine go_icmp_le 24 dX6_goOn_19 (by decide) (fun c3 => ?_) (fun c3 => ?_)
      · replace hf := (if_pos c3).symm.trans hf
        refine go_aload_n 0 dX6_goOn_24 rfl rfl ?_
        refine go_dup dX6_goOn_25 rfl ?_
        refine go_fI fl_X6_35 dX6_goOn_26 h0 (by decide) rfl ?_
        refine go_iload_n 1 dX6_goOn_29 rfl rfl ?_
        refine go_iadd dX6_goOn_30 ?_
        obtain ⟨σ4, eσ4, hf⟩ := nmd_some hf
        refine go_pI fl_X6_35 ft_6_7 (okv_i _) dX6_goOn_31 h0 (by decide) rfl ?_
        rw [eσ4]
        refine go_aload_n 0 dX6_goOn_34 rfl rfl ?_
        refine go_fI fl_X6_35 dX6_goOn_35 h0 (by decide) rfl ?_
        cases hf
        exact go_iret rfl dX6_goOn_38 (Nat.le_refl _) ⟨rfl, rfl⟩
      · replace hf := (if_neg c3).symm.trans hf
        refine go_msk [false, false] [none, none] rfl ?_
        exact w_X6_goOn_22 hs h0 σ hf
def f_X6_narrow_21 (N : Nat) (ρ : Nat → Nat → Nat) (this : Nat) (a1 n1 : Nat) (a2 n2 : Nat) (a3 : Int32) (σ : St) : Option (Int32 × St) :=
  some (0, σ)
def f_X6_narrow_70 (N : Nat) (ρ : Nat → Nat → Nat) (this : Nat) (a1 n1 : Nat) (a2 n2 : Nat) (a3 : Int32) (σ : St) : Option (Int32 × St) :=
  some (0, σ)
def f_X6_narrow (N : Nat) (ρ : Nat → Nat → Nat) (this : Nat) (a1 n1 : Nat) (a2 n2 : Nat) (a3 : Int32) (σ : St) : Option (Int32 × St) :=
  gd (ib a3 30) <|
  nmd ((σ.1 (ρ this 0) a3.toNatClampNeg) - 1) fun y2 =>
  if (y2 : Int32) < 0 then
    f_X6_narrow_21 N ρ this a1 n1 a2 n2 a3 σ
  else
    if (y2 : Int32) < 3 then
      gd (ib a3 30) <|
      if (σ.1 (ρ this 3) a3.toNatClampNeg : Int32) = 0 then
        gd (ib y2 n2) <|
        gd (ib a3 30) <|
        gd (ib y2 n2) <|
        nmd (sI σ a2 y2.toNatClampNeg (mmin (σ.1 a2 y2.toNatClampNeg) ((σ.1 (ρ this 2) a3.toNatClampNeg) - 1))) fun σ10 =>
        f_X6_narrow_70 N ρ this a1 n1 a2 n2 a3 σ10
      else
        gd (ib y2 n1) <|
        gd (ib a3 30) <|
        gd (ib y2 n1) <|
        nmd (sI σ a1 y2.toNatClampNeg (mmax (σ.1 a1 y2.toNatClampNeg) (σ.1 (ρ this 2) a3.toNatClampNeg))) fun σ14 =>
        f_X6_narrow_70 N ρ this a1 n1 a2 n2 a3 σ14
    else
      f_X6_narrow_21 N ρ this a1 n1 a2 n2 a3 σ
set_option maxRecDepth 100000 in
set_option maxHeartbeats 4000000 in
theorem w_X6_narrow_21 {N : Nat} {Γ : SG} {ρ : Nat → Nat → Nat} (hs : Sh Γ ρ) {this : Nat} {a1 n1 : Nat} {a2 n2 : Nat} {a3 : Int32} (h0 : Γ[this]? = some (0, 6)) (h1 : Γ[a1]? = some (1, n1)) (h2 : Γ[a2]? = some (1, n2)) {n0 : Nat} {r : Int32} {σr : St} (σ : St) (hf : f_X6_narrow_21 N ρ this a1 n1 a2 n2 a3 σ = some (r, σr)) : Go mX6_narrow 1 0 0 n0 (Kv Γ ρ σr) 0 0 21 [none, none, none, none, none] [] (hp Γ ρ σ) := by
  unfold f_X6_narrow_21 at hf
  cases hf
  exact go_vret rfl dX6_narrow_21 (Nat.le_refl _) ⟨rfl, rfl⟩
set_option maxRecDepth 100000 in
set_option maxHeartbeats 4000000 in
theorem w_X6_narrow_70 {N : Nat} {Γ : SG} {ρ : Nat → Nat → Nat} (hs : Sh Γ ρ) {this : Nat} {a1 n1 : Nat} {a2 n2 : Nat} {a3 : Int32} (h0 : Γ[this]? = some (0, 6)) (h1 : Γ[a1]? = some (1, n1)) (h2 : Γ[a2]? = some (1, n2)) {n0 : Nat} {r : Int32} {σr : St} (σ : St) (hf : f_X6_narrow_70 N ρ this a1 n1 a2 n2 a3 σ = some (r, σr)) : Go mX6_narrow 1 0 0 n0 (Kv Γ ρ σr) 0 0 70 [none, none, none, none, none] [] (hp Γ ρ σ) := by
  unfold f_X6_narrow_70 at hf
  cases hf
  exact go_vret rfl dX6_narrow_70 (Nat.le_refl _) ⟨rfl, rfl⟩
set_option maxRecDepth 100000 in
set_option maxHeartbeats 4000000 in
theorem t_X6_narrow {N : Nat} {Γ : SG} {ρ : Nat → Nat → Nat} (hs : Sh Γ ρ) {this : Nat} {a1 n1 : Nat} {a2 n2 : Nat} {a3 : Int32} (h0 : Γ[this]? = some (0, 6)) (h1 : Γ[a1]? = some (1, n1)) (h2 : Γ[a2]? = some (1, n2)) {σ : St} {r : Int32} {σr : St} (hf : f_X6_narrow N ρ this a1 n1 a2 n2 a3 σ = some (r, σr)) : Tri mX6_narrow 1 0 0 [.ref this, .ref a1, .ref a2, .int a3] (hp Γ ρ σ) (Kv Γ ρ σr) := by
  unfold f_X6_narrow at hf
  refine tri_of [some (.ref this), some (.ref a1), some (.ref a2), some (.int a3), none] (plainFor_of_name rfl) rfl (Nat.le_of_ble_eq_true rfl) ?_
  refine go_aload_n 0 dX6_narrow_0 rfl rfl ?_
  refine go_fR fl_X6_11 dX6_narrow_1 h0 (by decide) rfl ?_
  refine go_iload_n 3 dX6_narrow_4 rfl rfl ?_
  obtain ⟨g1, hf⟩ := gd_some hf
  refine go_rI dX6_narrow_5 (hs.1 _ 6 0 h0 rfl) (ib_in g1) ?_
  refine go_iconst 1 dX6_narrow_6 (by decide) ?_
  refine go_isub dX6_narrow_7 ?_
  obtain ⟨y2, ey2, hf⟩ := nmd_some hf
  refine go_nm ey2 ?_
  refine go_istore [some (.ref this), some (.ref a1), some (.ref a2), some (.int a3), some (.int y2)] dX6_narrow_8 (by decide) rfl ?_
  refine go_iload dX6_narrow_10 rfl ?_
  refine go_if_lt 21 dX6_narrow_12 (by decide) (fun c3 => ?_) (fun c3 => ?_)
  · replace hf := (if_pos c3).symm.trans hf
    refine go_msk [false, false, false, false, false] [none, none, none, none, none] rfl ?_
    exact w_X6_narrow_21 hs h0 h1 h2 σ hf
  · replace hf := (if_neg c3).symm.trans hf
    refine go_iload dX6_narrow_15 rfl ?_
    refine go_iconst 3 dX6_narrow_17 (by decide) ?_
    refine go_icmp_lt 22 dX6_narrow_18 (by decide) (fun c4 => ?_) (fun c4 => ?_)
    · replace hf := (if_pos c4).symm.trans hf
      refine go_aload_n 0 dX6_narrow_22 rfl rfl ?_
      refine go_fR fl_X6_22 dX6_narrow_23 h0 (by decide) rfl ?_
      refine go_iload_n 3 dX6_narrow_26 rfl rfl ?_
      obtain ⟨g5, hf⟩ := gd_some hf
      refine go_rZ dX6_narrow_27 (hs.1 _ 6 3 h0 rfl) (ib_in g5) ?_
      refine go_if_eq 51 dX6_narrow_28 (by decide) (fun c6 => ?_) (fun c6 => ?_)
      · replace hf := (if_pos c6).symm.trans hf
        refine go_aload_n 2 dX6_narrow_51 rfl rfl ?_
        refine go_iload dX6_narrow_52 rfl ?_
        refine go_aload_n 2 dX6_narrow_54 rfl rfl ?_
        refine go_iload dX6_narrow_55 rfl ?_
        obtain ⟨g7, hf⟩ := gd_some hf
        refine go_rI dX6_narrow_57 h2 (ib_in g7) ?_
        refine go_aload_n 0 dX6_narrow_58 rfl rfl ?_
        refine go_fR fl_X6_19 dX6_narrow_59 h0 (by decide) rfl ?_
        refine go_iload_n 3 dX6_narrow_62 rfl rfl ?_
        obtain ⟨g8, hf⟩ := gd_some hf
        refine go_rI dX6_narrow_63 (hs.1 _ 6 2 h0 rfl) (ib_in g8) ?_
        refine go_iconst 1 dX6_narrow_64 (by decide) ?_
        refine go_isub dX6_narrow_65 ?_
        refine go_mmin ml_X6_102 dX6_narrow_66 (by decide) (Nat.le_refl _) (Nat.le_refl _) (Nat.le_of_ble_eq_true rfl) ?_
        obtain ⟨g9, hf⟩ := gd_some hf
        obtain ⟨σ10, eσ10, hf⟩ := nmd_some hf
        refine go_wI dX6_narrow_69 h2 (ib_in g9) ?_
        rw [eσ10]
        refine go_msk [false, false, false, false, false] [none, none, none, none, none] rfl ?_
        exact w_X6_narrow_70 hs h0 h1 h2 σ10 hf
      · replace hf := (if_neg c6).symm.trans hf
        refine go_aload_n 1 dX6_narrow_31 rfl rfl ?_
        refine go_iload dX6_narrow_32 rfl ?_
        refine go_aload_n 1 dX6_narrow_34 rfl rfl ?_
        refine go_iload dX6_narrow_35 rfl ?_
        obtain ⟨g11, hf⟩ := gd_some hf
        refine go_rI dX6_narrow_37 h1 (ib_in g11) ?_
        refine go_aload_n 0 dX6_narrow_38 rfl rfl ?_
        refine go_fR fl_X6_19 dX6_narrow_39 h0 (by decide) rfl ?_
        refine go_iload_n 3 dX6_narrow_42 rfl rfl ?_
        obtain ⟨g12, hf⟩ := gd_some hf
        refine go_rI dX6_narrow_43 (hs.1 _ 6 2 h0 rfl) (ib_in g12) ?_
        refine go_mmax ml_X6_96 dX6_narrow_44 (by decide) (Nat.le_refl _) (Nat.le_refl _) (Nat.le_of_ble_eq_true rfl) ?_
        obtain ⟨g13, hf⟩ := gd_some hf
        obtain ⟨σ14, eσ14, hf⟩ := nmd_some hf
        refine go_wI dX6_narrow_47 h1 (ib_in g13) ?_
        rw [eσ14]
        refine go_goto 70 dX6_narrow_48 (by decide) ?_
        refine go_msk [false, false, false, false, false] [none, none, none, none, none] rfl ?_
        exact w_X6_narrow_70 hs h0 h1 h2 σ14 hf
    · replace hf := (if_neg c4).symm.trans hf
      refine go_msk [false, false, false, false, false] [none, none, none, none, none] rfl ?_
      exact w_X6_narrow_21 hs h0 h1 h2 σ hf
def f_X6_gatherBounds_128 (N : Nat) (ρ : Nat → Nat → Nat) (this : Nat) (a1 : Int32) (rec36 : Int32 → St → Option (Int32 × St)) (x2 : Int32) (σ : St) : Option (Int32 × St) :=
  rec36 (x2 + 1) σ
def f_X6_gatherBounds_75 (N : Nat) (ρ : Nat → Nat → Nat) (this : Nat) (a1 : Int32) (rec36 : Int32 → St → Option (Int32 × St)) (x2 : Int32) (s0 : Int32) (σ : St) : Option (Int32 × St) :=
  gd (ib x2 30) <|
  if a1 < (σ.1 (ρ this 4) x2.toNatClampNeg : Int32) then
    f_X6_gatherBounds_128 N ρ this a1 rec36 x2 σ
  else
    if (s0 : Int32) = 0 then
      gd (ib x2 30) <|
      if (σ.1 (ρ this 1) x2.toNatClampNeg : Int32) = 0 then
        bnd (f_X6_narrow N ρ this (ρ this 10) 3 (ρ this 11) 3 x2 σ) fun _ σ7 =>
        f_X6_gatherBounds_128 N ρ this a1 rec36 x2 σ7
      else
        bnd (f_X6_narrow N ρ this (ρ this 8) 3 (ρ this 9) 3 x2 σ) fun _ σ10 =>
        f_X6_gatherBounds_128 N ρ this a1 rec36 x2 σ10
    else
      f_X6_gatherBounds_128 N ρ this a1 rec36 x2 σ
def f_X6_gatherBounds_74 (N : Nat) (ρ : Nat → Nat → Nat) (this : Nat) (a1 : Int32) (rec36 : Int32 → St → Option (Int32 × St)) (x2 : Int32) (σ : St) : Option (Int32 × St) :=
  f_X6_gatherBounds_75 N ρ this a1 rec36 x2 0 σ
def f_X6_gatherBounds_134 (N : Nat) (ρ : Nat → Nat → Nat) (this : Nat) (a1 : Int32) (σ : St) : Option (Int32 × St) :=
  some (0, σ)
def b_X6_gatherBounds_36 (N : Nat) (ρ : Nat → Nat → Nat) (this : Nat) (a1 : Int32) (rec36 : Int32 → St → Option (Int32 × St)) (x2 : Int32) (σ : St) : Option (Int32 × St) :=
  if (σ.1 this 6) ≤ (x2 : Int32) then
    f_X6_gatherBounds_134 N ρ this a1 σ
  else
    if 30 ≤ (x2 : Int32) then
      f_X6_gatherBounds_134 N ρ this a1 σ
    else
      gd (ib x2 30) <|
      if (σ.1 (ρ this 5) x2.toNatClampNeg : Int32) = (-1) then
        f_X6_gatherBounds_74 N ρ this a1 rec36 x2 σ
      else
        gd (ib x2 30) <|
        if a1 < (σ.1 (ρ this 5) x2.toNatClampNeg : Int32) then
          f_X6_gatherBounds_74 N ρ this a1 rec36 x2 σ
        else
          f_X6_gatherBounds_75 N ρ this a1 rec36 x2 1 σ
def f_X6_gatherBounds_36 (N : Nat) (ρ : Nat → Nat → Nat) (this : Nat) (a1 : Int32) : Nat → Int32 → St → Option (Int32 × St)
  | 0, _, _ => none
  | n + 1, x2, σ => b_X6_gatherBounds_36 N ρ this a1 (f_X6_gatherBounds_36 N ρ this a1 n) x2 σ
def f_X6_gatherBounds (N : Nat) (ρ : Nat → Nat → Nat) (this : Nat) (a1 : Int32) (σ : St) : Option (Int32 × St) :=
  bnd (f_J7_fill_53178 N ρ (ρ this 8) 3 0 σ) fun _ σ19 =>
  bnd (f_J7_fill_53178 N ρ (ρ this 9) 3 99 σ19) fun _ σ22 =>
  bnd (f_J7_fill_53178 N ρ (ρ this 10) 3 0 σ22) fun _ σ25 =>
  bnd (f_J7_fill_53178 N ρ (ρ this 11) 3 99 σ25) fun _ σ28 =>
  f_X6_gatherBounds_36 N ρ this a1 N 0 σ28
set_option maxRecDepth 100000 in
set_option maxHeartbeats 4000000 in
theorem w_X6_gatherBounds_128 {N : Nat} {Γ : SG} {ρ : Nat → Nat → Nat} (hs : Sh Γ ρ) {this : Nat} {a1 : Int32} (h0 : Γ[this]? = some (0, 6)) {n0 : Nat} {r : Int32} {σr : St} (rec36 : Int32 → St → Option (Int32 × St)) (hrec36 : ∀ (x2 : Int32) (σ : St), rec36 x2 σ = some (r, σr) → Go mX6_gatherBounds 2 0 0 n0 (Kv Γ ρ σr) 0 0 36 [some (.ref this), some (.int a1), some (.int x2), none] [] (hp Γ ρ σ)) (x2 : Int32) (σ : St) (hf : f_X6_gatherBounds_128 N ρ this a1 rec36 x2 σ = some (r, σr)) : Go mX6_gatherBounds 2 0 0 n0 (Kv Γ ρ σr) 0 0 128 [some (.ref this), some (.int a1), some (.int x2), none] [] (hp Γ ρ σ) := by
  unfold f_X6_gatherBounds_128 at hf
  refine go_iinc (x2 + 1) [some (.ref this), some (.int a1), some (.int (x2 + 1)), none] dX6_gatherBounds_128 rfl rfl (by decide) rfl ?_
  refine go_goto 36 dX6_gatherBounds_131 (by decide) ?_
  exact hrec36 (x2 + 1) σ hf
set_option maxRecDepth 100000 in
set_option maxHeartbeats 4000000 in
theorem w_X6_gatherBounds_75 {N : Nat} {Γ : SG} {ρ : Nat → Nat → Nat} (hs : Sh Γ ρ) {this : Nat} {a1 : Int32} (h0 : Γ[this]? = some (0, 6)) {n0 : Nat} {r : Int32} {σr : St} (rec36 : Int32 → St → Option (Int32 × St)) (hrec36 : ∀ (x2 : Int32) (σ : St), rec36 x2 σ = some (r, σr) → Go mX6_gatherBounds 2 0 0 n0 (Kv Γ ρ σr) 0 0 36 [some (.ref this), some (.int a1), some (.int x2), none] [] (hp Γ ρ σ)) (x2 : Int32) (s0 : Int32) (σ : St) (hf : f_X6_gatherBounds_75 N ρ this a1 rec36 x2 s0 σ = some (r, σr)) : Go mX6_gatherBounds 2 0 0 n0 (Kv Γ ρ σr) 0 0 75 [some (.ref this), some (.int a1), some (.int x2), none] [.int s0] (hp Γ ρ σ) := by
  unfold f_X6_gatherBounds_75 at hf
  refine go_istore_n 3 [some (.ref this), some (.int a1), some (.int x2), some (.int s0)] dX6_gatherBounds_75 rfl (by decide) rfl ?_
  refine go_aload_n 0 dX6_gatherBounds_76 rfl rfl ?_
  refine go_fR fl_X6_25 dX6_gatherBounds_77 h0 (by decide) rfl ?_
  refine go_iload_n 2 dX6_gatherBounds_80 rfl rfl ?_
  obtain ⟨g1, hf⟩ := gd_some hf
  refine go_rI dX6_gatherBounds_81 (hs.1 _ 6 4 h0 rfl) (ib_in g1) ?_
  refine go_iload_n 1 dX6_gatherBounds_82 rfl rfl ?_
  refine go_icmp_gt 128 dX6_gatherBounds_83 (by decide) (fun c2 => ?_) (fun c2 => ?_)
  · replace hf := (if_pos c2).symm.trans hf
    refine go_msk [true, true, true, false] [some (.ref this), some (.int a1), some (.int x2), none] rfl ?_
    exact w_X6_gatherBounds_128 hs h0 rec36 hrec36 x2 σ hf
  · replace hf := (if_neg c2).symm.trans hf
    refine go_iload_n 3 dX6_gatherBounds_86 rfl rfl ?_
    refine go_if_ne 128 dX6_gatherBounds_87 (by decide) (fun c3 => ?_) (fun c3 => ?_)
    · replace hf := (if_neg c3).symm.trans hf
      refine go_msk [true, true, true, false] [some (.ref this), some (.int a1), some (.int x2), none] rfl ?_
      exact w_X6_gatherBounds_128 hs h0 rec36 hrec36 x2 σ hf
    · replace hf := (if_pos c3).symm.trans hf
      refine go_aload_n 0 dX6_gatherBounds_90 rfl rfl ?_
      refine go_fR fl_X6_15 dX6_gatherBounds_91 h0 (by decide) rfl ?_
      refine go_iload_n 2 dX6_gatherBounds_94 rfl rfl ?_
      obtain ⟨g4, hf⟩ := gd_some hf
      refine go_rZ dX6_gatherBounds_95 (hs.1 _ 6 1 h0 rfl) (ib_in g4) ?_
      refine go_if_eq 115 dX6_gatherBounds_96 (by decide) (fun c5 => ?_) (fun c5 => ?_)
      · replace hf := (if_pos c5).symm.trans hf
        refine go_aload_n 0 dX6_gatherBounds_115 rfl rfl ?_
        refine go_aload_n 0 dX6_gatherBounds_116 rfl rfl ?_
        refine go_fR fl_X6_44 dX6_gatherBounds_117 h0 (by decide) rfl ?_
        refine go_aload_n 0 dX6_gatherBounds_120 rfl rfl ?_
        refine go_fR fl_X6_47 dX6_gatherBounds_121 h0 (by decide) rfl ?_
        refine go_iload_n 2 dX6_gatherBounds_124 rfl rfl ?_
        obtain ⟨r6, σ7, q8, hf⟩ := bnd_some hf
        refine go_Vv (av := [.ref (ρ this 10), .ref (ρ this 11), .int x2]) (rest := []) (t_X6_narrow hs h0 (hs.1 _ 6 10 h0 rfl) (hs.1 _ 6 11 h0 rfl) q8) ok_X6_narrow ml_X6_92 dX6_gatherBounds_125 h0 rfl rfl (by decide) (Nat.le_refl _) (Nat.le_refl _) (Nat.le_of_ble_eq_true rfl) ?_
        refine go_msk [true, true, true, false] [some (.ref this), some (.int a1), some (.int x2), none] rfl ?_
        exact w_X6_gatherBounds_128 hs h0 rec36 hrec36 x2 σ7 hf
      · replace hf := (if_neg c5).symm.trans hf
        refine go_aload_n 0 dX6_gatherBounds_99 rfl rfl ?_
        refine go_aload_n 0 dX6_gatherBounds_100 rfl rfl ?_
        refine go_fR fl_X6_38 dX6_gatherBounds_101 h0 (by decide) rfl ?_
        refine go_aload_n 0 dX6_gatherBounds_104 rfl rfl ?_
        refine go_fR fl_X6_41 dX6_gatherBounds_105 h0 (by decide) rfl ?_
        refine go_iload_n 2 dX6_gatherBounds_108 rfl rfl ?_
        obtain ⟨r9, σ10, q11, hf⟩ := bnd_some hf
        refine go_Vv (av := [.ref (ρ this 8), .ref (ρ this 9), .int x2]) (rest := []) (t_X6_narrow hs h0 (hs.1 _ 6 8 h0 rfl) (hs.1 _ 6 9 h0 rfl) q11) ok_X6_narrow ml_X6_92 dX6_gatherBounds_109 h0 rfl rfl (by decide) (Nat.le_refl _) (Nat.le_refl _) (Nat.le_of_ble_eq_true rfl) ?_
        refine go_goto 128 dX6_gatherBounds_112 (by decide) ?_
        refine go_msk [true, true, true, false] [some (.ref this), some (.int a1), some (.int x2), none] rfl ?_
        exact w_X6_gatherBounds_128 hs h0 rec36 hrec36 x2 σ10 hf
set_option maxRecDepth 100000 in
set_option maxHeartbeats 4000000 in
theorem w_X6_gatherBounds_74 {N : Nat} {Γ : SG} {ρ : Nat → Nat → Nat} (hs : Sh Γ ρ) {this : Nat} {a1 : Int32} (h0 : Γ[this]? = some (0, 6)) {n0 : Nat} {r : Int32} {σr : St} (rec36 : Int32 → St → Option (Int32 × St)) (hrec36 : ∀ (x2 : Int32) (σ : St), rec36 x2 σ = some (r, σr) → Go mX6_gatherBounds 2 0 0 n0 (Kv Γ ρ σr) 0 0 36 [some (.ref this), some (.int a1), some (.int x2), none] [] (hp Γ ρ σ)) (x2 : Int32) (σ : St) (hf : f_X6_gatherBounds_74 N ρ this a1 rec36 x2 σ = some (r, σr)) : Go mX6_gatherBounds 2 0 0 n0 (Kv Γ ρ σr) 0 0 74 [some (.ref this), some (.int a1), some (.int x2), none] [] (hp Γ ρ σ) := by
  unfold f_X6_gatherBounds_74 at hf
  refine go_iconst 0 dX6_gatherBounds_74 (by decide) ?_
  exact w_X6_gatherBounds_75 hs h0 rec36 hrec36 x2 0 σ hf
set_option maxRecDepth 100000 in
set_option maxHeartbeats 4000000 in
theorem w_X6_gatherBounds_134 {N : Nat} {Γ : SG} {ρ : Nat → Nat → Nat} (hs : Sh Γ ρ) {this : Nat} {a1 : Int32} (h0 : Γ[this]? = some (0, 6)) {n0 : Nat} {r : Int32} {σr : St} (σ : St) (hf : f_X6_gatherBounds_134 N ρ this a1 σ = some (r, σr)) : Go mX6_gatherBounds 2 0 0 n0 (Kv Γ ρ σr) 0 0 134 [none, none, none, none] [] (hp Γ ρ σ) := by
  unfold f_X6_gatherBounds_134 at hf
  cases hf
  exact go_vret rfl dX6_gatherBounds_134 (Nat.le_refl _) ⟨rfl, rfl⟩
set_option maxRecDepth 100000 in
set_option maxHeartbeats 4000000 in
theorem v_X6_gatherBounds_36 {N : Nat} {Γ : SG} {ρ : Nat → Nat → Nat} (hs : Sh Γ ρ) {this : Nat} {a1 : Int32} (h0 : Γ[this]? = some (0, 6)) {n0 : Nat} {r : Int32} {σr : St} (rec36 : Int32 → St → Option (Int32 × St)) (hrec36 : ∀ (x2 : Int32) (σ : St), rec36 x2 σ = some (r, σr) → Go mX6_gatherBounds 2 0 0 n0 (Kv Γ ρ σr) 0 0 36 [some (.ref this), some (.int a1), some (.int x2), none] [] (hp Γ ρ σ)) (x2 : Int32) (σ : St) (hf : b_X6_gatherBounds_36 N ρ this a1 rec36 x2 σ = some (r, σr)) : Go mX6_gatherBounds 2 0 0 n0 (Kv Γ ρ σr) 0 0 36 [some (.ref this), some (.int a1), some (.int x2), none] [] (hp Γ ρ σ) := by
  unfold b_X6_gatherBounds_36 at hf
  refine go_iload_n 2 dX6_gatherBounds_36 rfl rfl ?_
  refine go_aload_n 0 dX6_gatherBounds_37 rfl rfl ?_
  refine go_fI fl_X6_31 dX6_gatherBounds_38 h0 (by decide) rfl ?_
  refine go_icmp_ge 134 dX6_gatherBounds_41 (by decide) (fun c12 => ?_) (fun c12 => ?_)
  · replace hf := (if_pos c12).symm.trans hf
    refine go_msk [false, false, false, false] [none, none, none, none] rfl ?_
    exact w_X6_gatherBounds_134 hs h0 σ hf
  · replace hf := (if_neg c12).symm.trans hf
    refine go_iload_n 2 dX6_gatherBounds_44 rfl rfl ?_
    refine go_bipush 30 dX6_gatherBounds_45 (by decide) ?_
    refine go_icmp_ge 134 dX6_gatherBounds_47 (by decide) (fun c13 => ?_) (fun c13 => ?_)
    · replace hf := (if_pos c13).symm.trans hf
      refine go_msk [false, false, false, false] [none, none, none, none] rfl ?_
      exact w_X6_gatherBounds_134 hs h0 σ hf
    · replace hf := (if_neg c13).symm.trans hf
      refine go_aload_n 0 dX6_gatherBounds_50 rfl rfl ?_
      refine go_fR fl_X6_28 dX6_gatherBounds_51 h0 (by decide) rfl ?_
      refine go_iload_n 2 dX6_gatherBounds_54 rfl rfl ?_
      obtain ⟨g14, hf⟩ := gd_some hf
      refine go_rI dX6_gatherBounds_55 (hs.1 _ 6 5 h0 rfl) (ib_in g14) ?_
      refine go_iconst (-1) dX6_gatherBounds_56 (by decide) ?_
      refine go_icmp_eq 74 dX6_gatherBounds_57 (by decide) (fun c15 => ?_) (fun c15 => ?_)
      · replace hf := (if_pos c15).symm.trans hf
        exact w_X6_gatherBounds_74 hs h0 rec36 hrec36 x2 σ hf
      · replace hf := (if_neg c15).symm.trans hf
        refine go_aload_n 0 dX6_gatherBounds_60 rfl rfl ?_
        refine go_fR fl_X6_28 dX6_gatherBounds_61 h0 (by decide) rfl ?_
        refine go_iload_n 2 dX6_gatherBounds_64 rfl rfl ?_
        obtain ⟨g16, hf⟩ := gd_some hf
        refine go_rI dX6_gatherBounds_65 (hs.1 _ 6 5 h0 rfl) (ib_in g16) ?_
        refine go_iload_n 1 dX6_gatherBounds_66 rfl rfl ?_
        refine go_icmp_gt 74 dX6_gatherBounds_67 (by decide) (fun c17 => ?_) (fun c17 => ?_)
        · replace hf := (if_pos c17).symm.trans hf
          exact w_X6_gatherBounds_74 hs h0 rec36 hrec36 x2 σ hf
        · replace hf := (if_neg c17).symm.trans hf
          refine go_iconst 1 dX6_gatherBounds_70 (by decide) ?_
          refine go_goto 75 dX6_gatherBounds_71 (by decide) ?_
          exact w_X6_gatherBounds_75 hs h0 rec36 hrec36 x2 1 σ hf
theorem w_X6_gatherBounds_36 {N : Nat} {Γ : SG} {ρ : Nat → Nat → Nat} (hs : Sh Γ ρ) {this : Nat} {a1 : Int32} (h0 : Γ[this]? = some (0, 6)) {n0 : Nat} {r : Int32} {σr : St} : ∀ (n : Nat) (x2 : Int32) (σ : St), f_X6_gatherBounds_36 N ρ this a1 n x2 σ = some (r, σr) → Go mX6_gatherBounds 2 0 0 n0 (Kv Γ ρ σr) 0 0 36 [some (.ref this), some (.int a1), some (.int x2), none] [] (hp Γ ρ σ) := by
  intro n
  induction n with
  | zero => intro x2 σ hf; cases hf
  | succ n ih => intro x2 σ hf; exact v_X6_gatherBounds_36 hs h0 _ ih x2 σ hf
set_option maxRecDepth 100000 in
set_option maxHeartbeats 4000000 in
theorem t_X6_gatherBounds {N : Nat} {Γ : SG} {ρ : Nat → Nat → Nat} (hs : Sh Γ ρ) {this : Nat} {a1 : Int32} (h0 : Γ[this]? = some (0, 6)) {σ : St} {r : Int32} {σr : St} (hf : f_X6_gatherBounds N ρ this a1 σ = some (r, σr)) : Tri mX6_gatherBounds 2 0 0 [.ref this, .int a1] (hp Γ ρ σ) (Kv Γ ρ σr) := by
  unfold f_X6_gatherBounds at hf
  refine tri_of [some (.ref this), some (.int a1), none, none] (plainFor_of_name rfl) rfl (Nat.le_of_ble_eq_true rfl) ?_
  refine go_aload_n 0 dX6_gatherBounds_0 rfl rfl ?_
  refine go_fR fl_X6_38 dX6_gatherBounds_1 h0 (by decide) rfl ?_
  refine go_iconst 0 dX6_gatherBounds_4 (by decide) ?_
  obtain ⟨r18, σ19, q20, hf⟩ := bnd_some hf
  refine go_Sv (av := [.ref (ρ this 8), .int 0]) (rest := []) (t_J7_fill_53178 hs (hs.1 _ 6 8 h0 rfl) q20) ok_J7_fill_53178 ml_X6_72 dX6_gatherBounds_5 rfl rfl (by decide) (Nat.le_refl _) (Nat.le_refl _) (Nat.le_of_ble_eq_true rfl) ?_
  refine go_aload_n 0 dX6_gatherBounds_8 rfl rfl ?_
  refine go_fR fl_X6_41 dX6_gatherBounds_9 h0 (by decide) rfl ?_
  refine go_bipush 99 dX6_gatherBounds_12 (by decide) ?_
  obtain ⟨r21, σ22, q23, hf⟩ := bnd_some hf
  refine go_Sv (av := [.ref (ρ this 9), .int 99]) (rest := []) (t_J7_fill_53178 hs (hs.1 _ 6 9 h0 rfl) q23) ok_J7_fill_53178 ml_X6_72 dX6_gatherBounds_14 rfl rfl (by decide) (Nat.le_refl _) (Nat.le_refl _) (Nat.le_of_ble_eq_true rfl) ?_
  refine go_aload_n 0 dX6_gatherBounds_17 rfl rfl ?_
  refine go_fR fl_X6_44 dX6_gatherBounds_18 h0 (by decide) rfl ?_
  refine go_iconst 0 dX6_gatherBounds_21 (by decide) ?_
  obtain ⟨r24, σ25, q26, hf⟩ := bnd_some hf
  refine go_Sv (av := [.ref (ρ this 10), .int 0]) (rest := []) (t_J7_fill_53178 hs (hs.1 _ 6 10 h0 rfl) q26) ok_J7_fill_53178 ml_X6_72 dX6_gatherBounds_22 rfl rfl (by decide) (Nat.le_refl _) (Nat.le_refl _) (Nat.le_of_ble_eq_true rfl) ?_
  refine go_aload_n 0 dX6_gatherBounds_25 rfl rfl ?_
  refine go_fR fl_X6_47 dX6_gatherBounds_26 h0 (by decide) rfl ?_
  refine go_bipush 99 dX6_gatherBounds_29 (by decide) ?_
  obtain ⟨r27, σ28, q29, hf⟩ := bnd_some hf
  refine go_Sv (av := [.ref (ρ this 11), .int 99]) (rest := []) (t_J7_fill_53178 hs (hs.1 _ 6 11 h0 rfl) q29) ok_J7_fill_53178 ml_X6_72 dX6_gatherBounds_31 rfl rfl (by decide) (Nat.le_refl _) (Nat.le_refl _) (Nat.le_of_ble_eq_true rfl) ?_
  refine go_iconst 0 dX6_gatherBounds_34 (by decide) ?_
  refine go_istore_n 2 [some (.ref this), some (.int a1), some (.int 0), none] dX6_gatherBounds_35 rfl (by decide) rfl ?_
  exact w_X6_gatherBounds_36 hs h0 N 0 σ28 hf
def f_X6_fits_65 (N : Nat) (ρ : Nat → Nat → Nat) (this : Nat) (a1 : Int32) (s0 : Int32) (σ : St) : Option (Int32 × St) :=
  gd (bb s0) <|
  some (s0, σ)
def f_X6_fits_64 (N : Nat) (ρ : Nat → Nat → Nat) (this : Nat) (a1 : Int32) (σ : St) : Option (Int32 × St) :=
  f_X6_fits_65 N ρ this a1 0 σ
def f_X6_fits (N : Nat) (ρ : Nat → Nat → Nat) (this : Nat) (a1 : Int32) (σ : St) : Option (Int32 × St) :=
  gd (ib 0 5) <|
  nmd (σ.1 (ρ (ρ this 13) 0) (0 : Int32).toNatClampNeg) fun y3 =>
  gd (ib 0 5) <|
  nmd (σ.1 (ρ (ρ this 13) 1) (0 : Int32).toNatClampNeg) fun y5 =>
  gd (ib a1 3) <|
  if (y5 : Int32) < (σ.1 (ρ this 8) a1.toNatClampNeg) then
    f_X6_fits_64 N ρ this a1 σ
  else
    gd (ib a1 3) <|
    if (σ.1 (ρ this 9) a1.toNatClampNeg) < (y5 : Int32) then
      f_X6_fits_64 N ρ this a1 σ
    else
      gd (ib a1 3) <|
      if (y3 : Int32) < (σ.1 (ρ this 10) a1.toNatClampNeg) then
        f_X6_fits_64 N ρ this a1 σ
      else
        gd (ib a1 3) <|
        if (σ.1 (ρ this 11) a1.toNatClampNeg) < (y3 : Int32) then
          f_X6_fits_64 N ρ this a1 σ
        else
          f_X6_fits_65 N ρ this a1 1 σ
set_option maxRecDepth 100000 in
set_option maxHeartbeats 4000000 in
theorem w_X6_fits_65 {N : Nat} {Γ : SG} {ρ : Nat → Nat → Nat} (hs : Sh Γ ρ) {this : Nat} {a1 : Int32} (h0 : Γ[this]? = some (0, 6)) {n0 : Nat} {r : Int32} {σr : St} (s0 : Int32) (σ : St) (hf : f_X6_fits_65 N ρ this a1 s0 σ = some (r, σr)) : Go mX6_fits 0 0 0 n0 (Ki Γ ρ r σr) 0 0 65 [none, none, none, none] [.int s0] (hp Γ ρ σ) := by
  unfold f_X6_fits_65 at hf
  obtain ⟨g1, hf⟩ := gd_some hf
  cases hf
  exact go_zret rfl (bb_of g1) dX6_fits_65 (Nat.le_refl _) ⟨rfl, rfl⟩
set_option maxRecDepth 100000 in
set_option maxHeartbeats 4000000 in
theorem w_X6_fits_64 {N : Nat} {Γ : SG} {ρ : Nat → Nat → Nat} (hs : Sh Γ ρ) {this : Nat} {a1 : Int32} (h0 : Γ[this]? = some (0, 6)) {n0 : Nat} {r : Int32} {σr : St} (σ : St) (hf : f_X6_fits_64 N ρ this a1 σ = some (r, σr)) : Go mX6_fits 0 0 0 n0 (Ki Γ ρ r σr) 0 0 64 [none, none, none, none] [] (hp Γ ρ σ) := by
  unfold f_X6_fits_64 at hf
  refine go_iconst 0 dX6_fits_64 (by decide) ?_
  exact w_X6_fits_65 hs h0 0 σ hf
set_option maxRecDepth 100000 in
set_option maxHeartbeats 4000000 in
theorem t_X6_fits {N : Nat} {Γ : SG} {ρ : Nat → Nat → Nat} (hs : Sh Γ ρ) {this : Nat} {a1 : Int32} (h0 : Γ[this]? = some (0, 6)) {σ : St} {r : Int32} {σr : St} (hf : f_X6_fits N ρ this a1 σ = some (r, σr)) : Tri mX6_fits 0 0 0 [.ref this, .int a1] (hp Γ ρ σ) (Ki Γ ρ r σr) := by
  unfold f_X6_fits at hf
  refine tri_of [some (.ref this), some (.int a1), none, none] (plainFor_of_name rfl) rfl (Nat.le_of_ble_eq_true rfl) ?_
  refine go_aload_n 0 dX6_fits_0 rfl rfl ?_
  refine go_fR fl_X6_60 dX6_fits_1 h0 (by decide) rfl ?_
  refine go_fR fl_X6_108 dX6_fits_4 (hs.1 _ 6 13 h0 rfl) (by decide) rfl ?_
  refine go_iconst 0 dX6_fits_7 (by decide) ?_
  obtain ⟨g2, hf⟩ := gd_some hf
  refine go_rI dX6_fits_8 (hs.1 _ 9 0 (hs.1 _ 6 13 h0 rfl) rfl) (ib_in g2) ?_
  obtain ⟨y3, ey3, hf⟩ := nmd_some hf
  refine go_nm ey3 ?_
  refine go_istore_n 2 [some (.ref this), some (.int a1), some (.int y3), none] dX6_fits_9 rfl (by decide) rfl ?_
  refine go_aload_n 0 dX6_fits_10 rfl rfl ?_
  refine go_fR fl_X6_60 dX6_fits_11 h0 (by decide) rfl ?_
  refine go_fR fl_X6_111 dX6_fits_14 (hs.1 _ 6 13 h0 rfl) (by decide) rfl ?_
  refine go_iconst 0 dX6_fits_17 (by decide) ?_
  obtain ⟨g4, hf⟩ := gd_some hf
  refine go_rI dX6_fits_18 (hs.1 _ 9 1 (hs.1 _ 6 13 h0 rfl) rfl) (ib_in g4) ?_
  obtain ⟨y5, ey5, hf⟩ := nmd_some hf
  refine go_nm ey5 ?_
  refine go_istore_n 3 [some (.ref this), some (.int a1), some (.int y3), some (.int y5)] dX6_fits_19 rfl (by decide) rfl ?_
  refine go_iload_n 3 dX6_fits_20 rfl rfl ?_
  refine go_aload_n 0 dX6_fits_21 rfl rfl ?_
  refine go_fR fl_X6_38 dX6_fits_22 h0 (by decide) rfl ?_
  refine go_iload_n 1 dX6_fits_25 rfl rfl ?_
  obtain ⟨g6, hf⟩ := gd_some hf
  refine go_rI dX6_fits_26 (hs.1 _ 6 8 h0 rfl) (ib_in g6) ?_
  refine go_icmp_lt 64 dX6_fits_27 (by decide) (fun c7 => ?_) (fun c7 => ?_)
  · replace hf := (if_pos c7).symm.trans hf
    refine go_msk [false, false, false, false] [none, none, none, none] rfl ?_
    exact w_X6_fits_64 hs h0 σ hf
  · replace hf := (if_neg c7).symm.trans hf
    refine go_iload_n 3 dX6_fits_30 rfl rfl ?_
    refine go_aload_n 0 dX6_fits_31 rfl rfl ?_
    refine go_fR fl_X6_41 dX6_fits_32 h0 (by decide) rfl ?_
    refine go_iload_n 1 dX6_fits_35 rfl rfl ?_
    obtain ⟨g8, hf⟩ := gd_some hf
    refine go_rI dX6_fits_36 (hs.1 _ 6 9 h0 rfl) (ib_in g8) ?_
    refine go_icmp_gt 64 dX6_fits_37 (by decide) (fun c9 => ?_) (fun c9 => ?_)
    · replace hf := (if_pos c9).symm.trans hf
      refine go_msk [false, false, false, false] [none, none, none, none] rfl ?_
      exact w_X6_fits_64 hs h0 σ hf
    · replace hf := (if_neg c9).symm.trans hf
      refine go_iload_n 2 dX6_fits_40 rfl rfl ?_
      refine go_aload_n 0 dX6_fits_41 rfl rfl ?_
      refine go_fR fl_X6_44 dX6_fits_42 h0 (by decide) rfl ?_
      refine go_iload_n 1 dX6_fits_45 rfl rfl ?_
      obtain ⟨g10, hf⟩ := gd_some hf
      refine go_rI dX6_fits_46 (hs.1 _ 6 10 h0 rfl) (ib_in g10) ?_
      refine go_icmp_lt 64 dX6_fits_47 (by decide) (fun c11 => ?_) (fun c11 => ?_)
      · replace hf := (if_pos c11).symm.trans hf
        refine go_msk [false, false, false, false] [none, none, none, none] rfl ?_
        exact w_X6_fits_64 hs h0 σ hf
      · replace hf := (if_neg c11).symm.trans hf
        refine go_iload_n 2 dX6_fits_50 rfl rfl ?_
        refine go_aload_n 0 dX6_fits_51 rfl rfl ?_
        refine go_fR fl_X6_47 dX6_fits_52 h0 (by decide) rfl ?_
        refine go_iload_n 1 dX6_fits_55 rfl rfl ?_
        obtain ⟨g12, hf⟩ := gd_some hf
        refine go_rI dX6_fits_56 (hs.1 _ 6 11 h0 rfl) (ib_in g12) ?_
        refine go_icmp_gt 64 dX6_fits_57 (by decide) (fun c13 => ?_) (fun c13 => ?_)
        · replace hf := (if_pos c13).symm.trans hf
          refine go_msk [false, false, false, false] [none, none, none, none] rfl ?_
          exact w_X6_fits_64 hs h0 σ hf
        · replace hf := (if_neg c13).symm.trans hf
          refine go_iconst 1 dX6_fits_60 (by decide) ?_
          refine go_goto 65 dX6_fits_61 (by decide) ?_
          refine go_msk [false, false, false, false] [none, none, none, none] rfl ?_
          exact w_X6_fits_65 hs h0 1 σ hf
def f_X6_rowsFrom_154 (N : Nat) (ρ : Nat → Nat → Nat) (this : Nat) (a1 : Nat) (a2 : Int32) (a3 : Int32) (a4 : Int32) (G_X6_rowsFrom : Nat → Nat → Int32 → Int32 → Int32 → St → Option (Int32 × St)) (rec13 : Int32 → Int32 → St → Option (Int32 × St)) (x5 : Int32) (x6 : Int32) (σ : St) : Option (Int32 × St) :=
  rec13 x5 (x6 + 1) σ
def f_X6_rowsFrom_97 (N : Nat) (ρ : Nat → Nat → Nat) (this : Nat) (a1 : Nat) (a2 : Int32) (a3 : Int32) (a4 : Int32) (G_X6_rowsFrom : Nat → Nat → Int32 → Int32 → Int32 → St → Option (Int32 × St)) (rec13 : Int32 → Int32 → St → Option (Int32 × St)) (x5 : Int32) (x6 : Int32) (σ : St) : Option (Int32 × St) :=
  bnd (f_X6_fits N ρ this a2 σ) fun r1 σ2 =>
  if (r1 : Int32) = 0 then
    f_X6_rowsFrom_154 N ρ this a1 a2 a3 a4 G_X6_rowsFrom rec13 x5 x6 σ2
  else
    gd (ib 0 5) <|
    gd (ib 0 5) <|
    bnd (G_X6_rowsFrom this a1 (a2 + 1) (σ2.1 (ρ (ρ this 13) 0) (0 : Int32).toNatClampNeg) (σ2.1 (ρ (ρ this 13) 1) (0 : Int32).toNatClampNeg) σ2) fun r7 σ8 =>
    gd (ib a2 3) <|
    gd (ib x6 7) <|
    gd (ib x6 7) <|
    nmd (sI σ8 (ρ (ρ this 12) a2.toNatClampNeg) x6.toNatClampNeg ((σ8.1 (ρ (ρ this 12) a2.toNatClampNeg) x6.toNatClampNeg) + r7)) fun σ13 =>
    nmd (x5 + r7) fun y14 =>
    f_X6_rowsFrom_154 N ρ this a1 a2 a3 a4 G_X6_rowsFrom rec13 y14 x6 σ13
def f_X6_rowsFrom_160 (N : Nat) (ρ : Nat → Nat → Nat) (this : Nat) (a1 : Nat) (a2 : Int32) (a3 : Int32) (a4 : Int32) (G_X6_rowsFrom : Nat → Nat → Int32 → Int32 → Int32 → St → Option (Int32 × St)) (x5 : Int32) (σ : St) : Option (Int32 × St) :=
  some (x5, σ)
def b_X6_rowsFrom_13 (N : Nat) (ρ : Nat → Nat → Nat) (this : Nat) (a1 : Nat) (a2 : Int32) (a3 : Int32) (a4 : Int32) (G_X6_rowsFrom : Nat → Nat → Int32 → Int32 → Int32 → St → Option (Int32 × St)) (rec13 : Int32 → Int32 → St → Option (Int32 × St)) (x5 : Int32) (x6 : Int32) (σ : St) : Option (Int32 × St) :=
  if (σ.1 a1 11) < (x6 : Int32) then
    f_X6_rowsFrom_160 N ρ this a1 a2 a3 a4 G_X6_rowsFrom x5 σ
  else
    gd (ib a2 3) <|
    if (nI 7) ≤ (x6 : Int32) then
      f_X6_rowsFrom_160 N ρ this a1 a2 a3 a4 G_X6_rowsFrom x5 σ
    else
      gd (ib 0 5) <|
      nmd (sI σ (ρ (ρ this 13) 0) (0 : Int32).toNatClampNeg a3) fun σ19 =>
      gd (ib 0 5) <|
      nmd (sI σ19 (ρ (ρ this 13) 1) (0 : Int32).toNatClampNeg a4) fun σ21 =>
      nmd (sI σ21 (ρ this 13) 4 a2) fun σ22 =>
      if (σ22.1 a1 11) ≤ (x6 : Int32) then
        bnd (f_X9_rest N ρ (ρ this 13) a1 0 σ22) fun _ σ25 =>
        f_X6_rowsFrom_97 N ρ this a1 a2 a3 a4 G_X6_rowsFrom rec13 x5 x6 σ25
      else
        bnd (f_X9_kneel N ρ (ρ this 13) a1 0 x6 1 σ22) fun r27 σ28 =>
        f_X6_rowsFrom_97 N ρ this a1 a2 a3 a4 G_X6_rowsFrom rec13 x5 x6 σ28
def f_X6_rowsFrom_13 (N : Nat) (ρ : Nat → Nat → Nat) (this : Nat) (a1 : Nat) (a2 : Int32) (a3 : Int32) (a4 : Int32) (G_X6_rowsFrom : Nat → Nat → Int32 → Int32 → Int32 → St → Option (Int32 × St)) : Nat → Int32 → Int32 → St → Option (Int32 × St)
  | 0, _, _, _ => none
  | n + 1, x5, x6, σ => b_X6_rowsFrom_13 N ρ this a1 a2 a3 a4 G_X6_rowsFrom (f_X6_rowsFrom_13 N ρ this a1 a2 a3 a4 G_X6_rowsFrom n) x5 x6 σ
def fo_X6_rowsFrom (N : Nat) (ρ : Nat → Nat → Nat) (this : Nat) (a1 : Nat) (a2 : Int32) (a3 : Int32) (a4 : Int32) (G_X6_rowsFrom : Nat → Nat → Int32 → Int32 → Int32 → St → Option (Int32 × St)) (σ : St) : Option (Int32 × St) :=
  if (a2 : Int32) < 3 then
    f_X6_rowsFrom_13 N ρ this a1 a2 a3 a4 G_X6_rowsFrom N 0 0 σ
  else
    some (1, σ)
set_option maxRecDepth 100000 in
set_option maxHeartbeats 4000000 in
theorem w_X6_rowsFrom_154 {N : Nat} {Γ : SG} {ρ : Nat → Nat → Nat} {dd : Nat} (hs : Sh Γ ρ) {this : Nat} {a1 : Nat} {a2 : Int32} {a3 : Int32} {a4 : Int32} {G_X6_rowsFrom : Nat → Nat → Int32 → Int32 → Int32 → St → Option (Int32 × St)} (h0 : Γ[this]? = some (0, 6)) (h1 : Γ[a1]? = some (0, 0)) (hG_X6_rowsFrom : ∀ {this : Nat} {a1 : Nat} {a2 : Int32} {a3 : Int32} {a4 : Int32} {σ : St} {r : Int32} {σr : St}, Γ[this]? = some (0, 6) → Γ[a1]? = some (0, 0) → G_X6_rowsFrom this a1 a2 a3 a4 σ = some (r, σr) → Tri mX6_rowsFrom dd 0 0 [.ref this, .ref a1, .int a2, .int a3, .int a4] (hp Γ ρ σ) (Ki Γ ρ r σr)) {n0 : Nat} {r : Int32} {σr : St} (rec13 : Int32 → Int32 → St → Option (Int32 × St)) (hrec13 : ∀ (x5 : Int32) (x6 : Int32) (σ : St), rec13 x5 x6 σ = some (r, σr) → Go mX6_rowsFrom (dd + 8) 0 0 n0 (Ki Γ ρ r σr) 0 0 13 [some (.ref this), some (.ref a1), some (.int a2), some (.int a3), some (.int a4), some (.int x5), some (.int x6), none] [] (hp Γ ρ σ)) (x5 : Int32) (x6 : Int32) (σ : St) (hf : f_X6_rowsFrom_154 N ρ this a1 a2 a3 a4 G_X6_rowsFrom rec13 x5 x6 σ = some (r, σr)) : Go mX6_rowsFrom (dd + 8) 0 0 n0 (Ki Γ ρ r σr) 0 0 154 [some (.ref this), some (.ref a1), some (.int a2), some (.int a3), some (.int a4), some (.int x5), some (.int x6), none] [] (hp Γ ρ σ) := by
  unfold f_X6_rowsFrom_154 at hf
  refine go_iinc (x6 + 1) [some (.ref this), some (.ref a1), some (.int a2), some (.int a3), some (.int a4), some (.int x5), some (.int (x6 + 1)), none] dX6_rowsFrom_154 rfl rfl (by decide) rfl ?_
  refine go_goto 13 dX6_rowsFrom_157 (by decide) ?_
  exact hrec13 x5 (x6 + 1) σ hf
set_option maxRecDepth 100000 in
set_option maxHeartbeats 4000000 in
theorem w_X6_rowsFrom_97 {N : Nat} {Γ : SG} {ρ : Nat → Nat → Nat} {dd : Nat} (hs : Sh Γ ρ) {this : Nat} {a1 : Nat} {a2 : Int32} {a3 : Int32} {a4 : Int32} {G_X6_rowsFrom : Nat → Nat → Int32 → Int32 → Int32 → St → Option (Int32 × St)} (h0 : Γ[this]? = some (0, 6)) (h1 : Γ[a1]? = some (0, 0)) (hG_X6_rowsFrom : ∀ {this : Nat} {a1 : Nat} {a2 : Int32} {a3 : Int32} {a4 : Int32} {σ : St} {r : Int32} {σr : St}, Γ[this]? = some (0, 6) → Γ[a1]? = some (0, 0) → G_X6_rowsFrom this a1 a2 a3 a4 σ = some (r, σr) → Tri mX6_rowsFrom dd 0 0 [.ref this, .ref a1, .int a2, .int a3, .int a4] (hp Γ ρ σ) (Ki Γ ρ r σr)) {n0 : Nat} {r : Int32} {σr : St} (rec13 : Int32 → Int32 → St → Option (Int32 × St)) (hrec13 : ∀ (x5 : Int32) (x6 : Int32) (σ : St), rec13 x5 x6 σ = some (r, σr) → Go mX6_rowsFrom (dd + 8) 0 0 n0 (Ki Γ ρ r σr) 0 0 13 [some (.ref this), some (.ref a1), some (.int a2), some (.int a3), some (.int a4), some (.int x5), some (.int x6), none] [] (hp Γ ρ σ)) (x5 : Int32) (x6 : Int32) (σ : St) (hf : f_X6_rowsFrom_97 N ρ this a1 a2 a3 a4 G_X6_rowsFrom rec13 x5 x6 σ = some (r, σr)) : Go mX6_rowsFrom (dd + 8) 0 0 n0 (Ki Γ ρ r σr) 0 0 97 [some (.ref this), some (.ref a1), some (.int a2), some (.int a3), some (.int a4), some (.int x5), some (.int x6), none] [] (hp Γ ρ σ) := by
  unfold f_X6_rowsFrom_97 at hf
  refine go_aload_n 0 dX6_rowsFrom_97 rfl rfl ?_
  refine go_iload_n 2 dX6_rowsFrom_98 rfl rfl ?_
  obtain ⟨r1, σ2, q3, hf⟩ := bnd_some hf
  refine go_Vi (av := [.int a2]) (rest := []) (t_X6_fits hs h0 q3) ok_X6_fits ml_X6_123 dX6_rowsFrom_99 h0 rfl rfl (by omega) (Nat.le_refl _) (Nat.le_refl _) (Nat.le_of_ble_eq_true rfl) ?_
  refine go_if_eq 154 dX6_rowsFrom_102 (by decide) (fun c4 => ?_) (fun c4 => ?_)
  · replace hf := (if_pos c4).symm.trans hf
    exact w_X6_rowsFrom_154 hs h0 h1 hG_X6_rowsFrom rec13 hrec13 x5 x6 σ2 hf
  · replace hf := (if_neg c4).symm.trans hf
    refine go_aload_n 0 dX6_rowsFrom_105 rfl rfl ?_
    refine go_aload_n 1 dX6_rowsFrom_106 rfl rfl ?_
    refine go_iload_n 2 dX6_rowsFrom_107 rfl rfl ?_
    refine go_iconst 1 dX6_rowsFrom_108 (by decide) ?_
    refine go_iadd dX6_rowsFrom_109 ?_
    refine go_aload_n 0 dX6_rowsFrom_110 rfl rfl ?_
    refine go_fR fl_X6_60 dX6_rowsFrom_111 h0 (by decide) rfl ?_
    refine go_fR fl_X6_108 dX6_rowsFrom_114 (hs.1 _ 6 13 h0 rfl) (by decide) rfl ?_
    refine go_iconst 0 dX6_rowsFrom_117 (by decide) ?_
    obtain ⟨g5, hf⟩ := gd_some hf
    refine go_rI dX6_rowsFrom_118 (hs.1 _ 9 0 (hs.1 _ 6 13 h0 rfl) rfl) (ib_in g5) ?_
    refine go_aload_n 0 dX6_rowsFrom_119 rfl rfl ?_
    refine go_fR fl_X6_60 dX6_rowsFrom_120 h0 (by decide) rfl ?_
    refine go_fR fl_X6_111 dX6_rowsFrom_123 (hs.1 _ 6 13 h0 rfl) (by decide) rfl ?_
    refine go_iconst 0 dX6_rowsFrom_126 (by decide) ?_
    obtain ⟨g6, hf⟩ := gd_some hf
    refine go_rI dX6_rowsFrom_127 (hs.1 _ 9 1 (hs.1 _ 6 13 h0 rfl) rfl) (ib_in g6) ?_
    obtain ⟨r7, σ8, q9, hf⟩ := bnd_some hf
    refine go_Vi (av := [.ref a1, .int (a2 + 1), .int (σ2.1 (ρ (ρ this 13) 0) (0 : Int32).toNatClampNeg), .int (σ2.1 (ρ (ρ this 13) 1) (0 : Int32).toNatClampNeg)]) (rest := []) (hG_X6_rowsFrom h0 h1 q9) ok_X6_rowsFrom ml_X6_88 dX6_rowsFrom_128 h0 rfl rfl (by omega) (Nat.le_refl _) (Nat.le_refl _) (Nat.le_of_ble_eq_true rfl) ?_
    refine go_istore [some (.ref this), some (.ref a1), some (.int a2), some (.int a3), some (.int a4), some (.int x5), some (.int x6), some (.int r7)] dX6_rowsFrom_131 (by decide) rfl ?_
    refine go_aload_n 0 dX6_rowsFrom_133 rfl rfl ?_
    refine go_fR fl_X6_54 dX6_rowsFrom_134 h0 (by decide) rfl ?_
    refine go_iload_n 2 dX6_rowsFrom_137 rfl rfl ?_
    obtain ⟨g10, hf⟩ := gd_some hf
    refine go_rR dX6_rowsFrom_138 (hs.1 _ 6 12 h0 rfl) (ib_in g10) ?_
    refine go_iload dX6_rowsFrom_139 rfl ?_
    refine go_dup2 dX6_rowsFrom_141 rfl rfl ?_
    obtain ⟨g11, hf⟩ := gd_some hf
    refine go_rI dX6_rowsFrom_142 (sh_in hs (hs.1 _ 6 12 h0 rfl) g10) (ib_in g11) ?_
    refine go_iload dX6_rowsFrom_143 rfl ?_
    refine go_iadd dX6_rowsFrom_145 ?_
    obtain ⟨g12, hf⟩ := gd_some hf
    obtain ⟨σ13, eσ13, hf⟩ := nmd_some hf
    refine go_wI dX6_rowsFrom_146 (sh_in hs (hs.1 _ 6 12 h0 rfl) g10) (ib_in g12) ?_
    rw [eσ13]
    refine go_iload dX6_rowsFrom_147 rfl ?_
    refine go_iload dX6_rowsFrom_149 rfl ?_
    refine go_iadd dX6_rowsFrom_151 ?_
    obtain ⟨y14, ey14, hf⟩ := nmd_some hf
    refine go_nm ey14 ?_
    refine go_istore [some (.ref this), some (.ref a1), some (.int a2), some (.int a3), some (.int a4), some (.int y14), some (.int x6), some (.int r7)] dX6_rowsFrom_152 (by decide) rfl ?_
    refine go_msk [true, true, true, true, true, true, true, false] [some (.ref this), some (.ref a1), some (.int a2), some (.int a3), some (.int a4), some (.int y14), some (.int x6), none] rfl ?_
    exact w_X6_rowsFrom_154 hs h0 h1 hG_X6_rowsFrom rec13 hrec13 y14 x6 σ13 hf
set_option maxRecDepth 100000 in
set_option maxHeartbeats 4000000 in
theorem w_X6_rowsFrom_160 {N : Nat} {Γ : SG} {ρ : Nat → Nat → Nat} {dd : Nat} (hs : Sh Γ ρ) {this : Nat} {a1 : Nat} {a2 : Int32} {a3 : Int32} {a4 : Int32} {G_X6_rowsFrom : Nat → Nat → Int32 → Int32 → Int32 → St → Option (Int32 × St)} (h0 : Γ[this]? = some (0, 6)) (h1 : Γ[a1]? = some (0, 0)) (hG_X6_rowsFrom : ∀ {this : Nat} {a1 : Nat} {a2 : Int32} {a3 : Int32} {a4 : Int32} {σ : St} {r : Int32} {σr : St}, Γ[this]? = some (0, 6) → Γ[a1]? = some (0, 0) → G_X6_rowsFrom this a1 a2 a3 a4 σ = some (r, σr) → Tri mX6_rowsFrom dd 0 0 [.ref this, .ref a1, .int a2, .int a3, .int a4] (hp Γ ρ σ) (Ki Γ ρ r σr)) {n0 : Nat} {r : Int32} {σr : St} (x5 : Int32) (σ : St) (hf : f_X6_rowsFrom_160 N ρ this a1 a2 a3 a4 G_X6_rowsFrom x5 σ = some (r, σr)) : Go mX6_rowsFrom (dd + 8) 0 0 n0 (Ki Γ ρ r σr) 0 0 160 [none, none, none, none, none, some (.int x5), none, none] [] (hp Γ ρ σ) := by
  unfold f_X6_rowsFrom_160 at hf
  refine go_iload dX6_rowsFrom_160 rfl ?_
  cases hf
  exact go_iret rfl dX6_rowsFrom_162 (Nat.le_refl _) ⟨rfl, rfl⟩
set_option maxRecDepth 100000 in
set_option maxHeartbeats 4000000 in
theorem v_X6_rowsFrom_13 {N : Nat} {Γ : SG} {ρ : Nat → Nat → Nat} {dd : Nat} (hs : Sh Γ ρ) {this : Nat} {a1 : Nat} {a2 : Int32} {a3 : Int32} {a4 : Int32} {G_X6_rowsFrom : Nat → Nat → Int32 → Int32 → Int32 → St → Option (Int32 × St)} (h0 : Γ[this]? = some (0, 6)) (h1 : Γ[a1]? = some (0, 0)) (hG_X6_rowsFrom : ∀ {this : Nat} {a1 : Nat} {a2 : Int32} {a3 : Int32} {a4 : Int32} {σ : St} {r : Int32} {σr : St}, Γ[this]? = some (0, 6) → Γ[a1]? = some (0, 0) → G_X6_rowsFrom this a1 a2 a3 a4 σ = some (r, σr) → Tri mX6_rowsFrom dd 0 0 [.ref this, .ref a1, .int a2, .int a3, .int a4] (hp Γ ρ σ) (Ki Γ ρ r σr)) {n0 : Nat} {r : Int32} {σr : St} (rec13 : Int32 → Int32 → St → Option (Int32 × St)) (hrec13 : ∀ (x5 : Int32) (x6 : Int32) (σ : St), rec13 x5 x6 σ = some (r, σr) → Go mX6_rowsFrom (dd + 8) 0 0 n0 (Ki Γ ρ r σr) 0 0 13 [some (.ref this), some (.ref a1), some (.int a2), some (.int a3), some (.int a4), some (.int x5), some (.int x6), none] [] (hp Γ ρ σ)) (x5 : Int32) (x6 : Int32) (σ : St) (hf : b_X6_rowsFrom_13 N ρ this a1 a2 a3 a4 G_X6_rowsFrom rec13 x5 x6 σ = some (r, σr)) : Go mX6_rowsFrom (dd + 8) 0 0 n0 (Ki Γ ρ r σr) 0 0 13 [some (.ref this), some (.ref a1), some (.int a2), some (.int a3), some (.int a4), some (.int x5), some (.int x6), none] [] (hp Γ ρ σ) := by
  unfold b_X6_rowsFrom_13 at hf
  refine go_iload dX6_rowsFrom_13 rfl ?_
  refine go_aload_n 1 dX6_rowsFrom_15 rfl rfl ?_
  refine go_fI fl_X6_105 dX6_rowsFrom_16 h1 (by decide) rfl ?_
  refine go_icmp_gt 160 dX6_rowsFrom_19 (by decide) (fun c15 => ?_) (fun c15 => ?_)
  · replace hf := (if_pos c15).symm.trans hf
    refine go_msk [false, false, false, false, false, true, false, false] [none, none, none, none, none, some (.int x5), none, none] rfl ?_
    exact w_X6_rowsFrom_160 hs h0 h1 hG_X6_rowsFrom x5 σ hf
  · replace hf := (if_neg c15).symm.trans hf
    refine go_iload dX6_rowsFrom_22 rfl ?_
    refine go_aload_n 0 dX6_rowsFrom_24 rfl rfl ?_
    refine go_fR fl_X6_54 dX6_rowsFrom_25 h0 (by decide) rfl ?_
    refine go_iload_n 2 dX6_rowsFrom_28 rfl rfl ?_
    obtain ⟨g16, hf⟩ := gd_some hf
    refine go_rR dX6_rowsFrom_29 (hs.1 _ 6 12 h0 rfl) (ib_in g16) ?_
    refine go_len dX6_rowsFrom_30 (sh_in hs (hs.1 _ 6 12 h0 rfl) g16) (by decide) ?_
    refine go_icmp_ge 160 dX6_rowsFrom_31 (by decide) (fun c17 => ?_) (fun c17 => ?_)
    · replace hf := (if_pos c17).symm.trans hf
      refine go_msk [false, false, false, false, false, true, false, false] [none, none, none, none, none, some (.int x5), none, none] rfl ?_
      exact w_X6_rowsFrom_160 hs h0 h1 hG_X6_rowsFrom x5 σ hf
    · replace hf := (if_neg c17).symm.trans hf
      refine go_aload_n 0 dX6_rowsFrom_34 rfl rfl ?_
      refine go_fR fl_X6_60 dX6_rowsFrom_35 h0 (by decide) rfl ?_
      refine go_fR fl_X6_108 dX6_rowsFrom_38 (hs.1 _ 6 13 h0 rfl) (by decide) rfl ?_
      refine go_iconst 0 dX6_rowsFrom_41 (by decide) ?_
      refine go_iload_n 3 dX6_rowsFrom_42 rfl rfl ?_
      obtain ⟨g18, hf⟩ := gd_some hf
      obtain ⟨σ19, eσ19, hf⟩ := nmd_some hf
      refine go_wI dX6_rowsFrom_43 (hs.1 _ 9 0 (hs.1 _ 6 13 h0 rfl) rfl) (ib_in g18) ?_
      rw [eσ19]
      refine go_aload_n 0 dX6_rowsFrom_44 rfl rfl ?_
      refine go_fR fl_X6_60 dX6_rowsFrom_45 h0 (by decide) rfl ?_
      refine go_fR fl_X6_111 dX6_rowsFrom_48 (hs.1 _ 6 13 h0 rfl) (by decide) rfl ?_
      refine go_iconst 0 dX6_rowsFrom_51 (by decide) ?_
      refine go_iload dX6_rowsFrom_52 rfl ?_
      obtain ⟨g20, hf⟩ := gd_some hf
      obtain ⟨σ21, eσ21, hf⟩ := nmd_some hf
      refine go_wI dX6_rowsFrom_54 (hs.1 _ 9 1 (hs.1 _ 6 13 h0 rfl) rfl) (ib_in g20) ?_
      rw [eσ21]
      refine go_aload_n 0 dX6_rowsFrom_55 rfl rfl ?_
      refine go_fR fl_X6_60 dX6_rowsFrom_56 h0 (by decide) rfl ?_
      refine go_iload_n 2 dX6_rowsFrom_59 rfl rfl ?_
      obtain ⟨σ22, eσ22, hf⟩ := nmd_some hf
      refine go_pI fl_X6_112 ft_9_4 (okv_i _) dX6_rowsFrom_60 (hs.1 _ 6 13 h0 rfl) (by decide) rfl ?_
      rw [eσ22]
      refine go_iload dX6_rowsFrom_63 rfl ?_
      refine go_aload_n 1 dX6_rowsFrom_65 rfl rfl ?_
      refine go_fI fl_X6_105 dX6_rowsFrom_66 h1 (by decide) rfl ?_
      refine go_icmp_ge 88 dX6_rowsFrom_69 (by decide) (fun c23 => ?_) (fun c23 => ?_)
      · replace hf := (if_pos c23).symm.trans hf
        refine go_aload_n 0 dX6_rowsFrom_88 rfl rfl ?_
        refine go_fR fl_X6_60 dX6_rowsFrom_89 h0 (by decide) rfl ?_
        refine go_aload_n 1 dX6_rowsFrom_92 rfl rfl ?_
        refine go_iconst 0 dX6_rowsFrom_93 (by decide) ?_
        obtain ⟨r24, σ25, q26, hf⟩ := bnd_some hf
        refine go_Vv (av := [.ref a1, .int 0]) (rest := []) (t_X9_rest hs (hs.1 _ 6 13 h0 rfl) h1 q26) ok_X9_rest ml_X6_119 dX6_rowsFrom_94 (hs.1 _ 6 13 h0 rfl) rfl rfl (by omega) (Nat.le_refl _) (Nat.le_refl _) (Nat.le_of_ble_eq_true rfl) ?_
        exact w_X6_rowsFrom_97 hs h0 h1 hG_X6_rowsFrom rec13 hrec13 x5 x6 σ25 hf
      · replace hf := (if_neg c23).symm.trans hf
        refine go_aload_n 0 dX6_rowsFrom_72 rfl rfl ?_
        refine go_fR fl_X6_60 dX6_rowsFrom_73 h0 (by decide) rfl ?_
        refine go_aload_n 1 dX6_rowsFrom_76 rfl rfl ?_
        refine go_iconst 0 dX6_rowsFrom_77 (by decide) ?_
        refine go_iload dX6_rowsFrom_78 rfl ?_
        refine go_iconst 1 dX6_rowsFrom_80 (by decide) ?_
        obtain ⟨r27, σ28, q29, hf⟩ := bnd_some hf
        refine go_Vi (av := [.ref a1, .int 0, .int x6, .int 1]) (rest := []) (t_X9_kneel hs (hs.1 _ 6 13 h0 rfl) h1 q29) ok_X9_kneel ml_X6_115 dX6_rowsFrom_81 (hs.1 _ 6 13 h0 rfl) rfl rfl (by omega) (Nat.le_refl _) (Nat.le_refl _) (Nat.le_of_ble_eq_true rfl) ?_
        refine go_pop dX6_rowsFrom_84 rfl ?_
        refine go_goto 97 dX6_rowsFrom_85 (by decide) ?_
        exact w_X6_rowsFrom_97 hs h0 h1 hG_X6_rowsFrom rec13 hrec13 x5 x6 σ28 hf
theorem w_X6_rowsFrom_13 {N : Nat} {Γ : SG} {ρ : Nat → Nat → Nat} {dd : Nat} (hs : Sh Γ ρ) {this : Nat} {a1 : Nat} {a2 : Int32} {a3 : Int32} {a4 : Int32} {G_X6_rowsFrom : Nat → Nat → Int32 → Int32 → Int32 → St → Option (Int32 × St)} (h0 : Γ[this]? = some (0, 6)) (h1 : Γ[a1]? = some (0, 0)) (hG_X6_rowsFrom : ∀ {this : Nat} {a1 : Nat} {a2 : Int32} {a3 : Int32} {a4 : Int32} {σ : St} {r : Int32} {σr : St}, Γ[this]? = some (0, 6) → Γ[a1]? = some (0, 0) → G_X6_rowsFrom this a1 a2 a3 a4 σ = some (r, σr) → Tri mX6_rowsFrom dd 0 0 [.ref this, .ref a1, .int a2, .int a3, .int a4] (hp Γ ρ σ) (Ki Γ ρ r σr)) {n0 : Nat} {r : Int32} {σr : St} : ∀ (n : Nat) (x5 : Int32) (x6 : Int32) (σ : St), f_X6_rowsFrom_13 N ρ this a1 a2 a3 a4 G_X6_rowsFrom n x5 x6 σ = some (r, σr) → Go mX6_rowsFrom (dd + 8) 0 0 n0 (Ki Γ ρ r σr) 0 0 13 [some (.ref this), some (.ref a1), some (.int a2), some (.int a3), some (.int a4), some (.int x5), some (.int x6), none] [] (hp Γ ρ σ) := by
  intro n
  induction n with
  | zero => intro x5 x6 σ hf; cases hf
  | succ n ih => intro x5 x6 σ hf; exact v_X6_rowsFrom_13 hs h0 h1 hG_X6_rowsFrom _ ih x5 x6 σ hf
set_option maxRecDepth 100000 in
set_option maxHeartbeats 4000000 in
theorem to_X6_rowsFrom {N : Nat} {Γ : SG} {ρ : Nat → Nat → Nat} {dd : Nat} (hs : Sh Γ ρ) {this : Nat} {a1 : Nat} {a2 : Int32} {a3 : Int32} {a4 : Int32} {G_X6_rowsFrom : Nat → Nat → Int32 → Int32 → Int32 → St → Option (Int32 × St)} (h0 : Γ[this]? = some (0, 6)) (h1 : Γ[a1]? = some (0, 0)) (hG_X6_rowsFrom : ∀ {this : Nat} {a1 : Nat} {a2 : Int32} {a3 : Int32} {a4 : Int32} {σ : St} {r : Int32} {σr : St}, Γ[this]? = some (0, 6) → Γ[a1]? = some (0, 0) → G_X6_rowsFrom this a1 a2 a3 a4 σ = some (r, σr) → Tri mX6_rowsFrom dd 0 0 [.ref this, .ref a1, .int a2, .int a3, .int a4] (hp Γ ρ σ) (Ki Γ ρ r σr)) {σ : St} {r : Int32} {σr : St} (hf : fo_X6_rowsFrom N ρ this a1 a2 a3 a4 G_X6_rowsFrom σ = some (r, σr)) : Tri mX6_rowsFrom (dd + 8) 0 0 [.ref this, .ref a1, .int a2, .int a3, .int a4] (hp Γ ρ σ) (Ki Γ ρ r σr) := by
  unfold fo_X6_rowsFrom at hf
  refine tri_of [some (.ref this), some (.ref a1), some (.int a2), some (.int a3), some (.int a4), none, none, none] (plainFor_of_name rfl) rfl (Nat.le_of_ble_eq_true rfl) ?_
  refine go_iload_n 2 dX6_rowsFrom_0 rfl rfl ?_
  refine go_iconst 3 dX6_rowsFrom_1 (by decide) ?_
  refine go_icmp_lt 7 dX6_rowsFrom_2 (by decide) (fun c30 => ?_) (fun c30 => ?_)
  · replace hf := (if_pos c30).symm.trans hf
    refine go_iconst 0 dX6_rowsFrom_7 (by decide) ?_
    refine go_istore [some (.ref this), some (.ref a1), some (.int a2), some (.int a3), some (.int a4), some (.int 0), none, none] dX6_rowsFrom_8 (by decide) rfl ?_
    refine go_iconst 0 dX6_rowsFrom_10 (by decide) ?_
    refine go_istore [some (.ref this), some (.ref a1), some (.int a2), some (.int a3), some (.int a4), some (.int 0), some (.int 0), none] dX6_rowsFrom_11 (by decide) rfl ?_
    exact w_X6_rowsFrom_13 hs h0 h1 hG_X6_rowsFrom N 0 0 σ hf
  · replace hf := (if_neg c30).symm.trans hf
    refine go_iconst 1 dX6_rowsFrom_5 (by decide) ?_
    cases hf
    exact go_iret rfl dX6_rowsFrom_6 (Nat.le_refl _) ⟨rfl, rfl⟩
def fr_X6_rowsFrom (N : Nat) (ρ : Nat → Nat → Nat) : Nat → Nat → Nat → Nat → Int32 → Int32 → Int32 → St → Option (Int32 × St)
  | 0, _, _, _, _, _, _, _ => none
  | D + 1, tag, this, a1, a2, a3, a4, σ => match tag with
    | _ => fo_X6_rowsFrom N ρ this a1 a2 a3 a4 (fr_X6_rowsFrom N ρ D 0) σ
theorem tr_X6_rowsFrom {N : Nat} {Γ : SG} {ρ : Nat → Nat → Nat} (hs : Sh Γ ρ) : ∀ D : Nat, (∀ {this : Nat} {a1 : Nat} {a2 : Int32} {a3 : Int32} {a4 : Int32} {σ : St} {r : Int32} {σr : St}, Γ[this]? = some (0, 6) → Γ[a1]? = some (0, 0) → fr_X6_rowsFrom N ρ D 0 this a1 a2 a3 a4 σ = some (r, σr) → Tri mX6_rowsFrom (8 * D) 0 0 [.ref this, .ref a1, .int a2, .int a3, .int a4] (hp Γ ρ σ) (Ki Γ ρ r σr)) := by
  intro D
  induction D with
  | zero => exact fun h0 h1 hf => (by cases hf)
  | succ D ih => exact fun h0 h1 hf => to_X6_rowsFrom (dd := 8 * D) hs h0 h1 ih hf
def f_X6_rowsFrom (N : Nat) (ρ : Nat → Nat → Nat) (this : Nat) (a1 : Nat) (a2 : Int32) (a3 : Int32) (a4 : Int32) (σ : St) : Option (Int32 × St) := fr_X6_rowsFrom N ρ 6 0 this a1 a2 a3 a4 σ
theorem t_X6_rowsFrom {N : Nat} {Γ : SG} {ρ : Nat → Nat → Nat} (hs : Sh Γ ρ) {this : Nat} {a1 : Nat} {a2 : Int32} {a3 : Int32} {a4 : Int32} (h0 : Γ[this]? = some (0, 6)) (h1 : Γ[a1]? = some (0, 0)) {σ : St} {r : Int32} {σr : St} (hf : f_X6_rowsFrom N ρ this a1 a2 a3 a4 σ = some (r, σr)) : Tri mX6_rowsFrom 48 0 0 [.ref this, .ref a1, .int a2, .int a3, .int a4] (hp Γ ρ σ) (Ki Γ ρ r σr) := (tr_X6_rowsFrom hs 6) h0 h1 hf

def b_X6_tallyRows_16 (N : Nat) (ρ : Nat → Nat → Nat) (this : Nat) (a1 : Nat) (a2 : Int32) (rec16 : Int32 → St → Option (Int32 × St)) (x3 : Int32) (σ : St) : Option (Int32 × St) :=
  if 3 ≤ (x3 : Int32) then
    bnd (f_X9_begin N ρ (ρ this 13) a1 σ) fun _ σ3 =>
    gd (ib 0 5) <|
    gd (ib 0 5) <|
    bnd (f_X6_rowsFrom N ρ this a1 0 (σ3.1 (ρ a1 5) (0 : Int32).toNatClampNeg) (σ3.1 (ρ a1 7) (0 : Int32).toNatClampNeg) σ3) fun r7 σ8 =>
    some (r7, σ8)
  else
    gd (ib x3 3) <|
    bnd (f_J7_fill_53178 N ρ (ρ (ρ this 12) x3.toNatClampNeg) 7 0 σ) fun _ σ12 =>
    rec16 (x3 + 1) σ12
def f_X6_tallyRows_16 (N : Nat) (ρ : Nat → Nat → Nat) (this : Nat) (a1 : Nat) (a2 : Int32) : Nat → Int32 → St → Option (Int32 × St)
  | 0, _, _ => none
  | n + 1, x3, σ => b_X6_tallyRows_16 N ρ this a1 a2 (f_X6_tallyRows_16 N ρ this a1 a2 n) x3 σ
def f_X6_tallyRows (N : Nat) (ρ : Nat → Nat → Nat) (this : Nat) (a1 : Nat) (a2 : Int32) (σ : St) : Option (Int32 × St) :=
  if (σ.1 a1 12 : Int32) = 0 then
    some (0, σ)
  else
    bnd (f_X6_gatherBounds N ρ this a2 σ) fun _ σ16 =>
    f_X6_tallyRows_16 N ρ this a1 a2 N 0 σ16
set_option maxRecDepth 100000 in
set_option maxHeartbeats 4000000 in
theorem v_X6_tallyRows_16 {N : Nat} {Γ : SG} {ρ : Nat → Nat → Nat} (hs : Sh Γ ρ) {this : Nat} {a1 : Nat} {a2 : Int32} (h0 : Γ[this]? = some (0, 6)) (h1 : Γ[a1]? = some (0, 0)) {n0 : Nat} {r : Int32} {σr : St} (rec16 : Int32 → St → Option (Int32 × St)) (hrec16 : ∀ (x3 : Int32) (σ : St), rec16 x3 σ = some (r, σr) → Go mX6_tallyRows 49 0 0 n0 (Ki Γ ρ r σr) 0 0 16 [some (.ref this), some (.ref a1), none, some (.int x3)] [] (hp Γ ρ σ)) (x3 : Int32) (σ : St) (hf : b_X6_tallyRows_16 N ρ this a1 a2 rec16 x3 σ = some (r, σr)) : Go mX6_tallyRows 49 0 0 n0 (Ki Γ ρ r σr) 0 0 16 [some (.ref this), some (.ref a1), none, some (.int x3)] [] (hp Γ ρ σ) := by
  unfold b_X6_tallyRows_16 at hf
  refine go_iload_n 3 dX6_tallyRows_16 rfl rfl ?_
  refine go_iconst 3 dX6_tallyRows_17 (by decide) ?_
  refine go_icmp_ge 37 dX6_tallyRows_18 (by decide) (fun c1 => ?_) (fun c1 => ?_)
  · replace hf := (if_pos c1).symm.trans hf
    refine go_aload_n 0 dX6_tallyRows_37 rfl rfl ?_
    refine go_fR fl_X6_60 dX6_tallyRows_38 h0 (by decide) rfl ?_
    refine go_aload_n 1 dX6_tallyRows_41 rfl rfl ?_
    obtain ⟨r2, σ3, q4, hf⟩ := bnd_some hf
    refine go_Vv (av := [.ref a1]) (rest := []) (t_X9_begin hs (hs.1 _ 6 13 h0 rfl) h1 q4) ok_X9_begin ml_X6_78 dX6_tallyRows_42 (hs.1 _ 6 13 h0 rfl) rfl rfl (by decide) (Nat.le_refl _) (Nat.le_refl _) (Nat.le_of_ble_eq_true rfl) ?_
    refine go_aload_n 0 dX6_tallyRows_45 rfl rfl ?_
    refine go_aload_n 1 dX6_tallyRows_46 rfl rfl ?_
    refine go_iconst 0 dX6_tallyRows_47 (by decide) ?_
    refine go_aload_n 1 dX6_tallyRows_48 rfl rfl ?_
    refine go_fR fl_X6_82 dX6_tallyRows_49 h1 (by decide) rfl ?_
    refine go_iconst 0 dX6_tallyRows_52 (by decide) ?_
    obtain ⟨g5, hf⟩ := gd_some hf
    refine go_rI dX6_tallyRows_53 (hs.1 _ 0 5 h1 rfl) (ib_in g5) ?_
    refine go_aload_n 1 dX6_tallyRows_54 rfl rfl ?_
    refine go_fR fl_X6_85 dX6_tallyRows_55 h1 (by decide) rfl ?_
    refine go_iconst 0 dX6_tallyRows_58 (by decide) ?_
    obtain ⟨g6, hf⟩ := gd_some hf
    refine go_rI dX6_tallyRows_59 (hs.1 _ 0 7 h1 rfl) (ib_in g6) ?_
    obtain ⟨r7, σ8, q9, hf⟩ := bnd_some hf
    refine go_Vi (av := [.ref a1, .int 0, .int (σ3.1 (ρ a1 5) (0 : Int32).toNatClampNeg), .int (σ3.1 (ρ a1 7) (0 : Int32).toNatClampNeg)]) (rest := []) (t_X6_rowsFrom hs h0 h1 q9) ok_X6_rowsFrom ml_X6_88 dX6_tallyRows_60 h0 rfl rfl (by decide) (Nat.le_refl _) (Nat.le_refl _) (Nat.le_of_ble_eq_true rfl) ?_
    cases hf
    exact go_iret rfl dX6_tallyRows_63 (Nat.le_refl _) ⟨rfl, rfl⟩
  · replace hf := (if_neg c1).symm.trans hf
    refine go_aload_n 0 dX6_tallyRows_21 rfl rfl ?_
    refine go_fR fl_X6_54 dX6_tallyRows_22 h0 (by decide) rfl ?_
    refine go_iload_n 3 dX6_tallyRows_25 rfl rfl ?_
    obtain ⟨g10, hf⟩ := gd_some hf
    refine go_rR dX6_tallyRows_26 (hs.1 _ 6 12 h0 rfl) (ib_in g10) ?_
    refine go_iconst 0 dX6_tallyRows_27 (by decide) ?_
    obtain ⟨r11, σ12, q13, hf⟩ := bnd_some hf
    refine go_Sv (av := [.ref (ρ (ρ this 12) x3.toNatClampNeg), .int 0]) (rest := []) (t_J7_fill_53178 hs (sh_in hs (hs.1 _ 6 12 h0 rfl) g10) q13) ok_J7_fill_53178 ml_X6_72 dX6_tallyRows_28 rfl rfl (by decide) (Nat.le_refl _) (Nat.le_refl _) (Nat.le_of_ble_eq_true rfl) ?_
    refine go_iinc (x3 + 1) [some (.ref this), some (.ref a1), none, some (.int (x3 + 1))] dX6_tallyRows_31 rfl rfl (by decide) rfl ?_
    refine go_goto 16 dX6_tallyRows_34 (by decide) ?_
    exact hrec16 (x3 + 1) σ12 hf
theorem w_X6_tallyRows_16 {N : Nat} {Γ : SG} {ρ : Nat → Nat → Nat} (hs : Sh Γ ρ) {this : Nat} {a1 : Nat} {a2 : Int32} (h0 : Γ[this]? = some (0, 6)) (h1 : Γ[a1]? = some (0, 0)) {n0 : Nat} {r : Int32} {σr : St} : ∀ (n : Nat) (x3 : Int32) (σ : St), f_X6_tallyRows_16 N ρ this a1 a2 n x3 σ = some (r, σr) → Go mX6_tallyRows 49 0 0 n0 (Ki Γ ρ r σr) 0 0 16 [some (.ref this), some (.ref a1), none, some (.int x3)] [] (hp Γ ρ σ) := by
  intro n
  induction n with
  | zero => intro x3 σ hf; cases hf
  | succ n ih => intro x3 σ hf; exact v_X6_tallyRows_16 hs h0 h1 _ ih x3 σ hf
set_option maxRecDepth 100000 in
set_option maxHeartbeats 4000000 in
theorem t_X6_tallyRows {N : Nat} {Γ : SG} {ρ : Nat → Nat → Nat} (hs : Sh Γ ρ) {this : Nat} {a1 : Nat} {a2 : Int32} (h0 : Γ[this]? = some (0, 6)) (h1 : Γ[a1]? = some (0, 0)) {σ : St} {r : Int32} {σr : St} (hf : f_X6_tallyRows N ρ this a1 a2 σ = some (r, σr)) : Tri mX6_tallyRows 49 0 0 [.ref this, .ref a1, .int a2] (hp Γ ρ σ) (Ki Γ ρ r σr) := by
  unfold f_X6_tallyRows at hf
  refine tri_of [some (.ref this), some (.ref a1), some (.int a2), none] (plainFor_of_name rfl) rfl (Nat.le_of_ble_eq_true rfl) ?_
  refine go_aload_n 1 dX6_tallyRows_0 rfl rfl ?_
  refine go_fI fl_X6_65 dX6_tallyRows_1 h1 (by decide) rfl ?_
  refine go_if_ne 9 dX6_tallyRows_4 (by decide) (fun c14 => ?_) (fun c14 => ?_)
  · replace hf := (if_neg c14).symm.trans hf
    refine go_aload_n 0 dX6_tallyRows_9 rfl rfl ?_
    refine go_iload_n 2 dX6_tallyRows_10 rfl rfl ?_
    obtain ⟨r15, σ16, q17, hf⟩ := bnd_some hf
    refine go_Vv (av := [.int a2]) (rest := []) (t_X6_gatherBounds hs h0 q17) ok_X6_gatherBounds ml_X6_68 dX6_tallyRows_11 h0 rfl rfl (by decide) (Nat.le_refl _) (Nat.le_refl _) (Nat.le_of_ble_eq_true rfl) ?_
    refine go_iconst 0 dX6_tallyRows_14 (by decide) ?_
    refine go_istore_n 3 [some (.ref this), some (.ref a1), some (.int a2), some (.int 0)] dX6_tallyRows_15 rfl (by decide) rfl ?_
    refine go_msk [true, true, false, true] [some (.ref this), some (.ref a1), none, some (.int 0)] rfl ?_
    exact w_X6_tallyRows_16 hs h0 h1 N 0 σ16 hf
  · replace hf := (if_pos c14).symm.trans hf
    refine go_iconst 0 dX6_tallyRows_7 (by decide) ?_
    cases hf
    exact go_iret rfl dX6_tallyRows_8 (Nat.le_refl _) ⟨rfl, rfl⟩
def f_X6_mostLeft_48 (N : Nat) (ρ : Nat → Nat → Nat) (this : Nat) (a1 : Int32) (x2 : Int32) (σ : St) : Option (Int32 × St) :=
  some (x2, σ)
def b_X6_mostLeft_14 (N : Nat) (ρ : Nat → Nat → Nat) (this : Nat) (a1 : Int32) (rec14 : Int32 → Int32 → St → Option (Int32 × St)) (x2 : Int32) (x3 : Int32) (σ : St) : Option (Int32 × St) :=
  gd (ib (a1 - 1) 3) <|
  if (nI 7) ≤ (x3 : Int32) then
    f_X6_mostLeft_48 N ρ this a1 x2 σ
  else
    gd (ib (a1 - 1) 3) <|
    gd (ib x3 7) <|
    nmd (mmax x2 (σ.1 (ρ (ρ this 12) (a1 - 1).toNatClampNeg) x3.toNatClampNeg)) fun y5 =>
    rec14 y5 (x3 + 1) σ
def f_X6_mostLeft_14 (N : Nat) (ρ : Nat → Nat → Nat) (this : Nat) (a1 : Int32) : Nat → Int32 → Int32 → St → Option (Int32 × St)
  | 0, _, _, _ => none
  | n + 1, x2, x3, σ => b_X6_mostLeft_14 N ρ this a1 (f_X6_mostLeft_14 N ρ this a1 n) x2 x3 σ
def f_X6_mostLeft (N : Nat) (ρ : Nat → Nat → Nat) (this : Nat) (a1 : Int32) (σ : St) : Option (Int32 × St) :=
  if (a1 : Int32) < 1 then
    f_X6_mostLeft_48 N ρ this a1 0 σ
  else
    if 3 < (a1 : Int32) then
      f_X6_mostLeft_48 N ρ this a1 0 σ
    else
      f_X6_mostLeft_14 N ρ this a1 N 0 0 σ
set_option maxRecDepth 100000 in
set_option maxHeartbeats 4000000 in
theorem w_X6_mostLeft_48 {N : Nat} {Γ : SG} {ρ : Nat → Nat → Nat} (hs : Sh Γ ρ) {this : Nat} {a1 : Int32} (h0 : Γ[this]? = some (0, 6)) {n0 : Nat} {r : Int32} {σr : St} (x2 : Int32) (σ : St) (hf : f_X6_mostLeft_48 N ρ this a1 x2 σ = some (r, σr)) : Go mX6_mostLeft 1 0 0 n0 (Ki Γ ρ r σr) 0 0 48 [none, none, some (.int x2), none] [] (hp Γ ρ σ) := by
  unfold f_X6_mostLeft_48 at hf
  refine go_iload_n 2 dX6_mostLeft_48 rfl rfl ?_
  cases hf
  exact go_iret rfl dX6_mostLeft_49 (Nat.le_refl _) ⟨rfl, rfl⟩
set_option maxRecDepth 100000 in
set_option maxHeartbeats 4000000 in
theorem v_X6_mostLeft_14 {N : Nat} {Γ : SG} {ρ : Nat → Nat → Nat} (hs : Sh Γ ρ) {this : Nat} {a1 : Int32} (h0 : Γ[this]? = some (0, 6)) {n0 : Nat} {r : Int32} {σr : St} (rec14 : Int32 → Int32 → St → Option (Int32 × St)) (hrec14 : ∀ (x2 : Int32) (x3 : Int32) (σ : St), rec14 x2 x3 σ = some (r, σr) → Go mX6_mostLeft 1 0 0 n0 (Ki Γ ρ r σr) 0 0 14 [some (.ref this), some (.int a1), some (.int x2), some (.int x3)] [] (hp Γ ρ σ)) (x2 : Int32) (x3 : Int32) (σ : St) (hf : b_X6_mostLeft_14 N ρ this a1 rec14 x2 x3 σ = some (r, σr)) : Go mX6_mostLeft 1 0 0 n0 (Ki Γ ρ r σr) 0 0 14 [some (.ref this), some (.int a1), some (.int x2), some (.int x3)] [] (hp Γ ρ σ) := by
  unfold b_X6_mostLeft_14 at hf
  refine go_iload_n 3 dX6_mostLeft_14 rfl rfl ?_
  refine go_aload_n 0 dX6_mostLeft_15 rfl rfl ?_
  refine go_fR fl_X6_54 dX6_mostLeft_16 h0 (by decide) rfl ?_
  refine go_iload_n 1 dX6_mostLeft_19 rfl rfl ?_
  refine go_iconst 1 dX6_mostLeft_20 (by decide) ?_
  refine go_isub dX6_mostLeft_21 ?_
  obtain ⟨g1, hf⟩ := gd_some hf
  refine go_rR dX6_mostLeft_22 (hs.1 _ 6 12 h0 rfl) (ib_in g1) ?_
  refine go_len dX6_mostLeft_23 (sh_in hs (hs.1 _ 6 12 h0 rfl) g1) (by decide) ?_
  refine go_icmp_ge 48 dX6_mostLeft_24 (by decide) (fun c2 => ?_) (fun c2 => ?_)
  · replace hf := (if_pos c2).symm.trans hf
    refine go_msk [false, false, true, false] [none, none, some (.int x2), none] rfl ?_
    exact w_X6_mostLeft_48 hs h0 x2 σ hf
  · replace hf := (if_neg c2).symm.trans hf
    refine go_iload_n 2 dX6_mostLeft_27 rfl rfl ?_
    refine go_aload_n 0 dX6_mostLeft_28 rfl rfl ?_
    refine go_fR fl_X6_54 dX6_mostLeft_29 h0 (by decide) rfl ?_
    refine go_iload_n 1 dX6_mostLeft_32 rfl rfl ?_
    refine go_iconst 1 dX6_mostLeft_33 (by decide) ?_
    refine go_isub dX6_mostLeft_34 ?_
    obtain ⟨g3, hf⟩ := gd_some hf
    refine go_rR dX6_mostLeft_35 (hs.1 _ 6 12 h0 rfl) (ib_in g3) ?_
    refine go_iload_n 3 dX6_mostLeft_36 rfl rfl ?_
    obtain ⟨g4, hf⟩ := gd_some hf
    refine go_rI dX6_mostLeft_37 (sh_in hs (hs.1 _ 6 12 h0 rfl) g3) (ib_in g4) ?_
    refine go_mmax ml_X6_96 dX6_mostLeft_38 (by decide) (Nat.le_refl _) (Nat.le_refl _) (Nat.le_of_ble_eq_true rfl) ?_
    obtain ⟨y5, ey5, hf⟩ := nmd_some hf
    refine go_nm ey5 ?_
    refine go_istore_n 2 [some (.ref this), some (.int a1), some (.int y5), some (.int x3)] dX6_mostLeft_41 rfl (by decide) rfl ?_
    refine go_iinc (x3 + 1) [some (.ref this), some (.int a1), some (.int y5), some (.int (x3 + 1))] dX6_mostLeft_42 rfl rfl (by decide) rfl ?_
    refine go_goto 14 dX6_mostLeft_45 (by decide) ?_
    exact hrec14 y5 (x3 + 1) σ hf
theorem w_X6_mostLeft_14 {N : Nat} {Γ : SG} {ρ : Nat → Nat → Nat} (hs : Sh Γ ρ) {this : Nat} {a1 : Int32} (h0 : Γ[this]? = some (0, 6)) {n0 : Nat} {r : Int32} {σr : St} : ∀ (n : Nat) (x2 : Int32) (x3 : Int32) (σ : St), f_X6_mostLeft_14 N ρ this a1 n x2 x3 σ = some (r, σr) → Go mX6_mostLeft 1 0 0 n0 (Ki Γ ρ r σr) 0 0 14 [some (.ref this), some (.int a1), some (.int x2), some (.int x3)] [] (hp Γ ρ σ) := by
  intro n
  induction n with
  | zero => intro x2 x3 σ hf; cases hf
  | succ n ih => intro x2 x3 σ hf; exact v_X6_mostLeft_14 hs h0 _ ih x2 x3 σ hf
set_option maxRecDepth 100000 in
set_option maxHeartbeats 4000000 in
theorem t_X6_mostLeft {N : Nat} {Γ : SG} {ρ : Nat → Nat → Nat} (hs : Sh Γ ρ) {this : Nat} {a1 : Int32} (h0 : Γ[this]? = some (0, 6)) {σ : St} {r : Int32} {σr : St} (hf : f_X6_mostLeft N ρ this a1 σ = some (r, σr)) : Tri mX6_mostLeft 1 0 0 [.ref this, .int a1] (hp Γ ρ σ) (Ki Γ ρ r σr) := by
  unfold f_X6_mostLeft at hf
  refine tri_of [some (.ref this), some (.int a1), none, none] (plainFor_of_name rfl) rfl (Nat.le_of_ble_eq_true rfl) ?_
  refine go_iconst 0 dX6_mostLeft_0 (by decide) ?_
  refine go_istore_n 2 [some (.ref this), some (.int a1), some (.int 0), none] dX6_mostLeft_1 rfl (by decide) rfl ?_
  refine go_iload_n 1 dX6_mostLeft_2 rfl rfl ?_
  refine go_iconst 1 dX6_mostLeft_3 (by decide) ?_
  refine go_icmp_lt 48 dX6_mostLeft_4 (by decide) (fun c6 => ?_) (fun c6 => ?_)
  · replace hf := (if_pos c6).symm.trans hf
    refine go_msk [false, false, true, false] [none, none, some (.int 0), none] rfl ?_
    exact w_X6_mostLeft_48 hs h0 0 σ hf
  · replace hf := (if_neg c6).symm.trans hf
    refine go_iload_n 1 dX6_mostLeft_7 rfl rfl ?_
    refine go_iconst 3 dX6_mostLeft_8 (by decide) ?_
    refine go_icmp_gt 48 dX6_mostLeft_9 (by decide) (fun c7 => ?_) (fun c7 => ?_)
    · replace hf := (if_pos c7).symm.trans hf
      refine go_msk [false, false, true, false] [none, none, some (.int 0), none] rfl ?_
      exact w_X6_mostLeft_48 hs h0 0 σ hf
    · replace hf := (if_neg c7).symm.trans hf
      refine go_iconst 0 dX6_mostLeft_12 (by decide) ?_
      refine go_istore_n 3 [some (.ref this), some (.int a1), some (.int 0), some (.int 0)] dX6_mostLeft_13 rfl (by decide) rfl ?_
      exact w_X6_mostLeft_14 hs h0 N 0 0 σ hf
