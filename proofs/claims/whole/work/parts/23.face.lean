def f_X11_feed (N : Nat) (ρ : Nat → Nat → Nat) (this : Nat) (a1 : Int32) (a2 : Int32) (a3 : Int32) (a4 : Int32) (a5 : Int32) (σ : St) : Option (Int32 × St) :=
  bnd (f_X10_hasRoomFor N ρ (ρ this 0) 20 σ) fun r1 σ2 =>
  if (r1 : Int32) = 0 then
    some ((-1), σ2)
  else
    bnd (f_X10_put N ρ (ρ this 0) a1 σ2) fun _ σ6 =>
    bnd (f_X10_put N ρ (ρ this 0) a2 σ6) fun _ σ9 =>
    bnd (f_X10_put N ρ (ρ this 0) a3 σ9) fun _ σ12 =>
    bnd (f_X10_put N ρ (ρ this 0) a4 σ12) fun _ σ15 =>
    bnd (f_X10_put N ρ (ρ this 0) a5 σ15) fun _ σ18 =>
    some (σ18.1 (ρ this 0) 1, σ18)
set_option maxRecDepth 100000 in
set_option maxHeartbeats 4000000 in
theorem t_X11_feed {N : Nat} {Γ : SG} {ρ : Nat → Nat → Nat} (hs : Sh Γ ρ) {this : Nat} {a1 : Int32} {a2 : Int32} {a3 : Int32} {a4 : Int32} {a5 : Int32} (h0 : Γ[this]? = some (0, 11)) {σ : St} {r : Int32} {σr : St} (hf : f_X11_feed N ρ this a1 a2 a3 a4 a5 σ = some (r, σr)) : Tri mX11_feed 1 0 0 [.ref this, .int a1, .int a2, .int a3, .int a4, .int a5] (hp Γ ρ σ) (Ki Γ ρ r σr) := by
  unfold f_X11_feed at hf
  refine tri_of [some (.ref this), some (.int a1), some (.int a2), some (.int a3), some (.int a4), some (.int a5)] (plainFor_of_name rfl) rfl (Nat.le_of_ble_eq_true rfl) ?_
  refine go_aload_n 0 dX11_feed_0 rfl rfl ?_
  refine go_fR fl_X11_26 dX11_feed_1 h0 (by decide) rfl ?_
  refine go_bipush 20 dX11_feed_4 (by decide) ?_
  obtain ⟨r1, σ2, q3, hf⟩ := bnd_some hf
  refine go_Vi (av := [.int 20]) (rest := []) (t_X10_hasRoomFor hs (hs.1 _ 11 0 h0 rfl) q3) ok_X10_hasRoomFor ml_X11_106 dX11_feed_6 (hs.1 _ 11 0 h0 rfl) rfl rfl (by decide) (Nat.le_refl _) (Nat.le_refl _) (Nat.le_of_ble_eq_true rfl) ?_
  refine go_if_ne 14 dX11_feed_9 (by decide) (fun c4 => ?_) (fun c4 => ?_)
  · replace hf := (if_neg c4).symm.trans hf
    refine go_aload_n 0 dX11_feed_14 rfl rfl ?_
    refine go_fR fl_X11_26 dX11_feed_15 h0 (by decide) rfl ?_
    refine go_iload_n 1 dX11_feed_18 rfl rfl ?_
    obtain ⟨r5, σ6, q7, hf⟩ := bnd_some hf
    refine go_Vv (av := [.int a1]) (rest := []) (t_X10_put hs (hs.1 _ 11 0 h0 rfl) q7) ok_X10_put ml_X11_112 dX11_feed_19 (hs.1 _ 11 0 h0 rfl) rfl rfl (by decide) (Nat.le_refl _) (Nat.le_refl _) (Nat.le_of_ble_eq_true rfl) ?_
    refine go_aload_n 0 dX11_feed_22 rfl rfl ?_
    refine go_fR fl_X11_26 dX11_feed_23 h0 (by decide) rfl ?_
    refine go_iload_n 2 dX11_feed_26 rfl rfl ?_
    obtain ⟨r8, σ9, q10, hf⟩ := bnd_some hf
    refine go_Vv (av := [.int a2]) (rest := []) (t_X10_put hs (hs.1 _ 11 0 h0 rfl) q10) ok_X10_put ml_X11_112 dX11_feed_27 (hs.1 _ 11 0 h0 rfl) rfl rfl (by decide) (Nat.le_refl _) (Nat.le_refl _) (Nat.le_of_ble_eq_true rfl) ?_
    refine go_aload_n 0 dX11_feed_30 rfl rfl ?_
    refine go_fR fl_X11_26 dX11_feed_31 h0 (by decide) rfl ?_
    refine go_iload_n 3 dX11_feed_34 rfl rfl ?_
    obtain ⟨r11, σ12, q13, hf⟩ := bnd_some hf
    refine go_Vv (av := [.int a3]) (rest := []) (t_X10_put hs (hs.1 _ 11 0 h0 rfl) q13) ok_X10_put ml_X11_112 dX11_feed_35 (hs.1 _ 11 0 h0 rfl) rfl rfl (by decide) (Nat.le_refl _) (Nat.le_refl _) (Nat.le_of_ble_eq_true rfl) ?_
    refine go_aload_n 0 dX11_feed_38 rfl rfl ?_
    refine go_fR fl_X11_26 dX11_feed_39 h0 (by decide) rfl ?_
    refine go_iload dX11_feed_42 rfl ?_
    obtain ⟨r14, σ15, q16, hf⟩ := bnd_some hf
    refine go_Vv (av := [.int a4]) (rest := []) (t_X10_put hs (hs.1 _ 11 0 h0 rfl) q16) ok_X10_put ml_X11_112 dX11_feed_44 (hs.1 _ 11 0 h0 rfl) rfl rfl (by decide) (Nat.le_refl _) (Nat.le_refl _) (Nat.le_of_ble_eq_true rfl) ?_
    refine go_aload_n 0 dX11_feed_47 rfl rfl ?_
    refine go_fR fl_X11_26 dX11_feed_48 h0 (by decide) rfl ?_
    refine go_iload dX11_feed_51 rfl ?_
    obtain ⟨r17, σ18, q19, hf⟩ := bnd_some hf
    refine go_Vv (av := [.int a5]) (rest := []) (t_X10_put hs (hs.1 _ 11 0 h0 rfl) q19) ok_X10_put ml_X11_112 dX11_feed_53 (hs.1 _ 11 0 h0 rfl) rfl rfl (by decide) (Nat.le_refl _) (Nat.le_refl _) (Nat.le_of_ble_eq_true rfl) ?_
    refine go_aload_n 0 dX11_feed_56 rfl rfl ?_
    refine go_fR fl_X11_26 dX11_feed_57 h0 (by decide) rfl ?_
    refine go_fI fl_X11_116 dX11_feed_60 (hs.1 _ 11 0 h0 rfl) (by decide) rfl ?_
    cases hf
    exact go_iret rfl dX11_feed_63 (Nat.le_refl _) ⟨rfl, rfl⟩
  · replace hf := (if_pos c4).symm.trans hf
    refine go_iconst (-1) dX11_feed_12 (by decide) ?_
    cases hf
    exact go_iret rfl dX11_feed_13 (Nat.le_refl _) ⟨rfl, rfl⟩
def f_X11_end_15 (N : Nat) (ρ : Nat → Nat → Nat) (this : Nat) (a1 : Int32) (σ : St) : Option (Int32 × St) :=
  some ((-1), σ)
def f_X11_end (N : Nat) (ρ : Nat → Nat → Nat) (this : Nat) (a1 : Int32) (σ : St) : Option (Int32 × St) :=
  if (a1 : Int32) < 0 then
    f_X11_end_15 N ρ this a1 σ
  else
    if (a1 : Int32) ≤ (σ.1 (ρ this 0) 1) then
      nmd (sI σ (ρ this 0) 1 a1) fun σ3 =>
      some (a1, σ3)
    else
      f_X11_end_15 N ρ this a1 σ
set_option maxRecDepth 100000 in
set_option maxHeartbeats 4000000 in
theorem w_X11_end_15 {N : Nat} {Γ : SG} {ρ : Nat → Nat → Nat} (hs : Sh Γ ρ) {this : Nat} {a1 : Int32} (h0 : Γ[this]? = some (0, 11)) {n0 : Nat} {r : Int32} {σr : St} (σ : St) (hf : f_X11_end_15 N ρ this a1 σ = some (r, σr)) : Go mX11_end 0 0 0 n0 (Ki Γ ρ r σr) 0 0 15 [none, none] [] (hp Γ ρ σ) := by
  unfold f_X11_end_15 at hf
  refine go_iconst (-1) dX11_end_15 (by decide) ?_
  cases hf
  exact go_iret rfl dX11_end_16 (Nat.le_refl _) ⟨rfl, rfl⟩
set_option maxRecDepth 100000 in
set_option maxHeartbeats 4000000 in
theorem t_X11_end {N : Nat} {Γ : SG} {ρ : Nat → Nat → Nat} (hs : Sh Γ ρ) {this : Nat} {a1 : Int32} (h0 : Γ[this]? = some (0, 11)) {σ : St} {r : Int32} {σr : St} (hf : f_X11_end N ρ this a1 σ = some (r, σr)) : Tri mX11_end 0 0 0 [.ref this, .int a1] (hp Γ ρ σ) (Ki Γ ρ r σr) := by
  unfold f_X11_end at hf
  refine tri_of [some (.ref this), some (.int a1)] (plainFor_of_name rfl) rfl (Nat.le_of_ble_eq_true rfl) ?_
  refine go_iload_n 1 dX11_end_0 rfl rfl ?_
  refine go_if_lt 15 dX11_end_1 (by decide) (fun c1 => ?_) (fun c1 => ?_)
  · replace hf := (if_pos c1).symm.trans hf
    refine go_msk [false, false] [none, none] rfl ?_
    exact w_X11_end_15 hs h0 σ hf
  · replace hf := (if_neg c1).symm.trans hf
    refine go_iload_n 1 dX11_end_4 rfl rfl ?_
    refine go_aload_n 0 dX11_end_5 rfl rfl ?_
    refine go_fR fl_X11_26 dX11_end_6 h0 (by decide) rfl ?_
    refine go_fI fl_X11_116 dX11_end_9 (hs.1 _ 11 0 h0 rfl) (by decide) rfl ?_
    refine go_icmp_le 17 dX11_end_12 (by decide) (fun c2 => ?_) (fun c2 => ?_)
    · replace hf := (if_pos c2).symm.trans hf
      refine go_aload_n 0 dX11_end_17 rfl rfl ?_
      refine go_fR fl_X11_26 dX11_end_18 h0 (by decide) rfl ?_
      refine go_iload_n 1 dX11_end_21 rfl rfl ?_
      obtain ⟨σ3, eσ3, hf⟩ := nmd_some hf
      refine go_pI fl_X11_116 ft_10_1 (okv_i _) dX11_end_22 (hs.1 _ 11 0 h0 rfl) (by decide) rfl ?_
      rw [eσ3]
      refine go_iload_n 1 dX11_end_25 rfl rfl ?_
      cases hf
      exact go_iret rfl dX11_end_26 (Nat.le_refl _) ⟨rfl, rfl⟩
    · replace hf := (if_neg c2).symm.trans hf
      refine go_msk [false, false] [none, none] rfl ?_
      exact w_X11_end_15 hs h0 σ hf
def b_X11_chapel_108 (N : Nat) (ρ : Nat → Nat → Nat) (this : Nat) (rec108 : Int32 → St → Option (Int32 × St)) (x3 : Int32) (σ : St) : Option (Int32 × St) :=
  if 3 ≤ (x3 : Int32) then
    some (σ.1 (ρ this 2) 12, σ)
  else
    gd (ib x3 3) <|
    nmd (sI σ (ρ this 8) x3.toNatClampNeg (vp_nar .boolean 0)) fun σ3 =>
    rec108 (x3 + 1) σ3
def f_X11_chapel_108 (N : Nat) (ρ : Nat → Nat → Nat) (this : Nat) : Nat → Int32 → St → Option (Int32 × St)
  | 0, _, _ => none
  | n + 1, x3, σ => b_X11_chapel_108 N ρ this (f_X11_chapel_108 N ρ this n) x3 σ
def f_X11_chapel (N : Nat) (ρ : Nat → Nat → Nat) (this : Nat) (σ : St) : Option (Int32 × St) :=
  bnd (f_X7_readInto N ρ (ρ this 1) (ρ this 3) σ) fun r4 σ5 =>
  nmd (sI σ5 (ρ this 0) 1 0) fun σ7 =>
  nmd (sI σ7 this 15 (σ7.1 (ρ (ρ this 1) 1) 7)) fun σ8 =>
  nmd (sI σ8 this 16 (σ8.1 (ρ (ρ this 1) 1) 8)) fun σ9 =>
  if (r4 : Int32) = 0 then
    some ((-1), σ9)
  else
    nmd (sR ρ this 2 (ρ this 3)) fun ρ11 =>
    nmd (sR ρ11 this 3 (ρ this 2)) fun ρ12 =>
    bnd (f_X9_begin N ρ12 (ρ12 this 4) (ρ12 this 2) σ9) fun _ σ14 =>
    bnd (f_X4_begin N ρ12 (ρ12 this 6) (ρ12 this 4) σ14) fun _ σ17 =>
    bnd (f_X6_forget N ρ12 (ρ12 this 11) σ17) fun _ σ20 =>
    nmd (sI σ20 this 14 0) fun σ22 =>
    gdr (f_X11_chapel_108 N ρ12 this N 0 σ22)
set_option maxRecDepth 100000 in
set_option maxHeartbeats 4000000 in
theorem v_X11_chapel_108 {N : Nat} {Γ : SG} {ρ : Nat → Nat → Nat} (hs : Sh Γ ρ) {this : Nat} (h0 : Γ[this]? = some (0, 11)) {n0 : Nat} {r : Int32} {σr : St} (rec108 : Int32 → St → Option (Int32 × St)) (hrec108 : ∀ (x3 : Int32) (σ : St), rec108 x3 σ = some (r, σr) → Go mX11_chapel 804 0 0 n0 (Ki Γ ρ r σr) 0 0 108 [some (.ref this), none, none, some (.int x3)] [] (hp Γ ρ σ)) (x3 : Int32) (σ : St) (hf : b_X11_chapel_108 N ρ this rec108 x3 σ = some (r, σr)) : Go mX11_chapel 804 0 0 n0 (Ki Γ ρ r σr) 0 0 108 [some (.ref this), none, none, some (.int x3)] [] (hp Γ ρ σ) := by
  unfold b_X11_chapel_108 at hf
  refine go_iload_n 3 dX11_chapel_108 rfl rfl ?_
  refine go_iconst 3 dX11_chapel_109 (by decide) ?_
  refine go_icmp_ge 126 dX11_chapel_110 (by decide) (fun c1 => ?_) (fun c1 => ?_)
  · replace hf := (if_pos c1).symm.trans hf
    refine go_aload_n 0 dX11_chapel_126 rfl rfl ?_
    refine go_fR fl_X11_30 dX11_chapel_127 h0 (by decide) rfl ?_
    refine go_fI fl_X11_132 dX11_chapel_130 (hs.1 _ 11 2 h0 rfl) (by decide) rfl ?_
    cases hf
    exact go_iret rfl dX11_chapel_133 (Nat.le_refl _) ⟨rfl, rfl⟩
  · replace hf := (if_neg c1).symm.trans hf
    refine go_aload_n 0 dX11_chapel_113 rfl rfl ?_
    refine go_fR fl_X11_58 dX11_chapel_114 h0 (by decide) rfl ?_
    refine go_iload_n 3 dX11_chapel_117 rfl rfl ?_
    refine go_iconst 0 dX11_chapel_118 (by decide) ?_
    obtain ⟨g2, hf⟩ := gd_some hf
    obtain ⟨σ3, eσ3, hf⟩ := nmd_some hf
    refine go_wZ dX11_chapel_119 (hs.1 _ 11 8 h0 rfl) (ib_in g2) ?_
    rw [eσ3]
    refine go_iinc (x3 + 1) [some (.ref this), none, none, some (.int (x3 + 1))] dX11_chapel_120 rfl rfl (by decide) rfl ?_
    refine go_goto 108 dX11_chapel_123 (by decide) ?_
    exact hrec108 (x3 + 1) σ3 hf
theorem w_X11_chapel_108 {N : Nat} {Γ : SG} {ρ : Nat → Nat → Nat} (hs : Sh Γ ρ) {this : Nat} (h0 : Γ[this]? = some (0, 11)) {n0 : Nat} {r : Int32} {σr : St} : ∀ (n : Nat) (x3 : Int32) (σ : St), f_X11_chapel_108 N ρ this n x3 σ = some (r, σr) → Go mX11_chapel 804 0 0 n0 (Ki Γ ρ r σr) 0 0 108 [some (.ref this), none, none, some (.int x3)] [] (hp Γ ρ σ) := by
  intro n
  induction n with
  | zero => intro x3 σ hf; cases hf
  | succ n ih => intro x3 σ hf; exact v_X11_chapel_108 hs h0 _ ih x3 σ hf
set_option maxRecDepth 100000 in
set_option maxHeartbeats 4000000 in
theorem t_X11_chapel {N : Nat} {Γ : SG} {ρ : Nat → Nat → Nat} (hs : Sh Γ ρ) {this : Nat} (h0 : Γ[this]? = some (0, 11)) {σ : St} {r : Int32} {σr : St} (hf : f_X11_chapel N ρ this σ = some (r, σr)) : Tri mX11_chapel 804 0 0 [.ref this] (hp Γ ρ σ) (Kc Γ ρ this r σr) := by
  unfold f_X11_chapel at hf
  refine tri_of [some (.ref this), none, none, none] (plainFor_of_name rfl) rfl (Nat.le_of_ble_eq_true rfl) ?_
  refine go_aload_n 0 dX11_chapel_0 rfl rfl ?_
  refine go_fR fl_X11_10 dX11_chapel_1 h0 (by decide) rfl ?_
  refine go_aload_n 0 dX11_chapel_4 rfl rfl ?_
  refine go_fR fl_X11_34 dX11_chapel_5 h0 (by decide) rfl ?_
  obtain ⟨r4, σ5, q6, hf⟩ := bnd_some hf
  refine go_Vi (av := [.ref (ρ this 3)]) (rest := []) (t_X7_readInto hs (hs.1 _ 11 1 h0 rfl) (hs.1 _ 11 3 h0 rfl) q6) ok_X7_readInto ml_X11_119 dX11_chapel_8 (hs.1 _ 11 1 h0 rfl) rfl rfl (by decide) (Nat.le_refl _) (Nat.le_refl _) (Nat.le_of_ble_eq_true rfl) ?_
  refine go_istore_n 1 [some (.ref this), some (.int r4), none, none] dX11_chapel_11 rfl (by decide) rfl ?_
  refine go_aload_n 0 dX11_chapel_12 rfl rfl ?_
  refine go_fR fl_X11_26 dX11_chapel_13 h0 (by decide) rfl ?_
  refine go_iconst 0 dX11_chapel_16 (by decide) ?_
  obtain ⟨σ7, eσ7, hf⟩ := nmd_some hf
  refine go_pI fl_X11_116 ft_10_1 (okv_i _) dX11_chapel_17 (hs.1 _ 11 0 h0 rfl) (by decide) rfl ?_
  rw [eσ7]
  refine go_aload_n 0 dX11_chapel_20 rfl rfl ?_
  refine go_aload_n 0 dX11_chapel_21 rfl rfl ?_
  refine go_fR fl_X11_10 dX11_chapel_22 h0 (by decide) rfl ?_
  refine go_fR fl_X11_16 dX11_chapel_25 (hs.1 _ 11 1 h0 rfl) (by decide) rfl ?_
  refine go_fI fl_X11_123 dX11_chapel_28 (hs.1 _ 7 1 (hs.1 _ 11 1 h0 rfl) rfl) (by decide) rfl ?_
  obtain ⟨σ8, eσ8, hf⟩ := nmd_some hf
  refine go_pI fl_X11_93 ft_11_15 (okv_i _) dX11_chapel_31 h0 (by decide) rfl ?_
  rw [eσ8]
  refine go_aload_n 0 dX11_chapel_34 rfl rfl ?_
  refine go_aload_n 0 dX11_chapel_35 rfl rfl ?_
  refine go_fR fl_X11_10 dX11_chapel_36 h0 (by decide) rfl ?_
  refine go_fR fl_X11_16 dX11_chapel_39 (hs.1 _ 11 1 h0 rfl) (by decide) rfl ?_
  refine go_fI fl_X11_126 dX11_chapel_42 (hs.1 _ 7 1 (hs.1 _ 11 1 h0 rfl) rfl) (by decide) rfl ?_
  obtain ⟨σ9, eσ9, hf⟩ := nmd_some hf
  refine go_pI fl_X11_96 ft_11_16 (okv_i _) dX11_chapel_45 h0 (by decide) rfl ?_
  rw [eσ9]
  refine go_iload_n 1 dX11_chapel_48 rfl rfl ?_
  refine go_if_ne 54 dX11_chapel_49 (by decide) (fun c10 => ?_) (fun c10 => ?_)
  · replace hf := (if_neg c10).symm.trans hf
    refine go_aload_n 0 dX11_chapel_54 rfl rfl ?_
    refine go_fR fl_X11_30 dX11_chapel_55 h0 (by decide) rfl ?_
    refine go_astore_n 2 [some (.ref this), some (.int r4), some (.ref (ρ this 2)), none] dX11_chapel_58 rfl (by decide) rfl ?_
    refine go_aload_n 0 dX11_chapel_59 rfl rfl ?_
    refine go_aload_n 0 dX11_chapel_60 rfl rfl ?_
    refine go_fR fl_X11_34 dX11_chapel_61 h0 (by decide) rfl ?_
    obtain ⟨ρ11, eρ11, hf⟩ := nmd_some hf
    refine go_pR fl_X11_30 ft_11_2 dX11_chapel_64 h0 (by decide) rfl ?_
    have hρ11 : Sh Γ ρ11 := eρ11 ▸ sh_put hs h0 (hs.1 _ 11 3 h0 rfl)
    rw [eρ11]
    refine go_aload_n 0 dX11_chapel_67 rfl rfl ?_
    refine go_aload_n 2 dX11_chapel_68 rfl rfl ?_
    obtain ⟨ρ12, eρ12, hf⟩ := nmd_some hf
    refine go_pR fl_X11_34 ft_11_3 dX11_chapel_69 h0 (by decide) rfl ?_
    have hρ12 : Sh Γ ρ12 := eρ12 ▸ sh_put hρ11 h0 (hs.1 _ 11 2 h0 rfl)
    rw [eρ12]
    refine go_aload_n 0 dX11_chapel_72 rfl rfl ?_
    refine go_fR fl_X11_40 dX11_chapel_73 h0 (by decide) rfl ?_
    refine go_aload_n 0 dX11_chapel_76 rfl rfl ?_
    refine go_fR fl_X11_30 dX11_chapel_77 h0 (by decide) rfl ?_
    obtain ⟨r13, σ14, q15, hf⟩ := bnd_some hf
    refine go_Vv (av := [.ref (ρ12 this 2)]) (rest := []) (t_X9_begin hρ12 (hρ12.1 _ 11 4 h0 rfl) (hρ12.1 _ 11 2 h0 rfl) q15) ok_X9_begin ml_X11_99 dX11_chapel_80 (hρ12.1 _ 11 4 h0 rfl) rfl rfl (by decide) (Nat.le_refl _) (Nat.le_refl _) (Nat.le_of_ble_eq_true rfl) ?_
    refine go_aload_n 0 dX11_chapel_83 rfl rfl ?_
    refine go_fR fl_X11_50 dX11_chapel_84 h0 (by decide) rfl ?_
    refine go_aload_n 0 dX11_chapel_87 rfl rfl ?_
    refine go_fR fl_X11_40 dX11_chapel_88 h0 (by decide) rfl ?_
    obtain ⟨r16, σ17, q18, hf⟩ := bnd_some hf
    refine go_Vv (av := [.ref (ρ12 this 4)]) (rest := []) (t_X4_begin hρ12 (hρ12.1 _ 11 6 h0 rfl) (hρ12.1 _ 11 4 h0 rfl) q18) ok_X4_begin ml_X11_103 dX11_chapel_91 (hρ12.1 _ 11 6 h0 rfl) rfl rfl (by decide) (Nat.le_refl _) (Nat.le_refl _) (Nat.le_of_ble_eq_true rfl) ?_
    refine go_aload_n 0 dX11_chapel_94 rfl rfl ?_
    refine go_fR fl_X11_79 dX11_chapel_95 h0 (by decide) rfl ?_
    obtain ⟨r19, σ20, q21, hf⟩ := bnd_some hf
    refine go_Vv (av := []) (rest := []) (t_X6_forget hρ12 (hρ12.1 _ 11 11 h0 rfl) q21) ok_X6_forget ml_X11_129 dX11_chapel_98 (hρ12.1 _ 11 11 h0 rfl) rfl rfl (by decide) (Nat.le_refl _) (Nat.le_refl _) (Nat.le_of_ble_eq_true rfl) ?_
    refine go_aload_n 0 dX11_chapel_101 rfl rfl ?_
    refine go_iconst 0 dX11_chapel_102 (by decide) ?_
    obtain ⟨σ22, eσ22, hf⟩ := nmd_some hf
    refine go_pI fl_X11_89 ft_11_14 (okv_i _) dX11_chapel_103 h0 (by decide) rfl ?_
    rw [eσ22]
    refine go_iconst 0 dX11_chapel_106 (by decide) ?_
    refine go_istore_n 3 [some (.ref this), some (.int r4), some (.ref (ρ this 2)), some (.int 0)] dX11_chapel_107 rfl (by decide) rfl ?_
    refine go_msk [true, false, false, true] [some (.ref this), none, none, some (.int 0)] rfl ?_
    obtain ⟨hne, hf⟩ := gdr_some hf
    refine go_mono (K := Ki Γ ρ12 r σr) (fun v μ h => ⟨h.1, by rw [if_neg hne, h.2]; subst_vars; rfl⟩) ?_
    exact w_X11_chapel_108 hρ12 h0 N 0 σ22 hf
  · replace hf := (if_pos c10).symm.trans hf
    refine go_iconst (-1) dX11_chapel_52 (by decide) ?_
    cases hf
    exact go_iret rfl dX11_chapel_53 (Nat.le_refl _) ⟨rfl, by rw [if_pos rfl]⟩
def f_X11_fault (N : Nat) (ρ : Nat → Nat → Nat) (this : Nat) (a1 : Int32) (σ : St) : Option (Int32 × St) :=
  if (a1 : Int32) = 0 then
    some (σ.1 this 15, σ)
  else
  if (a1 : Int32) = 1 then
    some (σ.1 this 16, σ)
  else
    some ((-1), σ)
set_option maxRecDepth 100000 in
set_option maxHeartbeats 4000000 in
theorem t_X11_fault {N : Nat} {Γ : SG} {ρ : Nat → Nat → Nat} (hs : Sh Γ ρ) {this : Nat} {a1 : Int32} (h0 : Γ[this]? = some (0, 11)) {σ : St} {r : Int32} {σr : St} (hf : f_X11_fault N ρ this a1 σ = some (r, σr)) : Tri mX11_fault 0 0 0 [.ref this, .int a1] (hp Γ ρ σ) (Ki Γ ρ r σr) := by
  unfold f_X11_fault at hf
  refine tri_of [some (.ref this), some (.int a1)] (plainFor_of_name rfl) rfl (Nat.le_of_ble_eq_true rfl) ?_
  refine go_iload_n 1 dX11_fault_0 rfl rfl ?_
  by_cases c1 : (a1 : Int32) = 0
  · replace hf := (if_pos c1).symm.trans hf
    refine go_lookup 28 dX11_fault_1 (by decide) (off := 27) (by rw [c1]; decide) (by decide) ?_
    refine go_aload_n 0 dX11_fault_28 rfl rfl ?_
    refine go_fI fl_X11_93 dX11_fault_29 h0 (by decide) rfl ?_
    cases hf
    exact go_iret rfl dX11_fault_32 (Nat.le_refl _) ⟨rfl, rfl⟩
  replace hf := (if_neg c1).symm.trans hf
  by_cases c2 : (a1 : Int32) = 1
  · replace hf := (if_pos c2).symm.trans hf
    refine go_lookup 33 dX11_fault_1 (by decide) (off := 32) (by rw [c2]; decide) (by decide) ?_
    refine go_aload_n 0 dX11_fault_33 rfl rfl ?_
    refine go_fI fl_X11_96 dX11_fault_34 h0 (by decide) rfl ?_
    cases hf
    exact go_iret rfl dX11_fault_37 (Nat.le_refl _) ⟨rfl, rfl⟩
  replace hf := (if_neg c2).symm.trans hf
  refine go_lookup 38 dX11_fault_1 (by decide) (off := 37) (by rw [lv_osw (k := 0) c1 (by decide)]; rw [lv_osw (k := 1) c2 (by decide)]; rfl) (by decide) ?_
  refine go_iconst (-1) dX11_fault_38 (by decide) ?_
  cases hf
  exact go_iret rfl dX11_fault_39 (Nat.le_refl _) ⟨rfl, rfl⟩
def f_X11_hearth_124 (N : Nat) (ρ : Nat → Nat → Nat) (this : Nat) (a1 : Int32) (a2 : Int32) (s0 : Int32) (σ : St) : Option (Int32 × St) :=
  some (s0, σ)
def f_X11_hearth (N : Nat) (ρ : Nat → Nat → Nat) (this : Nat) (a1 : Int32) (a2 : Int32) (σ : St) : Option (Int32 × St) :=
  bnd (f_X0_hasHearth N ρ (ρ this 2) a1 σ) fun r1 σ2 =>
  if (r1 : Int32) = 0 then
    some ((-1), σ2)
  else
    if (a2 : Int32) = 0 then
      gd (ib a1 6) <|
      some (σ2.1 (ρ (ρ this 2) 0) a1.toNatClampNeg, σ2)
    else
    if (a2 : Int32) = 1 then
      gd (ib a1 6) <|
      some (σ2.1 (ρ (ρ this 2) 1) a1.toNatClampNeg, σ2)
    else
    if (a2 : Int32) = 2 then
      gd (ib a1 6) <|
      some (σ2.1 (ρ (ρ this 2) 2) a1.toNatClampNeg, σ2)
    else
    if (a2 : Int32) = 3 then
      gd (ib a1 6) <|
      some (σ2.1 (ρ (ρ this 2) 3) a1.toNatClampNeg, σ2)
    else
    if (a2 : Int32) = 4 then
      bnd (f_X9_setAt N ρ (ρ this 4) a1 σ2) fun r14 σ15 =>
      some (r14, σ15)
    else
    if (a2 : Int32) = 5 then
      bnd (f_X9_setAt N ρ (ρ this 4) a1 σ2) fun r18 σ19 =>
      bnd (f_X0_quarrelIn N ρ (ρ this 2) r18 σ19) fun r21 σ22 =>
      if (r21 : Int32) = 0 then
        f_X11_hearth_124 N ρ this a1 a2 0 σ22
      else
        f_X11_hearth_124 N ρ this a1 a2 1 σ22
    else
      some ((-1), σ2)
set_option maxRecDepth 100000 in
set_option maxHeartbeats 4000000 in
theorem w_X11_hearth_124 {N : Nat} {Γ : SG} {ρ : Nat → Nat → Nat} (hs : Sh Γ ρ) {this : Nat} {a1 : Int32} {a2 : Int32} (h0 : Γ[this]? = some (0, 11)) {n0 : Nat} {r : Int32} {σr : St} (s0 : Int32) (σ : St) (hf : f_X11_hearth_124 N ρ this a1 a2 s0 σ = some (r, σr)) : Go mX11_hearth 1 0 0 n0 (Ki Γ ρ r σr) 0 0 124 [none, none, none] [.int s0] (hp Γ ρ σ) := by
  unfold f_X11_hearth_124 at hf
  cases hf
  exact go_iret rfl dX11_hearth_124 (Nat.le_refl _) ⟨rfl, rfl⟩
set_option maxRecDepth 100000 in
set_option maxHeartbeats 4000000 in
theorem t_X11_hearth {N : Nat} {Γ : SG} {ρ : Nat → Nat → Nat} (hs : Sh Γ ρ) {this : Nat} {a1 : Int32} {a2 : Int32} (h0 : Γ[this]? = some (0, 11)) {σ : St} {r : Int32} {σr : St} (hf : f_X11_hearth N ρ this a1 a2 σ = some (r, σr)) : Tri mX11_hearth 1 0 0 [.ref this, .int a1, .int a2] (hp Γ ρ σ) (Ki Γ ρ r σr) := by
  unfold f_X11_hearth at hf
  refine tri_of [some (.ref this), some (.int a1), some (.int a2)] (plainFor_of_name rfl) rfl (Nat.le_of_ble_eq_true rfl) ?_
  refine go_aload_n 0 dX11_hearth_0 rfl rfl ?_
  refine go_fR fl_X11_30 dX11_hearth_1 h0 (by decide) rfl ?_
  refine go_iload_n 1 dX11_hearth_4 rfl rfl ?_
  obtain ⟨r1, σ2, q3, hf⟩ := bnd_some hf
  refine go_Vi (av := [.int a1]) (rest := []) (t_X0_hasHearth hs (hs.1 _ 11 2 h0 rfl) q3) ok_X0_hasHearth ml_X11_135 dX11_hearth_5 (hs.1 _ 11 2 h0 rfl) rfl rfl (by decide) (Nat.le_refl _) (Nat.le_refl _) (Nat.le_of_ble_eq_true rfl) ?_
  refine go_if_ne 13 dX11_hearth_8 (by decide) (fun c4 => ?_) (fun c4 => ?_)
  · replace hf := (if_neg c4).symm.trans hf
    refine go_iload_n 2 dX11_hearth_13 rfl rfl ?_
    by_cases c5 : (a2 : Int32) = 0
    · replace hf := (if_pos c5).symm.trans hf
      refine go_tableIn 52 dX11_hearth_14 (by rw [c5]; decide) (by rw [c5]; decide) (by rw [c5]; rfl) (by decide) ?_
      refine go_aload_n 0 dX11_hearth_52 rfl rfl ?_
      refine go_fR fl_X11_30 dX11_hearth_53 h0 (by decide) rfl ?_
      refine go_fR fl_X11_138 dX11_hearth_56 (hs.1 _ 11 2 h0 rfl) (by decide) rfl ?_
      refine go_iload_n 1 dX11_hearth_59 rfl rfl ?_
      obtain ⟨g6, hf⟩ := gd_some hf
      refine go_rI dX11_hearth_60 (hs.1 _ 0 0 (hs.1 _ 11 2 h0 rfl) rfl) (ib_in g6) ?_
      cases hf
      exact go_iret rfl dX11_hearth_61 (Nat.le_refl _) ⟨rfl, rfl⟩
    replace hf := (if_neg c5).symm.trans hf
    by_cases c7 : (a2 : Int32) = 1
    · replace hf := (if_pos c7).symm.trans hf
      refine go_tableIn 62 dX11_hearth_14 (by rw [c7]; decide) (by rw [c7]; decide) (by rw [c7]; rfl) (by decide) ?_
      refine go_aload_n 0 dX11_hearth_62 rfl rfl ?_
      refine go_fR fl_X11_30 dX11_hearth_63 h0 (by decide) rfl ?_
      refine go_fR fl_X11_141 dX11_hearth_66 (hs.1 _ 11 2 h0 rfl) (by decide) rfl ?_
      refine go_iload_n 1 dX11_hearth_69 rfl rfl ?_
      obtain ⟨g8, hf⟩ := gd_some hf
      refine go_rI dX11_hearth_70 (hs.1 _ 0 1 (hs.1 _ 11 2 h0 rfl) rfl) (ib_in g8) ?_
      cases hf
      exact go_iret rfl dX11_hearth_71 (Nat.le_refl _) ⟨rfl, rfl⟩
    replace hf := (if_neg c7).symm.trans hf
    by_cases c9 : (a2 : Int32) = 2
    · replace hf := (if_pos c9).symm.trans hf
      refine go_tableIn 72 dX11_hearth_14 (by rw [c9]; decide) (by rw [c9]; decide) (by rw [c9]; rfl) (by decide) ?_
      refine go_aload_n 0 dX11_hearth_72 rfl rfl ?_
      refine go_fR fl_X11_30 dX11_hearth_73 h0 (by decide) rfl ?_
      refine go_fR fl_X11_144 dX11_hearth_76 (hs.1 _ 11 2 h0 rfl) (by decide) rfl ?_
      refine go_iload_n 1 dX11_hearth_79 rfl rfl ?_
      obtain ⟨g10, hf⟩ := gd_some hf
      refine go_rI dX11_hearth_80 (hs.1 _ 0 2 (hs.1 _ 11 2 h0 rfl) rfl) (ib_in g10) ?_
      cases hf
      exact go_iret rfl dX11_hearth_81 (Nat.le_refl _) ⟨rfl, rfl⟩
    replace hf := (if_neg c9).symm.trans hf
    by_cases c11 : (a2 : Int32) = 3
    · replace hf := (if_pos c11).symm.trans hf
      refine go_tableIn 82 dX11_hearth_14 (by rw [c11]; decide) (by rw [c11]; decide) (by rw [c11]; rfl) (by decide) ?_
      refine go_aload_n 0 dX11_hearth_82 rfl rfl ?_
      refine go_fR fl_X11_30 dX11_hearth_83 h0 (by decide) rfl ?_
      refine go_fR fl_X11_147 dX11_hearth_86 (hs.1 _ 11 2 h0 rfl) (by decide) rfl ?_
      refine go_iload_n 1 dX11_hearth_89 rfl rfl ?_
      obtain ⟨g12, hf⟩ := gd_some hf
      refine go_rI dX11_hearth_90 (hs.1 _ 0 3 (hs.1 _ 11 2 h0 rfl) rfl) (ib_in g12) ?_
      cases hf
      exact go_iret rfl dX11_hearth_91 (Nat.le_refl _) ⟨rfl, rfl⟩
    replace hf := (if_neg c11).symm.trans hf
    by_cases c13 : (a2 : Int32) = 4
    · replace hf := (if_pos c13).symm.trans hf
      refine go_tableIn 92 dX11_hearth_14 (by rw [c13]; decide) (by rw [c13]; decide) (by rw [c13]; rfl) (by decide) ?_
      refine go_aload_n 0 dX11_hearth_92 rfl rfl ?_
      refine go_fR fl_X11_40 dX11_hearth_93 h0 (by decide) rfl ?_
      refine go_iload_n 1 dX11_hearth_96 rfl rfl ?_
      obtain ⟨r14, σ15, q16, hf⟩ := bnd_some hf
      refine go_Vi (av := [.int a1]) (rest := []) (t_X9_setAt hs (hs.1 _ 11 4 h0 rfl) q16) ok_X9_setAt ml_X11_150 dX11_hearth_97 (hs.1 _ 11 4 h0 rfl) rfl rfl (by decide) (Nat.le_refl _) (Nat.le_refl _) (Nat.le_of_ble_eq_true rfl) ?_
      cases hf
      exact go_iret rfl dX11_hearth_100 (Nat.le_refl _) ⟨rfl, rfl⟩
    replace hf := (if_neg c13).symm.trans hf
    by_cases c17 : (a2 : Int32) = 5
    · replace hf := (if_pos c17).symm.trans hf
      refine go_tableIn 101 dX11_hearth_14 (by rw [c17]; decide) (by rw [c17]; decide) (by rw [c17]; rfl) (by decide) ?_
      refine go_aload_n 0 dX11_hearth_101 rfl rfl ?_
      refine go_fR fl_X11_30 dX11_hearth_102 h0 (by decide) rfl ?_
      refine go_aload_n 0 dX11_hearth_105 rfl rfl ?_
      refine go_fR fl_X11_40 dX11_hearth_106 h0 (by decide) rfl ?_
      refine go_iload_n 1 dX11_hearth_109 rfl rfl ?_
      obtain ⟨r18, σ19, q20, hf⟩ := bnd_some hf
      refine go_Vi (av := [.int a1]) (rest := [.ref (ρ this 2)]) (t_X9_setAt hs (hs.1 _ 11 4 h0 rfl) q20) ok_X9_setAt ml_X11_150 dX11_hearth_110 (hs.1 _ 11 4 h0 rfl) rfl rfl (by decide) (Nat.le_refl _) (Nat.le_refl _) (Nat.le_of_ble_eq_true rfl) ?_
      obtain ⟨r21, σ22, q23, hf⟩ := bnd_some hf
      refine go_Vi (av := [.int r18]) (rest := []) (t_X0_quarrelIn hs (hs.1 _ 11 2 h0 rfl) q23) ok_X0_quarrelIn ml_X11_154 dX11_hearth_113 (hs.1 _ 11 2 h0 rfl) rfl rfl (by decide) (Nat.le_refl _) (Nat.le_refl _) (Nat.le_of_ble_eq_true rfl) ?_
      refine go_if_eq 123 dX11_hearth_116 (by decide) (fun c24 => ?_) (fun c24 => ?_)
      · replace hf := (if_pos c24).symm.trans hf
        refine go_iconst 0 dX11_hearth_123 (by decide) ?_
        refine go_msk [false, false, false] [none, none, none] rfl ?_
        exact w_X11_hearth_124 hs h0 0 σ22 hf
      · replace hf := (if_neg c24).symm.trans hf
        refine go_iconst 1 dX11_hearth_119 (by decide) ?_
        refine go_goto 124 dX11_hearth_120 (by decide) ?_
        refine go_msk [false, false, false] [none, none, none] rfl ?_
        exact w_X11_hearth_124 hs h0 1 σ22 hf
    replace hf := (if_neg c17).symm.trans hf
    refine go_tableOut 125 dX11_hearth_14 (tab_out 0 5 [0, 1, 2, 3, 4, 5] (by decide) (by simp only [List.forall_mem_cons]; exact ⟨c5, c7, c9, c11, c13, c17, by simp⟩)) (by decide) ?_
    refine go_iconst (-1) dX11_hearth_125 (by decide) ?_
    cases hf
    exact go_iret rfl dX11_hearth_126 (Nat.le_refl _) ⟨rfl, rfl⟩
  · replace hf := (if_pos c4).symm.trans hf
    refine go_iconst (-1) dX11_hearth_11 (by decide) ?_
    cases hf
    exact go_iret rfl dX11_hearth_12 (Nat.le_refl _) ⟨rfl, rfl⟩
def f_X11_stool_136 (N : Nat) (ρ : Nat → Nat → Nat) (this : Nat) (a1 : Int32) (a2 : Int32) (s0 : Int32) (σ : St) : Option (Int32 × St) :=
  some (s0, σ)
def f_X11_stool (N : Nat) (ρ : Nat → Nat → Nat) (this : Nat) (a1 : Int32) (a2 : Int32) (σ : St) : Option (Int32 × St) :=
  bnd (f_X0_hasStool N ρ (ρ this 2) a1 σ) fun r1 σ2 =>
  if (r1 : Int32) = 0 then
    some ((-2), σ2)
  else
    if (a2 : Int32) = 0 then
      gd (ib a1 5) <|
      some (σ2.1 (ρ (ρ this 2) 4) a1.toNatClampNeg, σ2)
    else
    if (a2 : Int32) = 1 then
      gd (ib a1 5) <|
      some (σ2.1 (ρ (ρ this 4) 0) a1.toNatClampNeg, σ2)
    else
    if (a2 : Int32) = 2 then
      gd (ib a1 5) <|
      some (σ2.1 (ρ (ρ this 2) 6) a1.toNatClampNeg, σ2)
    else
    if (a2 : Int32) = 3 then
      gd (ib a1 5) <|
      some (σ2.1 (ρ (ρ this 4) 1) a1.toNatClampNeg, σ2)
    else
    if (a2 : Int32) = 4 then
      gd (ib a1 5) <|
      some (σ2.1 (ρ (ρ this 4) 2) a1.toNatClampNeg, σ2)
    else
    if (a2 : Int32) = 5 then
      gd (ib a1 5) <|
      some (σ2.1 (ρ (ρ this 4) 3) a1.toNatClampNeg, σ2)
    else
    if (a2 : Int32) = 6 then
      bnd (f_X9_isSaved N ρ (ρ this 4) (ρ this 2) a1 σ2) fun r18 σ19 =>
      if (r18 : Int32) = 0 then
        f_X11_stool_136 N ρ this a1 a2 0 σ19
      else
        f_X11_stool_136 N ρ this a1 a2 1 σ19
    else
      some ((-2), σ2)
set_option maxRecDepth 100000 in
set_option maxHeartbeats 4000000 in
theorem w_X11_stool_136 {N : Nat} {Γ : SG} {ρ : Nat → Nat → Nat} (hs : Sh Γ ρ) {this : Nat} {a1 : Int32} {a2 : Int32} (h0 : Γ[this]? = some (0, 11)) {n0 : Nat} {r : Int32} {σr : St} (s0 : Int32) (σ : St) (hf : f_X11_stool_136 N ρ this a1 a2 s0 σ = some (r, σr)) : Go mX11_stool 1 0 0 n0 (Ki Γ ρ r σr) 0 0 136 [none, none, none] [.int s0] (hp Γ ρ σ) := by
  unfold f_X11_stool_136 at hf
  cases hf
  exact go_iret rfl dX11_stool_136 (Nat.le_refl _) ⟨rfl, rfl⟩
set_option maxRecDepth 100000 in
set_option maxHeartbeats 4000000 in
theorem t_X11_stool {N : Nat} {Γ : SG} {ρ : Nat → Nat → Nat} (hs : Sh Γ ρ) {this : Nat} {a1 : Int32} {a2 : Int32} (h0 : Γ[this]? = some (0, 11)) {σ : St} {r : Int32} {σr : St} (hf : f_X11_stool N ρ this a1 a2 σ = some (r, σr)) : Tri mX11_stool 1 0 0 [.ref this, .int a1, .int a2] (hp Γ ρ σ) (Ki Γ ρ r σr) := by
  unfold f_X11_stool at hf
  refine tri_of [some (.ref this), some (.int a1), some (.int a2)] (plainFor_of_name rfl) rfl (Nat.le_of_ble_eq_true rfl) ?_
  refine go_aload_n 0 dX11_stool_0 rfl rfl ?_
  refine go_fR fl_X11_30 dX11_stool_1 h0 (by decide) rfl ?_
  refine go_iload_n 1 dX11_stool_4 rfl rfl ?_
  obtain ⟨r1, σ2, q3, hf⟩ := bnd_some hf
  refine go_Vi (av := [.int a1]) (rest := []) (t_X0_hasStool hs (hs.1 _ 11 2 h0 rfl) q3) ok_X0_hasStool ml_X11_157 dX11_stool_5 (hs.1 _ 11 2 h0 rfl) rfl rfl (by decide) (Nat.le_refl _) (Nat.le_refl _) (Nat.le_of_ble_eq_true rfl) ?_
  refine go_if_ne 14 dX11_stool_8 (by decide) (fun c4 => ?_) (fun c4 => ?_)
  · replace hf := (if_neg c4).symm.trans hf
    refine go_iload_n 2 dX11_stool_14 rfl rfl ?_
    by_cases c5 : (a2 : Int32) = 0
    · replace hf := (if_pos c5).symm.trans hf
      refine go_tableIn 56 dX11_stool_15 (by rw [c5]; decide) (by rw [c5]; decide) (by rw [c5]; rfl) (by decide) ?_
      refine go_aload_n 0 dX11_stool_56 rfl rfl ?_
      refine go_fR fl_X11_30 dX11_stool_57 h0 (by decide) rfl ?_
      refine go_fR fl_X11_160 dX11_stool_60 (hs.1 _ 11 2 h0 rfl) (by decide) rfl ?_
      refine go_iload_n 1 dX11_stool_63 rfl rfl ?_
      obtain ⟨g6, hf⟩ := gd_some hf
      refine go_rI dX11_stool_64 (hs.1 _ 0 4 (hs.1 _ 11 2 h0 rfl) rfl) (ib_in g6) ?_
      cases hf
      exact go_iret rfl dX11_stool_65 (Nat.le_refl _) ⟨rfl, rfl⟩
    replace hf := (if_neg c5).symm.trans hf
    by_cases c7 : (a2 : Int32) = 1
    · replace hf := (if_pos c7).symm.trans hf
      refine go_tableIn 66 dX11_stool_15 (by rw [c7]; decide) (by rw [c7]; decide) (by rw [c7]; rfl) (by decide) ?_
      refine go_aload_n 0 dX11_stool_66 rfl rfl ?_
      refine go_fR fl_X11_40 dX11_stool_67 h0 (by decide) rfl ?_
      refine go_fR fl_X11_163 dX11_stool_70 (hs.1 _ 11 4 h0 rfl) (by decide) rfl ?_
      refine go_iload_n 1 dX11_stool_73 rfl rfl ?_
      obtain ⟨g8, hf⟩ := gd_some hf
      refine go_rI dX11_stool_74 (hs.1 _ 9 0 (hs.1 _ 11 4 h0 rfl) rfl) (ib_in g8) ?_
      cases hf
      exact go_iret rfl dX11_stool_75 (Nat.le_refl _) ⟨rfl, rfl⟩
    replace hf := (if_neg c7).symm.trans hf
    by_cases c9 : (a2 : Int32) = 2
    · replace hf := (if_pos c9).symm.trans hf
      refine go_tableIn 76 dX11_stool_15 (by rw [c9]; decide) (by rw [c9]; decide) (by rw [c9]; rfl) (by decide) ?_
      refine go_aload_n 0 dX11_stool_76 rfl rfl ?_
      refine go_fR fl_X11_30 dX11_stool_77 h0 (by decide) rfl ?_
      refine go_fR fl_X11_166 dX11_stool_80 (hs.1 _ 11 2 h0 rfl) (by decide) rfl ?_
      refine go_iload_n 1 dX11_stool_83 rfl rfl ?_
      obtain ⟨g10, hf⟩ := gd_some hf
      refine go_rI dX11_stool_84 (hs.1 _ 0 6 (hs.1 _ 11 2 h0 rfl) rfl) (ib_in g10) ?_
      cases hf
      exact go_iret rfl dX11_stool_85 (Nat.le_refl _) ⟨rfl, rfl⟩
    replace hf := (if_neg c9).symm.trans hf
    by_cases c11 : (a2 : Int32) = 3
    · replace hf := (if_pos c11).symm.trans hf
      refine go_tableIn 86 dX11_stool_15 (by rw [c11]; decide) (by rw [c11]; decide) (by rw [c11]; rfl) (by decide) ?_
      refine go_aload_n 0 dX11_stool_86 rfl rfl ?_
      refine go_fR fl_X11_40 dX11_stool_87 h0 (by decide) rfl ?_
      refine go_fR fl_X11_169 dX11_stool_90 (hs.1 _ 11 4 h0 rfl) (by decide) rfl ?_
      refine go_iload_n 1 dX11_stool_93 rfl rfl ?_
      obtain ⟨g12, hf⟩ := gd_some hf
      refine go_rI dX11_stool_94 (hs.1 _ 9 1 (hs.1 _ 11 4 h0 rfl) rfl) (ib_in g12) ?_
      cases hf
      exact go_iret rfl dX11_stool_95 (Nat.le_refl _) ⟨rfl, rfl⟩
    replace hf := (if_neg c11).symm.trans hf
    by_cases c13 : (a2 : Int32) = 4
    · replace hf := (if_pos c13).symm.trans hf
      refine go_tableIn 96 dX11_stool_15 (by rw [c13]; decide) (by rw [c13]; decide) (by rw [c13]; rfl) (by decide) ?_
      refine go_aload_n 0 dX11_stool_96 rfl rfl ?_
      refine go_fR fl_X11_40 dX11_stool_97 h0 (by decide) rfl ?_
      refine go_fR fl_X11_172 dX11_stool_100 (hs.1 _ 11 4 h0 rfl) (by decide) rfl ?_
      refine go_iload_n 1 dX11_stool_103 rfl rfl ?_
      obtain ⟨g14, hf⟩ := gd_some hf
      refine go_rI dX11_stool_104 (hs.1 _ 9 2 (hs.1 _ 11 4 h0 rfl) rfl) (ib_in g14) ?_
      cases hf
      exact go_iret rfl dX11_stool_105 (Nat.le_refl _) ⟨rfl, rfl⟩
    replace hf := (if_neg c13).symm.trans hf
    by_cases c15 : (a2 : Int32) = 5
    · replace hf := (if_pos c15).symm.trans hf
      refine go_tableIn 106 dX11_stool_15 (by rw [c15]; decide) (by rw [c15]; decide) (by rw [c15]; rfl) (by decide) ?_
      refine go_aload_n 0 dX11_stool_106 rfl rfl ?_
      refine go_fR fl_X11_40 dX11_stool_107 h0 (by decide) rfl ?_
      refine go_fR fl_X11_175 dX11_stool_110 (hs.1 _ 11 4 h0 rfl) (by decide) rfl ?_
      refine go_iload_n 1 dX11_stool_113 rfl rfl ?_
      obtain ⟨g16, hf⟩ := gd_some hf
      refine go_rI dX11_stool_114 (hs.1 _ 9 3 (hs.1 _ 11 4 h0 rfl) rfl) (ib_in g16) ?_
      cases hf
      exact go_iret rfl dX11_stool_115 (Nat.le_refl _) ⟨rfl, rfl⟩
    replace hf := (if_neg c15).symm.trans hf
    by_cases c17 : (a2 : Int32) = 6
    · replace hf := (if_pos c17).symm.trans hf
      refine go_tableIn 116 dX11_stool_15 (by rw [c17]; decide) (by rw [c17]; decide) (by rw [c17]; rfl) (by decide) ?_
      refine go_aload_n 0 dX11_stool_116 rfl rfl ?_
      refine go_fR fl_X11_40 dX11_stool_117 h0 (by decide) rfl ?_
      refine go_aload_n 0 dX11_stool_120 rfl rfl ?_
      refine go_fR fl_X11_30 dX11_stool_121 h0 (by decide) rfl ?_
      refine go_iload_n 1 dX11_stool_124 rfl rfl ?_
      obtain ⟨r18, σ19, q20, hf⟩ := bnd_some hf
      refine go_Vi (av := [.ref (ρ this 2), .int a1]) (rest := []) (t_X9_isSaved hs (hs.1 _ 11 4 h0 rfl) (hs.1 _ 11 2 h0 rfl) q20) ok_X9_isSaved ml_X11_178 dX11_stool_125 (hs.1 _ 11 4 h0 rfl) rfl rfl (by decide) (Nat.le_refl _) (Nat.le_refl _) (Nat.le_of_ble_eq_true rfl) ?_
      refine go_if_eq 135 dX11_stool_128 (by decide) (fun c21 => ?_) (fun c21 => ?_)
      · replace hf := (if_pos c21).symm.trans hf
        refine go_iconst 0 dX11_stool_135 (by decide) ?_
        refine go_msk [false, false, false] [none, none, none] rfl ?_
        exact w_X11_stool_136 hs h0 0 σ19 hf
      · replace hf := (if_neg c21).symm.trans hf
        refine go_iconst 1 dX11_stool_131 (by decide) ?_
        refine go_goto 136 dX11_stool_132 (by decide) ?_
        refine go_msk [false, false, false] [none, none, none] rfl ?_
        exact w_X11_stool_136 hs h0 1 σ19 hf
    replace hf := (if_neg c17).symm.trans hf
    refine go_tableOut 137 dX11_stool_15 (tab_out 0 6 [0, 1, 2, 3, 4, 5, 6] (by decide) (by simp only [List.forall_mem_cons]; exact ⟨c5, c7, c9, c11, c13, c15, c17, by simp⟩)) (by decide) ?_
    refine go_bipush (-2) dX11_stool_137 (by decide) ?_
    cases hf
    exact go_iret rfl dX11_stool_139 (Nat.le_refl _) ⟨rfl, rfl⟩
  · replace hf := (if_pos c4).symm.trans hf
    refine go_bipush (-2) dX11_stool_11 (by decide) ?_
    cases hf
    exact go_iret rfl dX11_stool_13 (Nat.le_refl _) ⟨rfl, rfl⟩
def f_X11_isSent_35 (N : Nat) (ρ : Nat → Nat → Nat) (this : Nat) (a1 : Int32) (s0 : Int32) (σ : St) : Option (Int32 × St) :=
  gd (bb s0) <|
  some (s0, σ)
def f_X11_isSent_34 (N : Nat) (ρ : Nat → Nat → Nat) (this : Nat) (a1 : Int32) (σ : St) : Option (Int32 × St) :=
  f_X11_isSent_35 N ρ this a1 0 σ
def f_X11_isSent (N : Nat) (ρ : Nat → Nat → Nat) (this : Nat) (a1 : Int32) (σ : St) : Option (Int32 × St) :=
  bnd (f_X0_hasStool N ρ (ρ this 2) a1 σ) fun r2 σ3 =>
  if (r2 : Int32) = 0 then
    f_X11_isSent_34 N ρ this a1 σ3
  else
    gd (ib a1 5) <|
    bnd (f_X0_hasHearth N ρ (ρ this 2) (σ3.1 (ρ (ρ this 4) 3) a1.toNatClampNeg) σ3) fun r7 σ8 =>
    if (r7 : Int32) = 0 then
      f_X11_isSent_34 N ρ this a1 σ8
    else
      f_X11_isSent_35 N ρ this a1 1 σ8
set_option maxRecDepth 100000 in
set_option maxHeartbeats 4000000 in
theorem w_X11_isSent_35 {N : Nat} {Γ : SG} {ρ : Nat → Nat → Nat} (hs : Sh Γ ρ) {this : Nat} {a1 : Int32} (h0 : Γ[this]? = some (0, 11)) {n0 : Nat} {r : Int32} {σr : St} (s0 : Int32) (σ : St) (hf : f_X11_isSent_35 N ρ this a1 s0 σ = some (r, σr)) : Go mX11_isSent 1 0 0 n0 (Ki Γ ρ r σr) 0 0 35 [none, none] [.int s0] (hp Γ ρ σ) := by
  unfold f_X11_isSent_35 at hf
  obtain ⟨g1, hf⟩ := gd_some hf
  cases hf
  exact go_zret rfl (bb_of g1) dX11_isSent_35 (Nat.le_refl _) ⟨rfl, rfl⟩
set_option maxRecDepth 100000 in
set_option maxHeartbeats 4000000 in
theorem w_X11_isSent_34 {N : Nat} {Γ : SG} {ρ : Nat → Nat → Nat} (hs : Sh Γ ρ) {this : Nat} {a1 : Int32} (h0 : Γ[this]? = some (0, 11)) {n0 : Nat} {r : Int32} {σr : St} (σ : St) (hf : f_X11_isSent_34 N ρ this a1 σ = some (r, σr)) : Go mX11_isSent 1 0 0 n0 (Ki Γ ρ r σr) 0 0 34 [none, none] [] (hp Γ ρ σ) := by
  unfold f_X11_isSent_34 at hf
  refine go_iconst 0 dX11_isSent_34 (by decide) ?_
  exact w_X11_isSent_35 hs h0 0 σ hf
set_option maxRecDepth 100000 in
set_option maxHeartbeats 4000000 in
theorem t_X11_isSent {N : Nat} {Γ : SG} {ρ : Nat → Nat → Nat} (hs : Sh Γ ρ) {this : Nat} {a1 : Int32} (h0 : Γ[this]? = some (0, 11)) {σ : St} {r : Int32} {σr : St} (hf : f_X11_isSent N ρ this a1 σ = some (r, σr)) : Tri mX11_isSent 1 0 0 [.ref this, .int a1] (hp Γ ρ σ) (Ki Γ ρ r σr) := by
  unfold f_X11_isSent at hf
  refine tri_of [some (.ref this), some (.int a1)] (plainFor_of_name rfl) rfl (Nat.le_of_ble_eq_true rfl) ?_
  refine go_aload_n 0 dX11_isSent_0 rfl rfl ?_
  refine go_fR fl_X11_30 dX11_isSent_1 h0 (by decide) rfl ?_
  refine go_iload_n 1 dX11_isSent_4 rfl rfl ?_
  obtain ⟨r2, σ3, q4, hf⟩ := bnd_some hf
  refine go_Vi (av := [.int a1]) (rest := []) (t_X0_hasStool hs (hs.1 _ 11 2 h0 rfl) q4) ok_X0_hasStool ml_X11_157 dX11_isSent_5 (hs.1 _ 11 2 h0 rfl) rfl rfl (by decide) (Nat.le_refl _) (Nat.le_refl _) (Nat.le_of_ble_eq_true rfl) ?_
  refine go_if_eq 34 dX11_isSent_8 (by decide) (fun c5 => ?_) (fun c5 => ?_)
  · replace hf := (if_pos c5).symm.trans hf
    refine go_msk [false, false] [none, none] rfl ?_
    exact w_X11_isSent_34 hs h0 σ3 hf
  · replace hf := (if_neg c5).symm.trans hf
    refine go_aload_n 0 dX11_isSent_11 rfl rfl ?_
    refine go_fR fl_X11_30 dX11_isSent_12 h0 (by decide) rfl ?_
    refine go_aload_n 0 dX11_isSent_15 rfl rfl ?_
    refine go_fR fl_X11_40 dX11_isSent_16 h0 (by decide) rfl ?_
    refine go_fR fl_X11_175 dX11_isSent_19 (hs.1 _ 11 4 h0 rfl) (by decide) rfl ?_
    refine go_iload_n 1 dX11_isSent_22 rfl rfl ?_
    obtain ⟨g6, hf⟩ := gd_some hf
    refine go_rI dX11_isSent_23 (hs.1 _ 9 3 (hs.1 _ 11 4 h0 rfl) rfl) (ib_in g6) ?_
    obtain ⟨r7, σ8, q9, hf⟩ := bnd_some hf
    refine go_Vi (av := [.int (σ3.1 (ρ (ρ this 4) 3) a1.toNatClampNeg)]) (rest := []) (t_X0_hasHearth hs (hs.1 _ 11 2 h0 rfl) q9) ok_X0_hasHearth ml_X11_135 dX11_isSent_24 (hs.1 _ 11 2 h0 rfl) rfl rfl (by decide) (Nat.le_refl _) (Nat.le_refl _) (Nat.le_of_ble_eq_true rfl) ?_
    refine go_if_eq 34 dX11_isSent_27 (by decide) (fun c10 => ?_) (fun c10 => ?_)
    · replace hf := (if_pos c10).symm.trans hf
      refine go_msk [false, false] [none, none] rfl ?_
      exact w_X11_isSent_34 hs h0 σ8 hf
    · replace hf := (if_neg c10).symm.trans hf
      refine go_iconst 1 dX11_isSent_30 (by decide) ?_
      refine go_goto 35 dX11_isSent_31 (by decide) ?_
      refine go_msk [false, false] [none, none] rfl ?_
      exact w_X11_isSent_35 hs h0 1 σ8 hf
def f_X11_load (N : Nat) (ρ : Nat → Nat → Nat) (this : Nat) (a1 : Int32) (σ : St) : Option (Int32 × St) :=
  bnd (f_X11_isSent N ρ this a1 σ) fun r1 σ2 =>
  if (r1 : Int32) = 0 then
    some ((-1), σ2)
  else
    gd (ib a1 5) <|
    nmd (σ2.1 (ρ (ρ this 4) 3) a1.toNatClampNeg) fun y6 =>
    bnd (f_X9_setAt N ρ (ρ this 4) y6 σ2) fun r7 σ8 =>
    bnd (f_J6_bitCount_0f7a4 N ρ r7 σ8) fun r10 σ11 =>
    bnd (f_X0_loadOf N ρ (ρ this 2) (ρ this 4) a1 y6 r10 0 σ11) fun r13 σ14 =>
    some (r13, σ14)
set_option maxRecDepth 100000 in
set_option maxHeartbeats 4000000 in
theorem t_X11_load {N : Nat} {Γ : SG} {ρ : Nat → Nat → Nat} (hs : Sh Γ ρ) {this : Nat} {a1 : Int32} (h0 : Γ[this]? = some (0, 11)) {σ : St} {r : Int32} {σr : St} (hf : f_X11_load N ρ this a1 σ = some (r, σr)) : Tri mX11_load 3 0 0 [.ref this, .int a1] (hp Γ ρ σ) (Ki Γ ρ r σr) := by
  unfold f_X11_load at hf
  refine tri_of [some (.ref this), some (.int a1), none] (plainFor_of_name rfl) rfl (Nat.le_of_ble_eq_true rfl) ?_
  refine go_aload_n 0 dX11_load_0 rfl rfl ?_
  refine go_iload_n 1 dX11_load_1 rfl rfl ?_
  obtain ⟨r1, σ2, q3, hf⟩ := bnd_some hf
  refine go_Vi (av := [.int a1]) (rest := []) (t_X11_isSent hs h0 q3) ok_X11_isSent ml_X11_182 dX11_load_2 h0 rfl rfl (by decide) (Nat.le_refl _) (Nat.le_refl _) (Nat.le_of_ble_eq_true rfl) ?_
  refine go_if_ne 10 dX11_load_5 (by decide) (fun c4 => ?_) (fun c4 => ?_)
  · replace hf := (if_neg c4).symm.trans hf
    refine go_aload_n 0 dX11_load_10 rfl rfl ?_
    refine go_fR fl_X11_40 dX11_load_11 h0 (by decide) rfl ?_
    refine go_fR fl_X11_175 dX11_load_14 (hs.1 _ 11 4 h0 rfl) (by decide) rfl ?_
    refine go_iload_n 1 dX11_load_17 rfl rfl ?_
    obtain ⟨g5, hf⟩ := gd_some hf
    refine go_rI dX11_load_18 (hs.1 _ 9 3 (hs.1 _ 11 4 h0 rfl) rfl) (ib_in g5) ?_
    obtain ⟨y6, ey6, hf⟩ := nmd_some hf
    refine go_nm ey6 ?_
    refine go_istore_n 2 [some (.ref this), some (.int a1), some (.int y6)] dX11_load_19 rfl (by decide) rfl ?_
    refine go_aload_n 0 dX11_load_20 rfl rfl ?_
    refine go_fR fl_X11_30 dX11_load_21 h0 (by decide) rfl ?_
    refine go_aload_n 0 dX11_load_24 rfl rfl ?_
    refine go_fR fl_X11_40 dX11_load_25 h0 (by decide) rfl ?_
    refine go_iload_n 1 dX11_load_28 rfl rfl ?_
    refine go_iload_n 2 dX11_load_29 rfl rfl ?_
    refine go_aload_n 0 dX11_load_30 rfl rfl ?_
    refine go_fR fl_X11_40 dX11_load_31 h0 (by decide) rfl ?_
    refine go_iload_n 2 dX11_load_34 rfl rfl ?_
    obtain ⟨r7, σ8, q9, hf⟩ := bnd_some hf
    refine go_Vi (av := [.int y6]) (rest := [.int y6, .int a1, .ref (ρ this 4), .ref (ρ this 2)]) (t_X9_setAt hs (hs.1 _ 11 4 h0 rfl) q9) ok_X9_setAt ml_X11_150 dX11_load_35 (hs.1 _ 11 4 h0 rfl) rfl rfl (by decide) (Nat.le_refl _) (Nat.le_refl _) (Nat.le_of_ble_eq_true rfl) ?_
    obtain ⟨r10, σ11, q12, hf⟩ := bnd_some hf
    refine go_Si (av := [.int r7]) (rest := [.int y6, .int a1, .ref (ρ this 4), .ref (ρ this 2)]) (t_J6_bitCount_0f7a4 hs  q12) ok_J6_bitCount_0f7a4 ml_X11_185 dX11_load_38 rfl rfl (by decide) (Nat.le_refl _) (Nat.le_refl _) (Nat.le_of_ble_eq_true rfl) ?_
    refine go_iconst 0 dX11_load_41 (by decide) ?_
    obtain ⟨r13, σ14, q15, hf⟩ := bnd_some hf
    refine go_Vi (av := [.ref (ρ this 4), .int a1, .int y6, .int r10, .int 0]) (rest := []) (t_X0_loadOf hs (hs.1 _ 11 2 h0 rfl) (hs.1 _ 11 4 h0 rfl) q15) ok_X0_loadOf ml_X11_190 dX11_load_42 (hs.1 _ 11 2 h0 rfl) rfl rfl (by decide) (Nat.le_refl _) (Nat.le_refl _) (Nat.le_of_ble_eq_true rfl) ?_
    cases hf
    exact go_iret rfl dX11_load_45 (Nat.le_refl _) ⟨rfl, rfl⟩
  · replace hf := (if_pos c4).symm.trans hf
    refine go_iconst (-1) dX11_load_8 (by decide) ?_
    cases hf
    exact go_iret rfl dX11_load_9 (Nat.le_refl _) ⟨rfl, rfl⟩
def f_X11_tonight (N : Nat) (ρ : Nat → Nat → Nat) (this : Nat) (a1 : Int32) (σ : St) : Option (Int32 × St) :=
  if (a1 : Int32) = 0 then
    bnd (f_X9_counting N ρ (ρ this 4) (ρ this 2) 0 σ) fun r2 σ3 =>
    some (r2, σ3)
  else
  if (a1 : Int32) = 1 then
    bnd (f_X9_breaking N ρ (ρ this 4) (ρ this 2) σ) fun r6 σ7 =>
    some (r6, σ7)
  else
  if (a1 : Int32) = 2 then
    bnd (f_X9_quarrelling N ρ (ρ this 4) (ρ this 2) σ) fun r10 σ11 =>
    some (r10, σ11)
  else
    some ((-1), σ)
set_option maxRecDepth 100000 in
set_option maxHeartbeats 4000000 in
theorem t_X11_tonight {N : Nat} {Γ : SG} {ρ : Nat → Nat → Nat} (hs : Sh Γ ρ) {this : Nat} {a1 : Int32} (h0 : Γ[this]? = some (0, 11)) {σ : St} {r : Int32} {σr : St} (hf : f_X11_tonight N ρ this a1 σ = some (r, σr)) : Tri mX11_tonight 6 0 0 [.ref this, .int a1] (hp Γ ρ σ) (Ki Γ ρ r σr) := by
  unfold f_X11_tonight at hf
  refine tri_of [some (.ref this), some (.int a1)] (plainFor_of_name rfl) rfl (Nat.le_of_ble_eq_true rfl) ?_
  refine go_iload_n 1 dX11_tonight_0 rfl rfl ?_
  by_cases c1 : (a1 : Int32) = 0
  · replace hf := (if_pos c1).symm.trans hf
    refine go_tableIn 28 dX11_tonight_1 (by rw [c1]; decide) (by rw [c1]; decide) (by rw [c1]; rfl) (by decide) ?_
    refine go_aload_n 0 dX11_tonight_28 rfl rfl ?_
    refine go_fR fl_X11_40 dX11_tonight_29 h0 (by decide) rfl ?_
    refine go_aload_n 0 dX11_tonight_32 rfl rfl ?_
    refine go_fR fl_X11_30 dX11_tonight_33 h0 (by decide) rfl ?_
    refine go_iconst 0 dX11_tonight_36 (by decide) ?_
    obtain ⟨r2, σ3, q4, hf⟩ := bnd_some hf
    refine go_Vi (av := [.ref (ρ this 2), .int 0]) (rest := []) (t_X9_counting hs (hs.1 _ 11 4 h0 rfl) (hs.1 _ 11 2 h0 rfl) q4) ok_X9_counting ml_X11_194 dX11_tonight_37 (hs.1 _ 11 4 h0 rfl) rfl rfl (by decide) (Nat.le_refl _) (Nat.le_refl _) (Nat.le_of_ble_eq_true rfl) ?_
    cases hf
    exact go_iret rfl dX11_tonight_40 (Nat.le_refl _) ⟨rfl, rfl⟩
  replace hf := (if_neg c1).symm.trans hf
  by_cases c5 : (a1 : Int32) = 1
  · replace hf := (if_pos c5).symm.trans hf
    refine go_tableIn 41 dX11_tonight_1 (by rw [c5]; decide) (by rw [c5]; decide) (by rw [c5]; rfl) (by decide) ?_
    refine go_aload_n 0 dX11_tonight_41 rfl rfl ?_
    refine go_fR fl_X11_40 dX11_tonight_42 h0 (by decide) rfl ?_
    refine go_aload_n 0 dX11_tonight_45 rfl rfl ?_
    refine go_fR fl_X11_30 dX11_tonight_46 h0 (by decide) rfl ?_
    obtain ⟨r6, σ7, q8, hf⟩ := bnd_some hf
    refine go_Vi (av := [.ref (ρ this 2)]) (rest := []) (t_X9_breaking hs (hs.1 _ 11 4 h0 rfl) (hs.1 _ 11 2 h0 rfl) q8) ok_X9_breaking ml_X11_198 dX11_tonight_49 (hs.1 _ 11 4 h0 rfl) rfl rfl (by decide) (Nat.le_refl _) (Nat.le_refl _) (Nat.le_of_ble_eq_true rfl) ?_
    cases hf
    exact go_iret rfl dX11_tonight_52 (Nat.le_refl _) ⟨rfl, rfl⟩
  replace hf := (if_neg c5).symm.trans hf
  by_cases c9 : (a1 : Int32) = 2
  · replace hf := (if_pos c9).symm.trans hf
    refine go_tableIn 53 dX11_tonight_1 (by rw [c9]; decide) (by rw [c9]; decide) (by rw [c9]; rfl) (by decide) ?_
    refine go_aload_n 0 dX11_tonight_53 rfl rfl ?_
    refine go_fR fl_X11_40 dX11_tonight_54 h0 (by decide) rfl ?_
    refine go_aload_n 0 dX11_tonight_57 rfl rfl ?_
    refine go_fR fl_X11_30 dX11_tonight_58 h0 (by decide) rfl ?_
    obtain ⟨r10, σ11, q12, hf⟩ := bnd_some hf
    refine go_Vi (av := [.ref (ρ this 2)]) (rest := []) (t_X9_quarrelling hs (hs.1 _ 11 4 h0 rfl) (hs.1 _ 11 2 h0 rfl) q12) ok_X9_quarrelling ml_X11_202 dX11_tonight_61 (hs.1 _ 11 4 h0 rfl) rfl rfl (by decide) (Nat.le_refl _) (Nat.le_refl _) (Nat.le_of_ble_eq_true rfl) ?_
    cases hf
    exact go_iret rfl dX11_tonight_64 (Nat.le_refl _) ⟨rfl, rfl⟩
  replace hf := (if_neg c9).symm.trans hf
  refine go_tableOut 65 dX11_tonight_1 (tab_out 0 2 [0, 1, 2] (by decide) (by simp only [List.forall_mem_cons]; exact ⟨c1, c5, c9, by simp⟩)) (by decide) ?_
  refine go_iconst (-1) dX11_tonight_65 (by decide) ?_
  cases hf
  exact go_iret rfl dX11_tonight_66 (Nat.le_refl _) ⟨rfl, rfl⟩
def f_X11_walk_43 (N : Nat) (ρ : Nat → Nat → Nat) (this : Nat) (rec4 : Int32 → Int32 → St → Option (Int32 × St)) (x1 : Int32) (x2 : Int32) (σ : St) : Option (Int32 × St) :=
  rec4 x1 (x2 + 1) σ
def b_X11_walk_4 (N : Nat) (ρ : Nat → Nat → Nat) (this : Nat) (rec4 : Int32 → Int32 → St → Option (Int32 × St)) (x1 : Int32) (x2 : Int32) (σ : St) : Option (Int32 × St) :=
  if (σ.1 (ρ this 2) 12) ≤ (x2 : Int32) then
    some (x1, σ)
  else
    bnd (f_X11_isSent N ρ this x2 σ) fun r2 σ3 =>
    if (r2 : Int32) = 0 then
      f_X11_walk_43 N ρ this rec4 x1 x2 σ3
    else
      gd (ib x2 5) <|
      bnd (f_X0_wayOf N ρ (ρ this 2) x2 (σ3.1 (ρ (ρ this 4) 3) x2.toNatClampNeg) σ3) fun r7 σ8 =>
      nmd (x1 + r7) fun y10 =>
      f_X11_walk_43 N ρ this rec4 y10 x2 σ8
def f_X11_walk_4 (N : Nat) (ρ : Nat → Nat → Nat) (this : Nat) : Nat → Int32 → Int32 → St → Option (Int32 × St)
  | 0, _, _, _ => none
  | n + 1, x1, x2, σ => b_X11_walk_4 N ρ this (f_X11_walk_4 N ρ this n) x1 x2 σ
def f_X11_walk (N : Nat) (ρ : Nat → Nat → Nat) (this : Nat) (σ : St) : Option (Int32 × St) :=
  f_X11_walk_4 N ρ this N 0 0 σ
set_option maxRecDepth 100000 in
set_option maxHeartbeats 4000000 in
theorem w_X11_walk_43 {N : Nat} {Γ : SG} {ρ : Nat → Nat → Nat} (hs : Sh Γ ρ) {this : Nat} (h0 : Γ[this]? = some (0, 11)) {n0 : Nat} {r : Int32} {σr : St} (rec4 : Int32 → Int32 → St → Option (Int32 × St)) (hrec4 : ∀ (x1 : Int32) (x2 : Int32) (σ : St), rec4 x1 x2 σ = some (r, σr) → Go mX11_walk 2 0 0 n0 (Ki Γ ρ r σr) 0 0 4 [some (.ref this), some (.int x1), some (.int x2)] [] (hp Γ ρ σ)) (x1 : Int32) (x2 : Int32) (σ : St) (hf : f_X11_walk_43 N ρ this rec4 x1 x2 σ = some (r, σr)) : Go mX11_walk 2 0 0 n0 (Ki Γ ρ r σr) 0 0 43 [some (.ref this), some (.int x1), some (.int x2)] [] (hp Γ ρ σ) := by
  unfold f_X11_walk_43 at hf
  refine go_iinc (x2 + 1) [some (.ref this), some (.int x1), some (.int (x2 + 1))] dX11_walk_43 rfl rfl (by decide) rfl ?_
  refine go_goto 4 dX11_walk_46 (by decide) ?_
  exact hrec4 x1 (x2 + 1) σ hf
set_option maxRecDepth 100000 in
set_option maxHeartbeats 4000000 in
theorem v_X11_walk_4 {N : Nat} {Γ : SG} {ρ : Nat → Nat → Nat} (hs : Sh Γ ρ) {this : Nat} (h0 : Γ[this]? = some (0, 11)) {n0 : Nat} {r : Int32} {σr : St} (rec4 : Int32 → Int32 → St → Option (Int32 × St)) (hrec4 : ∀ (x1 : Int32) (x2 : Int32) (σ : St), rec4 x1 x2 σ = some (r, σr) → Go mX11_walk 2 0 0 n0 (Ki Γ ρ r σr) 0 0 4 [some (.ref this), some (.int x1), some (.int x2)] [] (hp Γ ρ σ)) (x1 : Int32) (x2 : Int32) (σ : St) (hf : b_X11_walk_4 N ρ this rec4 x1 x2 σ = some (r, σr)) : Go mX11_walk 2 0 0 n0 (Ki Γ ρ r σr) 0 0 4 [some (.ref this), some (.int x1), some (.int x2)] [] (hp Γ ρ σ) := by
  unfold b_X11_walk_4 at hf
  refine go_iload_n 2 dX11_walk_4 rfl rfl ?_
  refine go_aload_n 0 dX11_walk_5 rfl rfl ?_
  refine go_fR fl_X11_30 dX11_walk_6 h0 (by decide) rfl ?_
  refine go_fI fl_X11_132 dX11_walk_9 (hs.1 _ 11 2 h0 rfl) (by decide) rfl ?_
  refine go_icmp_ge 49 dX11_walk_12 (by decide) (fun c1 => ?_) (fun c1 => ?_)
  · replace hf := (if_pos c1).symm.trans hf
    refine go_iload_n 1 dX11_walk_49 rfl rfl ?_
    cases hf
    exact go_iret rfl dX11_walk_50 (Nat.le_refl _) ⟨rfl, rfl⟩
  · replace hf := (if_neg c1).symm.trans hf
    refine go_aload_n 0 dX11_walk_15 rfl rfl ?_
    refine go_iload_n 2 dX11_walk_16 rfl rfl ?_
    obtain ⟨r2, σ3, q4, hf⟩ := bnd_some hf
    refine go_Vi (av := [.int x2]) (rest := []) (t_X11_isSent hs h0 q4) ok_X11_isSent ml_X11_182 dX11_walk_17 h0 rfl rfl (by decide) (Nat.le_refl _) (Nat.le_refl _) (Nat.le_of_ble_eq_true rfl) ?_
    refine go_if_eq 43 dX11_walk_20 (by decide) (fun c5 => ?_) (fun c5 => ?_)
    · replace hf := (if_pos c5).symm.trans hf
      exact w_X11_walk_43 hs h0 rec4 hrec4 x1 x2 σ3 hf
    · replace hf := (if_neg c5).symm.trans hf
      refine go_iload_n 1 dX11_walk_23 rfl rfl ?_
      refine go_aload_n 0 dX11_walk_24 rfl rfl ?_
      refine go_fR fl_X11_30 dX11_walk_25 h0 (by decide) rfl ?_
      refine go_iload_n 2 dX11_walk_28 rfl rfl ?_
      refine go_aload_n 0 dX11_walk_29 rfl rfl ?_
      refine go_fR fl_X11_40 dX11_walk_30 h0 (by decide) rfl ?_
      refine go_fR fl_X11_175 dX11_walk_33 (hs.1 _ 11 4 h0 rfl) (by decide) rfl ?_
      refine go_iload_n 2 dX11_walk_36 rfl rfl ?_
      obtain ⟨g6, hf⟩ := gd_some hf
      refine go_rI dX11_walk_37 (hs.1 _ 9 3 (hs.1 _ 11 4 h0 rfl) rfl) (ib_in g6) ?_
      obtain ⟨r7, σ8, q9, hf⟩ := bnd_some hf
      refine go_Vi (av := [.int x2, .int (σ3.1 (ρ (ρ this 4) 3) x2.toNatClampNeg)]) (rest := [.int x1]) (t_X0_wayOf hs (hs.1 _ 11 2 h0 rfl) q9) ok_X0_wayOf ml_X11_205 dX11_walk_38 (hs.1 _ 11 2 h0 rfl) rfl rfl (by decide) (Nat.le_refl _) (Nat.le_refl _) (Nat.le_of_ble_eq_true rfl) ?_
      refine go_iadd dX11_walk_41 ?_
      obtain ⟨y10, ey10, hf⟩ := nmd_some hf
      refine go_nm ey10 ?_
      refine go_istore_n 1 [some (.ref this), some (.int y10), some (.int x2)] dX11_walk_42 rfl (by decide) rfl ?_
      exact w_X11_walk_43 hs h0 rec4 hrec4 y10 x2 σ8 hf
theorem w_X11_walk_4 {N : Nat} {Γ : SG} {ρ : Nat → Nat → Nat} (hs : Sh Γ ρ) {this : Nat} (h0 : Γ[this]? = some (0, 11)) {n0 : Nat} {r : Int32} {σr : St} : ∀ (n : Nat) (x1 : Int32) (x2 : Int32) (σ : St), f_X11_walk_4 N ρ this n x1 x2 σ = some (r, σr) → Go mX11_walk 2 0 0 n0 (Ki Γ ρ r σr) 0 0 4 [some (.ref this), some (.int x1), some (.int x2)] [] (hp Γ ρ σ) := by
  intro n
  induction n with
  | zero => intro x1 x2 σ hf; cases hf
  | succ n ih => intro x1 x2 σ hf; exact v_X11_walk_4 hs h0 _ ih x1 x2 σ hf
set_option maxRecDepth 100000 in
set_option maxHeartbeats 4000000 in
theorem t_X11_walk {N : Nat} {Γ : SG} {ρ : Nat → Nat → Nat} (hs : Sh Γ ρ) {this : Nat} (h0 : Γ[this]? = some (0, 11)) {σ : St} {r : Int32} {σr : St} (hf : f_X11_walk N ρ this σ = some (r, σr)) : Tri mX11_walk 2 0 0 [.ref this] (hp Γ ρ σ) (Ki Γ ρ r σr) := by
  unfold f_X11_walk at hf
  refine tri_of [some (.ref this), none, none] (plainFor_of_name rfl) rfl (Nat.le_of_ble_eq_true rfl) ?_
  refine go_iconst 0 dX11_walk_0 (by decide) ?_
  refine go_istore_n 1 [some (.ref this), some (.int 0), none] dX11_walk_1 rfl (by decide) rfl ?_
  refine go_iconst 0 dX11_walk_2 (by decide) ?_
  refine go_istore_n 2 [some (.ref this), some (.int 0), some (.int 0)] dX11_walk_3 rfl (by decide) rfl ?_
  exact w_X11_walk_4 hs h0 N 0 0 σ hf
def f_X11_saved (N : Nat) (ρ : Nat → Nat → Nat) (this : Nat) (σ : St) : Option (Int32 × St) :=
  bnd (f_X9_savedBits N ρ (ρ this 4) (ρ this 2) σ) fun r1 σ2 =>
  some (r1, σ2)
set_option maxRecDepth 100000 in
set_option maxHeartbeats 4000000 in
theorem t_X11_saved {N : Nat} {Γ : SG} {ρ : Nat → Nat → Nat} (hs : Sh Γ ρ) {this : Nat} (h0 : Γ[this]? = some (0, 11)) {σ : St} {r : Int32} {σr : St} (hf : f_X11_saved N ρ this σ = some (r, σr)) : Tri mX11_saved 2 0 0 [.ref this] (hp Γ ρ σ) (Ki Γ ρ r σr) := by
  unfold f_X11_saved at hf
  refine tri_of [some (.ref this)] (plainFor_of_name rfl) rfl (Nat.le_of_ble_eq_true rfl) ?_
  refine go_aload_n 0 dX11_saved_0 rfl rfl ?_
  refine go_fR fl_X11_40 dX11_saved_1 h0 (by decide) rfl ?_
  refine go_aload_n 0 dX11_saved_4 rfl rfl ?_
  refine go_fR fl_X11_30 dX11_saved_5 h0 (by decide) rfl ?_
  obtain ⟨r1, σ2, q3, hf⟩ := bnd_some hf
  refine go_Vi (av := [.ref (ρ this 2)]) (rest := []) (t_X9_savedBits hs (hs.1 _ 11 4 h0 rfl) (hs.1 _ 11 2 h0 rfl) q3) ok_X9_savedBits ml_X11_209 dX11_saved_8 (hs.1 _ 11 4 h0 rfl) rfl rfl (by decide) (Nat.le_refl _) (Nat.le_refl _) (Nat.le_of_ble_eq_true rfl) ?_
  cases hf
  exact go_iret rfl dX11_saved_11 (Nat.le_refl _) ⟨rfl, rfl⟩
def f_X11_about (N : Nat) (ρ : Nat → Nat → Nat) (this : Nat) (a1 : Int32) (σ : St) : Option (Int32 × St) :=
  if (a1 : Int32) = 0 then
    some (σ.1 (ρ this 2) 12, σ)
  else
  if (a1 : Int32) = 1 then
    some (σ.1 (ρ this 2) 11, σ)
  else
  if (a1 : Int32) = 2 then
    some (σ.1 (ρ this 2) 13, σ)
  else
  if (a1 : Int32) = 3 then
    some (σ.1 (ρ this 2) 14, σ)
  else
  if (a1 : Int32) = 4 then
    some (σ.1 (ρ this 4) 4, σ)
  else
  if (a1 : Int32) = 5 then
    some (σ.1 (ρ this 4) 5, σ)
  else
  if (a1 : Int32) = 6 then
    some (σ.1 (ρ this 6) 1, σ)
  else
  if (a1 : Int32) = 7 then
    some (σ.1 (ρ this 6) 2, σ)
  else
  if (a1 : Int32) = 8 then
    some (σ.1 (ρ this 11) 6, σ)
  else
  if (a1 : Int32) = 9 then
    some (σ.1 (ρ this 11) 7, σ)
  else
  if (a1 : Int32) = 10 then
    some (σ.1 (ρ this 0) 1, σ)
  else
  if (a1 : Int32) = 11 then
    some ((σ.1 (ρ (ρ this 2) 8) 3) + (σ.1 (ρ (ρ this 2) 9) 3), σ)
  else
  if (a1 : Int32) = 12 then
    some (σ.1 this 14, σ)
  else
    some ((-1), σ)
set_option maxRecDepth 100000 in
set_option maxHeartbeats 4000000 in
theorem t_X11_about {N : Nat} {Γ : SG} {ρ : Nat → Nat → Nat} (hs : Sh Γ ρ) {this : Nat} {a1 : Int32} (h0 : Γ[this]? = some (0, 11)) {σ : St} {r : Int32} {σr : St} (hf : f_X11_about N ρ this a1 σ = some (r, σr)) : Tri mX11_about 0 0 0 [.ref this, .int a1] (hp Γ ρ σ) (Ki Γ ρ r σr) := by
  unfold f_X11_about at hf
  refine tri_of [some (.ref this), some (.int a1)] (plainFor_of_name rfl) rfl (Nat.le_of_ble_eq_true rfl) ?_
  refine go_iload_n 1 dX11_about_0 rfl rfl ?_
  by_cases c1 : (a1 : Int32) = 0
  · replace hf := (if_pos c1).symm.trans hf
    refine go_tableIn 68 dX11_about_1 (by rw [c1]; decide) (by rw [c1]; decide) (by rw [c1]; rfl) (by decide) ?_
    refine go_aload_n 0 dX11_about_68 rfl rfl ?_
    refine go_fR fl_X11_30 dX11_about_69 h0 (by decide) rfl ?_
    refine go_fI fl_X11_132 dX11_about_72 (hs.1 _ 11 2 h0 rfl) (by decide) rfl ?_
    cases hf
    exact go_iret rfl dX11_about_75 (Nat.le_refl _) ⟨rfl, rfl⟩
  replace hf := (if_neg c1).symm.trans hf
  by_cases c2 : (a1 : Int32) = 1
  · replace hf := (if_pos c2).symm.trans hf
    refine go_tableIn 76 dX11_about_1 (by rw [c2]; decide) (by rw [c2]; decide) (by rw [c2]; rfl) (by decide) ?_
    refine go_aload_n 0 dX11_about_76 rfl rfl ?_
    refine go_fR fl_X11_30 dX11_about_77 h0 (by decide) rfl ?_
    refine go_fI fl_X11_212 dX11_about_80 (hs.1 _ 11 2 h0 rfl) (by decide) rfl ?_
    cases hf
    exact go_iret rfl dX11_about_83 (Nat.le_refl _) ⟨rfl, rfl⟩
  replace hf := (if_neg c2).symm.trans hf
  by_cases c3 : (a1 : Int32) = 2
  · replace hf := (if_pos c3).symm.trans hf
    refine go_tableIn 84 dX11_about_1 (by rw [c3]; decide) (by rw [c3]; decide) (by rw [c3]; rfl) (by decide) ?_
    refine go_aload_n 0 dX11_about_84 rfl rfl ?_
    refine go_fR fl_X11_30 dX11_about_85 h0 (by decide) rfl ?_
    refine go_fI fl_X11_215 dX11_about_88 (hs.1 _ 11 2 h0 rfl) (by decide) rfl ?_
    cases hf
    exact go_iret rfl dX11_about_91 (Nat.le_refl _) ⟨rfl, rfl⟩
  replace hf := (if_neg c3).symm.trans hf
  by_cases c4 : (a1 : Int32) = 3
  · replace hf := (if_pos c4).symm.trans hf
    refine go_tableIn 92 dX11_about_1 (by rw [c4]; decide) (by rw [c4]; decide) (by rw [c4]; rfl) (by decide) ?_
    refine go_aload_n 0 dX11_about_92 rfl rfl ?_
    refine go_fR fl_X11_30 dX11_about_93 h0 (by decide) rfl ?_
    refine go_fI fl_X11_218 dX11_about_96 (hs.1 _ 11 2 h0 rfl) (by decide) rfl ?_
    cases hf
    exact go_iret rfl dX11_about_99 (Nat.le_refl _) ⟨rfl, rfl⟩
  replace hf := (if_neg c4).symm.trans hf
  by_cases c5 : (a1 : Int32) = 4
  · replace hf := (if_pos c5).symm.trans hf
    refine go_tableIn 100 dX11_about_1 (by rw [c5]; decide) (by rw [c5]; decide) (by rw [c5]; rfl) (by decide) ?_
    refine go_aload_n 0 dX11_about_100 rfl rfl ?_
    refine go_fR fl_X11_40 dX11_about_101 h0 (by decide) rfl ?_
    refine go_fI fl_X11_221 dX11_about_104 (hs.1 _ 11 4 h0 rfl) (by decide) rfl ?_
    cases hf
    exact go_iret rfl dX11_about_107 (Nat.le_refl _) ⟨rfl, rfl⟩
  replace hf := (if_neg c5).symm.trans hf
  by_cases c6 : (a1 : Int32) = 5
  · replace hf := (if_pos c6).symm.trans hf
    refine go_tableIn 108 dX11_about_1 (by rw [c6]; decide) (by rw [c6]; decide) (by rw [c6]; rfl) (by decide) ?_
    refine go_aload_n 0 dX11_about_108 rfl rfl ?_
    refine go_fR fl_X11_40 dX11_about_109 h0 (by decide) rfl ?_
    refine go_fI fl_X11_224 dX11_about_112 (hs.1 _ 11 4 h0 rfl) (by decide) rfl ?_
    cases hf
    exact go_iret rfl dX11_about_115 (Nat.le_refl _) ⟨rfl, rfl⟩
  replace hf := (if_neg c6).symm.trans hf
  by_cases c7 : (a1 : Int32) = 6
  · replace hf := (if_pos c7).symm.trans hf
    refine go_tableIn 116 dX11_about_1 (by rw [c7]; decide) (by rw [c7]; decide) (by rw [c7]; rfl) (by decide) ?_
    refine go_aload_n 0 dX11_about_116 rfl rfl ?_
    refine go_fR fl_X11_50 dX11_about_117 h0 (by decide) rfl ?_
    refine go_fI fl_X11_227 dX11_about_120 (hs.1 _ 11 6 h0 rfl) (by decide) rfl ?_
    cases hf
    exact go_iret rfl dX11_about_123 (Nat.le_refl _) ⟨rfl, rfl⟩
  replace hf := (if_neg c7).symm.trans hf
  by_cases c8 : (a1 : Int32) = 7
  · replace hf := (if_pos c8).symm.trans hf
    refine go_tableIn 124 dX11_about_1 (by rw [c8]; decide) (by rw [c8]; decide) (by rw [c8]; rfl) (by decide) ?_
    refine go_aload_n 0 dX11_about_124 rfl rfl ?_
    refine go_fR fl_X11_50 dX11_about_125 h0 (by decide) rfl ?_
    refine go_fI fl_X11_230 dX11_about_128 (hs.1 _ 11 6 h0 rfl) (by decide) rfl ?_
    cases hf
    exact go_iret rfl dX11_about_131 (Nat.le_refl _) ⟨rfl, rfl⟩
  replace hf := (if_neg c8).symm.trans hf
  by_cases c9 : (a1 : Int32) = 8
  · replace hf := (if_pos c9).symm.trans hf
    refine go_tableIn 132 dX11_about_1 (by rw [c9]; decide) (by rw [c9]; decide) (by rw [c9]; rfl) (by decide) ?_
    refine go_aload_n 0 dX11_about_132 rfl rfl ?_
    refine go_fR fl_X11_79 dX11_about_133 h0 (by decide) rfl ?_
    refine go_fI fl_X11_233 dX11_about_136 (hs.1 _ 11 11 h0 rfl) (by decide) rfl ?_
    cases hf
    exact go_iret rfl dX11_about_139 (Nat.le_refl _) ⟨rfl, rfl⟩
  replace hf := (if_neg c9).symm.trans hf
  by_cases c10 : (a1 : Int32) = 9
  · replace hf := (if_pos c10).symm.trans hf
    refine go_tableIn 140 dX11_about_1 (by rw [c10]; decide) (by rw [c10]; decide) (by rw [c10]; rfl) (by decide) ?_
    refine go_aload_n 0 dX11_about_140 rfl rfl ?_
    refine go_fR fl_X11_79 dX11_about_141 h0 (by decide) rfl ?_
    refine go_fI fl_X11_234 dX11_about_144 (hs.1 _ 11 11 h0 rfl) (by decide) rfl ?_
    cases hf
    exact go_iret rfl dX11_about_147 (Nat.le_refl _) ⟨rfl, rfl⟩
  replace hf := (if_neg c10).symm.trans hf
  by_cases c11 : (a1 : Int32) = 10
  · replace hf := (if_pos c11).symm.trans hf
    refine go_tableIn 148 dX11_about_1 (by rw [c11]; decide) (by rw [c11]; decide) (by rw [c11]; rfl) (by decide) ?_
    refine go_aload_n 0 dX11_about_148 rfl rfl ?_
    refine go_fR fl_X11_26 dX11_about_149 h0 (by decide) rfl ?_
    refine go_fI fl_X11_116 dX11_about_152 (hs.1 _ 11 0 h0 rfl) (by decide) rfl ?_
    cases hf
    exact go_iret rfl dX11_about_155 (Nat.le_refl _) ⟨rfl, rfl⟩
  replace hf := (if_neg c11).symm.trans hf
  by_cases c12 : (a1 : Int32) = 11
  · replace hf := (if_pos c12).symm.trans hf
    refine go_tableIn 156 dX11_about_1 (by rw [c12]; decide) (by rw [c12]; decide) (by rw [c12]; rfl) (by decide) ?_
    refine go_aload_n 0 dX11_about_156 rfl rfl ?_
    refine go_fR fl_X11_30 dX11_about_157 h0 (by decide) rfl ?_
    refine go_fR fl_X11_237 dX11_about_160 (hs.1 _ 11 2 h0 rfl) (by decide) rfl ?_
    refine go_fI fl_X11_241 dX11_about_163 (hs.1 _ 0 8 (hs.1 _ 11 2 h0 rfl) rfl) (by decide) rfl ?_
    refine go_aload_n 0 dX11_about_166 rfl rfl ?_
    refine go_fR fl_X11_30 dX11_about_167 h0 (by decide) rfl ?_
    refine go_fR fl_X11_246 dX11_about_170 (hs.1 _ 11 2 h0 rfl) (by decide) rfl ?_
    refine go_fI fl_X11_241 dX11_about_173 (hs.1 _ 0 9 (hs.1 _ 11 2 h0 rfl) rfl) (by decide) rfl ?_
    refine go_iadd dX11_about_176 ?_
    cases hf
    exact go_iret rfl dX11_about_177 (Nat.le_refl _) ⟨rfl, rfl⟩
  replace hf := (if_neg c12).symm.trans hf
  by_cases c13 : (a1 : Int32) = 12
  · replace hf := (if_pos c13).symm.trans hf
    refine go_tableIn 178 dX11_about_1 (by rw [c13]; decide) (by rw [c13]; decide) (by rw [c13]; rfl) (by decide) ?_
    refine go_aload_n 0 dX11_about_178 rfl rfl ?_
    refine go_fI fl_X11_89 dX11_about_179 h0 (by decide) rfl ?_
    cases hf
    exact go_iret rfl dX11_about_182 (Nat.le_refl _) ⟨rfl, rfl⟩
  replace hf := (if_neg c13).symm.trans hf
  refine go_tableOut 183 dX11_about_1 (tab_out 0 12 [0, 1, 2, 3, 4, 5, 6, 7, 8, 9, 10, 11, 12] (by decide) (by simp only [List.forall_mem_cons]; exact ⟨c1, c2, c3, c4, c5, c6, c7, c8, c9, c10, c11, c12, c13, by simp⟩)) (by decide) ?_
  refine go_iconst (-1) dX11_about_183 (by decide) ?_
  cases hf
  exact go_iret rfl dX11_about_184 (Nat.le_refl _) ⟨rfl, rfl⟩
def f_X11_hasRoomNow_28 (N : Nat) (ρ : Nat → Nat → Nat) (this : Nat) (a1 : Int32) (s0 : Int32) (σ : St) : Option (Int32 × St) :=
  gd (bb s0) <|
  some (s0, σ)
def f_X11_hasRoomNow (N : Nat) (ρ : Nat → Nat → Nat) (this : Nat) (a1 : Int32) (σ : St) : Option (Int32 × St) :=
  bnd (f_X9_setAt N ρ (ρ this 4) a1 σ) fun r2 σ3 =>
  bnd (f_J6_bitCount_0f7a4 N ρ r2 σ3) fun r5 σ6 =>
  gd (ib a1 6) <|
  if (σ6.1 (ρ (ρ this 2) 2) a1.toNatClampNeg) ≤ (r5 : Int32) then
    f_X11_hasRoomNow_28 N ρ this a1 0 σ6
  else
    f_X11_hasRoomNow_28 N ρ this a1 1 σ6
set_option maxRecDepth 100000 in
set_option maxHeartbeats 4000000 in
theorem w_X11_hasRoomNow_28 {N : Nat} {Γ : SG} {ρ : Nat → Nat → Nat} (hs : Sh Γ ρ) {this : Nat} {a1 : Int32} (h0 : Γ[this]? = some (0, 11)) {n0 : Nat} {r : Int32} {σr : St} (s0 : Int32) (σ : St) (hf : f_X11_hasRoomNow_28 N ρ this a1 s0 σ = some (r, σr)) : Go mX11_hasRoomNow 1 0 0 n0 (Ki Γ ρ r σr) 0 0 28 [none, none] [.int s0] (hp Γ ρ σ) := by
  unfold f_X11_hasRoomNow_28 at hf
  obtain ⟨g1, hf⟩ := gd_some hf
  cases hf
  exact go_zret rfl (bb_of g1) dX11_hasRoomNow_28 (Nat.le_refl _) ⟨rfl, rfl⟩
set_option maxRecDepth 100000 in
set_option maxHeartbeats 4000000 in
theorem t_X11_hasRoomNow {N : Nat} {Γ : SG} {ρ : Nat → Nat → Nat} (hs : Sh Γ ρ) {this : Nat} {a1 : Int32} (h0 : Γ[this]? = some (0, 11)) {σ : St} {r : Int32} {σr : St} (hf : f_X11_hasRoomNow N ρ this a1 σ = some (r, σr)) : Tri mX11_hasRoomNow 1 0 0 [.ref this, .int a1] (hp Γ ρ σ) (Ki Γ ρ r σr) := by
  unfold f_X11_hasRoomNow at hf
  refine tri_of [some (.ref this), some (.int a1)] (plainFor_of_name rfl) rfl (Nat.le_of_ble_eq_true rfl) ?_
  refine go_aload_n 0 dX11_hasRoomNow_0 rfl rfl ?_
  refine go_fR fl_X11_40 dX11_hasRoomNow_1 h0 (by decide) rfl ?_
  refine go_iload_n 1 dX11_hasRoomNow_4 rfl rfl ?_
  obtain ⟨r2, σ3, q4, hf⟩ := bnd_some hf
  refine go_Vi (av := [.int a1]) (rest := []) (t_X9_setAt hs (hs.1 _ 11 4 h0 rfl) q4) ok_X9_setAt ml_X11_150 dX11_hasRoomNow_5 (hs.1 _ 11 4 h0 rfl) rfl rfl (by decide) (Nat.le_refl _) (Nat.le_refl _) (Nat.le_of_ble_eq_true rfl) ?_
  obtain ⟨r5, σ6, q7, hf⟩ := bnd_some hf
  refine go_Si (av := [.int r2]) (rest := []) (t_J6_bitCount_0f7a4 hs  q7) ok_J6_bitCount_0f7a4 ml_X11_185 dX11_hasRoomNow_8 rfl rfl (by decide) (Nat.le_refl _) (Nat.le_refl _) (Nat.le_of_ble_eq_true rfl) ?_
  refine go_aload_n 0 dX11_hasRoomNow_11 rfl rfl ?_
  refine go_fR fl_X11_30 dX11_hasRoomNow_12 h0 (by decide) rfl ?_
  refine go_fR fl_X11_144 dX11_hasRoomNow_15 (hs.1 _ 11 2 h0 rfl) (by decide) rfl ?_
  refine go_iload_n 1 dX11_hasRoomNow_18 rfl rfl ?_
  obtain ⟨g8, hf⟩ := gd_some hf
  refine go_rI dX11_hasRoomNow_19 (hs.1 _ 0 2 (hs.1 _ 11 2 h0 rfl) rfl) (ib_in g8) ?_
  refine go_icmp_ge 27 dX11_hasRoomNow_20 (by decide) (fun c9 => ?_) (fun c9 => ?_)
  · replace hf := (if_pos c9).symm.trans hf
    refine go_iconst 0 dX11_hasRoomNow_27 (by decide) ?_
    refine go_msk [false, false] [none, none] rfl ?_
    exact w_X11_hasRoomNow_28 hs h0 0 σ6 hf
  · replace hf := (if_neg c9).symm.trans hf
    refine go_iconst 1 dX11_hasRoomNow_23 (by decide) ?_
    refine go_goto 28 dX11_hasRoomNow_24 (by decide) ?_
    refine go_msk [false, false] [none, none] rfl ?_
    exact w_X11_hasRoomNow_28 hs h0 1 σ6 hf
def f_X11_send_22 (N : Nat) (ρ : Nat → Nat → Nat) (this : Nat) (a1 : Int32) (a2 : Int32) (σ : St) : Option (Int32 × St) :=
  some ((-2), σ)
def f_X11_send_48 (N : Nat) (ρ : Nat → Nat → Nat) (this : Nat) (a1 : Int32) (a2 : Int32) (σ : St) : Option (Int32 × St) :=
  some ((-2), σ)
def f_X11_send (N : Nat) (ρ : Nat → Nat → Nat) (this : Nat) (a1 : Int32) (a2 : Int32) (σ : St) : Option (Int32 × St) :=
  bnd (f_X0_hasStool N ρ (ρ this 2) a1 σ) fun r1 σ2 =>
  if (r1 : Int32) = 0 then
    f_X11_send_22 N ρ this a1 a2 σ2
  else
    bnd (f_X0_hasHearth N ρ (ρ this 2) a2 σ2) fun r5 σ6 =>
    if (r5 : Int32) = 0 then
      f_X11_send_22 N ρ this a1 a2 σ6
    else
      gd (ib a1 5) <|
      nmd (σ6.1 (ρ (ρ this 4) 3) a1.toNatClampNeg) fun y10 =>
      if (y10 : Int32) = a2 then
        f_X11_send_48 N ρ this a1 a2 σ6
      else
        bnd (f_X11_hasRoomNow N ρ this a2 σ6) fun r12 σ13 =>
        if (r12 : Int32) = 0 then
          f_X11_send_48 N ρ this a1 a2 σ13
        else
          gd (ib a1 5) <|
          nmd (sI σ13 (ρ (ρ this 4) 3) a1.toNatClampNeg a2) fun σ17 =>
          bnd (f_X4_add N ρ (ρ this 6) (ρ this 4) σ17) fun _ σ19 =>
          some (y10, σ19)
set_option maxRecDepth 100000 in
set_option maxHeartbeats 4000000 in
theorem w_X11_send_22 {N : Nat} {Γ : SG} {ρ : Nat → Nat → Nat} (hs : Sh Γ ρ) {this : Nat} {a1 : Int32} {a2 : Int32} (h0 : Γ[this]? = some (0, 11)) {n0 : Nat} {r : Int32} {σr : St} (σ : St) (hf : f_X11_send_22 N ρ this a1 a2 σ = some (r, σr)) : Go mX11_send 3 0 0 n0 (Ki Γ ρ r σr) 0 0 22 [none, none, none, none] [] (hp Γ ρ σ) := by
  unfold f_X11_send_22 at hf
  refine go_bipush (-2) dX11_send_22 (by decide) ?_
  cases hf
  exact go_iret rfl dX11_send_24 (Nat.le_refl _) ⟨rfl, rfl⟩
set_option maxRecDepth 100000 in
set_option maxHeartbeats 4000000 in
theorem w_X11_send_48 {N : Nat} {Γ : SG} {ρ : Nat → Nat → Nat} (hs : Sh Γ ρ) {this : Nat} {a1 : Int32} {a2 : Int32} (h0 : Γ[this]? = some (0, 11)) {n0 : Nat} {r : Int32} {σr : St} (σ : St) (hf : f_X11_send_48 N ρ this a1 a2 σ = some (r, σr)) : Go mX11_send 3 0 0 n0 (Ki Γ ρ r σr) 0 0 48 [none, none, none, none] [] (hp Γ ρ σ) := by
  unfold f_X11_send_48 at hf
  refine go_bipush (-2) dX11_send_48 (by decide) ?_
  cases hf
  exact go_iret rfl dX11_send_50 (Nat.le_refl _) ⟨rfl, rfl⟩
set_option maxRecDepth 100000 in
set_option maxHeartbeats 4000000 in
theorem t_X11_send {N : Nat} {Γ : SG} {ρ : Nat → Nat → Nat} (hs : Sh Γ ρ) {this : Nat} {a1 : Int32} {a2 : Int32} (h0 : Γ[this]? = some (0, 11)) {σ : St} {r : Int32} {σr : St} (hf : f_X11_send N ρ this a1 a2 σ = some (r, σr)) : Tri mX11_send 3 0 0 [.ref this, .int a1, .int a2] (hp Γ ρ σ) (Ki Γ ρ r σr) := by
  unfold f_X11_send at hf
  refine tri_of [some (.ref this), some (.int a1), some (.int a2), none] (plainFor_of_name rfl) rfl (Nat.le_of_ble_eq_true rfl) ?_
  refine go_aload_n 0 dX11_send_0 rfl rfl ?_
  refine go_fR fl_X11_30 dX11_send_1 h0 (by decide) rfl ?_
  refine go_iload_n 1 dX11_send_4 rfl rfl ?_
  obtain ⟨r1, σ2, q3, hf⟩ := bnd_some hf
  refine go_Vi (av := [.int a1]) (rest := []) (t_X0_hasStool hs (hs.1 _ 11 2 h0 rfl) q3) ok_X0_hasStool ml_X11_157 dX11_send_5 (hs.1 _ 11 2 h0 rfl) rfl rfl (by decide) (Nat.le_refl _) (Nat.le_refl _) (Nat.le_of_ble_eq_true rfl) ?_
  refine go_if_eq 22 dX11_send_8 (by decide) (fun c4 => ?_) (fun c4 => ?_)
  · replace hf := (if_pos c4).symm.trans hf
    refine go_msk [false, false, false, false] [none, none, none, none] rfl ?_
    exact w_X11_send_22 hs h0 σ2 hf
  · replace hf := (if_neg c4).symm.trans hf
    refine go_aload_n 0 dX11_send_11 rfl rfl ?_
    refine go_fR fl_X11_30 dX11_send_12 h0 (by decide) rfl ?_
    refine go_iload_n 2 dX11_send_15 rfl rfl ?_
    obtain ⟨r5, σ6, q7, hf⟩ := bnd_some hf
    refine go_Vi (av := [.int a2]) (rest := []) (t_X0_hasHearth hs (hs.1 _ 11 2 h0 rfl) q7) ok_X0_hasHearth ml_X11_135 dX11_send_16 (hs.1 _ 11 2 h0 rfl) rfl rfl (by decide) (Nat.le_refl _) (Nat.le_refl _) (Nat.le_of_ble_eq_true rfl) ?_
    refine go_if_ne 25 dX11_send_19 (by decide) (fun c8 => ?_) (fun c8 => ?_)
    · replace hf := (if_neg c8).symm.trans hf
      refine go_aload_n 0 dX11_send_25 rfl rfl ?_
      refine go_fR fl_X11_40 dX11_send_26 h0 (by decide) rfl ?_
      refine go_fR fl_X11_175 dX11_send_29 (hs.1 _ 11 4 h0 rfl) (by decide) rfl ?_
      refine go_iload_n 1 dX11_send_32 rfl rfl ?_
      obtain ⟨g9, hf⟩ := gd_some hf
      refine go_rI dX11_send_33 (hs.1 _ 9 3 (hs.1 _ 11 4 h0 rfl) rfl) (ib_in g9) ?_
      obtain ⟨y10, ey10, hf⟩ := nmd_some hf
      refine go_nm ey10 ?_
      refine go_istore_n 3 [some (.ref this), some (.int a1), some (.int a2), some (.int y10)] dX11_send_34 rfl (by decide) rfl ?_
      refine go_iload_n 3 dX11_send_35 rfl rfl ?_
      refine go_iload_n 2 dX11_send_36 rfl rfl ?_
      refine go_icmp_eq 48 dX11_send_37 (by decide) (fun c11 => ?_) (fun c11 => ?_)
      · replace hf := (if_pos c11).symm.trans hf
        refine go_msk [false, false, false, false] [none, none, none, none] rfl ?_
        exact w_X11_send_48 hs h0 σ6 hf
      · replace hf := (if_neg c11).symm.trans hf
        refine go_aload_n 0 dX11_send_40 rfl rfl ?_
        refine go_iload_n 2 dX11_send_41 rfl rfl ?_
        obtain ⟨r12, σ13, q14, hf⟩ := bnd_some hf
        refine go_Vi (av := [.int a2]) (rest := []) (t_X11_hasRoomNow hs h0 q14) ok_X11_hasRoomNow ml_X11_249 dX11_send_42 h0 rfl rfl (by decide) (Nat.le_refl _) (Nat.le_refl _) (Nat.le_of_ble_eq_true rfl) ?_
        refine go_if_ne 51 dX11_send_45 (by decide) (fun c15 => ?_) (fun c15 => ?_)
        · replace hf := (if_neg c15).symm.trans hf
          refine go_aload_n 0 dX11_send_51 rfl rfl ?_
          refine go_fR fl_X11_40 dX11_send_52 h0 (by decide) rfl ?_
          refine go_fR fl_X11_175 dX11_send_55 (hs.1 _ 11 4 h0 rfl) (by decide) rfl ?_
          refine go_iload_n 1 dX11_send_58 rfl rfl ?_
          refine go_iload_n 2 dX11_send_59 rfl rfl ?_
          obtain ⟨g16, hf⟩ := gd_some hf
          obtain ⟨σ17, eσ17, hf⟩ := nmd_some hf
          refine go_wI dX11_send_60 (hs.1 _ 9 3 (hs.1 _ 11 4 h0 rfl) rfl) (ib_in g16) ?_
          rw [eσ17]
          refine go_aload_n 0 dX11_send_61 rfl rfl ?_
          refine go_fR fl_X11_50 dX11_send_62 h0 (by decide) rfl ?_
          refine go_aload_n 0 dX11_send_65 rfl rfl ?_
          refine go_fR fl_X11_40 dX11_send_66 h0 (by decide) rfl ?_
          obtain ⟨r18, σ19, q20, hf⟩ := bnd_some hf
          refine go_Vv (av := [.ref (ρ this 4)]) (rest := []) (t_X4_add hs (hs.1 _ 11 6 h0 rfl) (hs.1 _ 11 4 h0 rfl) q20) ok_X4_add ml_X11_252 dX11_send_69 (hs.1 _ 11 6 h0 rfl) rfl rfl (by decide) (Nat.le_refl _) (Nat.le_refl _) (Nat.le_of_ble_eq_true rfl) ?_
          refine go_iload_n 3 dX11_send_72 rfl rfl ?_
          cases hf
          exact go_iret rfl dX11_send_73 (Nat.le_refl _) ⟨rfl, rfl⟩
        · replace hf := (if_pos c15).symm.trans hf
          refine go_msk [false, false, false, false] [none, none, none, none] rfl ?_
          exact w_X11_send_48 hs h0 σ13 hf
    · replace hf := (if_pos c8).symm.trans hf
      refine go_msk [false, false, false, false] [none, none, none, none] rfl ?_
      exact w_X11_send_22 hs h0 σ6 hf
def f_X11_call (N : Nat) (ρ : Nat → Nat → Nat) (this : Nat) (a1 : Int32) (σ : St) : Option (Int32 × St) :=
  bnd (f_X11_isSent N ρ this a1 σ) fun r1 σ2 =>
  if (r1 : Int32) = 0 then
    some ((-1), σ2)
  else
    gd (ib a1 5) <|
    nmd (σ2.1 (ρ (ρ this 4) 3) a1.toNatClampNeg) fun y6 =>
    gd (ib a1 5) <|
    nmd (sI σ2 (ρ (ρ this 4) 3) a1.toNatClampNeg (-1)) fun σ8 =>
    bnd (f_X4_add N ρ (ρ this 6) (ρ this 4) σ8) fun _ σ10 =>
    some (y6, σ10)
set_option maxRecDepth 100000 in
set_option maxHeartbeats 4000000 in
theorem t_X11_call {N : Nat} {Γ : SG} {ρ : Nat → Nat → Nat} (hs : Sh Γ ρ) {this : Nat} {a1 : Int32} (h0 : Γ[this]? = some (0, 11)) {σ : St} {r : Int32} {σr : St} (hf : f_X11_call N ρ this a1 σ = some (r, σr)) : Tri mX11_call 3 0 0 [.ref this, .int a1] (hp Γ ρ σ) (Ki Γ ρ r σr) := by
  unfold f_X11_call at hf
  refine tri_of [some (.ref this), some (.int a1), none] (plainFor_of_name rfl) rfl (Nat.le_of_ble_eq_true rfl) ?_
  refine go_aload_n 0 dX11_call_0 rfl rfl ?_
  refine go_iload_n 1 dX11_call_1 rfl rfl ?_
  obtain ⟨r1, σ2, q3, hf⟩ := bnd_some hf
  refine go_Vi (av := [.int a1]) (rest := []) (t_X11_isSent hs h0 q3) ok_X11_isSent ml_X11_182 dX11_call_2 h0 rfl rfl (by decide) (Nat.le_refl _) (Nat.le_refl _) (Nat.le_of_ble_eq_true rfl) ?_
  refine go_if_ne 10 dX11_call_5 (by decide) (fun c4 => ?_) (fun c4 => ?_)
  · replace hf := (if_neg c4).symm.trans hf
    refine go_aload_n 0 dX11_call_10 rfl rfl ?_
    refine go_fR fl_X11_40 dX11_call_11 h0 (by decide) rfl ?_
    refine go_fR fl_X11_175 dX11_call_14 (hs.1 _ 11 4 h0 rfl) (by decide) rfl ?_
    refine go_iload_n 1 dX11_call_17 rfl rfl ?_
    obtain ⟨g5, hf⟩ := gd_some hf
    refine go_rI dX11_call_18 (hs.1 _ 9 3 (hs.1 _ 11 4 h0 rfl) rfl) (ib_in g5) ?_
    obtain ⟨y6, ey6, hf⟩ := nmd_some hf
    refine go_nm ey6 ?_
    refine go_istore_n 2 [some (.ref this), some (.int a1), some (.int y6)] dX11_call_19 rfl (by decide) rfl ?_
    refine go_aload_n 0 dX11_call_20 rfl rfl ?_
    refine go_fR fl_X11_40 dX11_call_21 h0 (by decide) rfl ?_
    refine go_fR fl_X11_175 dX11_call_24 (hs.1 _ 11 4 h0 rfl) (by decide) rfl ?_
    refine go_iload_n 1 dX11_call_27 rfl rfl ?_
    refine go_iconst (-1) dX11_call_28 (by decide) ?_
    obtain ⟨g7, hf⟩ := gd_some hf
    obtain ⟨σ8, eσ8, hf⟩ := nmd_some hf
    refine go_wI dX11_call_29 (hs.1 _ 9 3 (hs.1 _ 11 4 h0 rfl) rfl) (ib_in g7) ?_
    rw [eσ8]
    refine go_aload_n 0 dX11_call_30 rfl rfl ?_
    refine go_fR fl_X11_50 dX11_call_31 h0 (by decide) rfl ?_
    refine go_aload_n 0 dX11_call_34 rfl rfl ?_
    refine go_fR fl_X11_40 dX11_call_35 h0 (by decide) rfl ?_
    obtain ⟨r9, σ10, q11, hf⟩ := bnd_some hf
    refine go_Vv (av := [.ref (ρ this 4)]) (rest := []) (t_X4_add hs (hs.1 _ 11 6 h0 rfl) (hs.1 _ 11 4 h0 rfl) q11) ok_X4_add ml_X11_252 dX11_call_38 (hs.1 _ 11 6 h0 rfl) rfl rfl (by decide) (Nat.le_refl _) (Nat.le_refl _) (Nat.le_of_ble_eq_true rfl) ?_
    refine go_iload_n 2 dX11_call_41 rfl rfl ?_
    cases hf
    exact go_iret rfl dX11_call_42 (Nat.le_refl _) ⟨rfl, rfl⟩
  · replace hf := (if_pos c4).symm.trans hf
    refine go_iconst (-1) dX11_call_8 (by decide) ?_
    cases hf
    exact go_iret rfl dX11_call_9 (Nat.le_refl _) ⟨rfl, rfl⟩
def f_X11_evening (N : Nat) (ρ : Nat → Nat → Nat) (this : Nat) (σ : St) : Option (Int32 × St) :=
  if (σ.1 (ρ this 4) 4 : Int32) < 999 then
    bnd (f_X9_drawCold N ρ (ρ this 4) (ρ this 2) σ) fun r2 σ3 =>
    bnd (f_X9_passEvening N ρ (ρ this 4) (ρ this 2) r2 σ3) fun _ σ6 =>
    bnd (f_X4_add N ρ (ρ this 6) (ρ this 4) σ6) fun _ σ9 =>
    some (r2, σ9)
  else
    some ((-1), σ)
set_option maxRecDepth 100000 in
set_option maxHeartbeats 4000000 in
theorem t_X11_evening {N : Nat} {Γ : SG} {ρ : Nat → Nat → Nat} (hs : Sh Γ ρ) {this : Nat} (h0 : Γ[this]? = some (0, 11)) {σ : St} {r : Int32} {σr : St} (hf : f_X11_evening N ρ this σ = some (r, σr)) : Tri mX11_evening 5 0 0 [.ref this] (hp Γ ρ σ) (Ki Γ ρ r σr) := by
  unfold f_X11_evening at hf
  refine tri_of [some (.ref this), none] (plainFor_of_name rfl) rfl (Nat.le_of_ble_eq_true rfl) ?_
  refine go_aload_n 0 dX11_evening_0 rfl rfl ?_
  refine go_fR fl_X11_40 dX11_evening_1 h0 (by decide) rfl ?_
  refine go_fI fl_X11_221 dX11_evening_4 (hs.1 _ 11 4 h0 rfl) (by decide) rfl ?_
  refine go_sipush 999 dX11_evening_7 (by decide) ?_
  refine go_icmp_lt 15 dX11_evening_10 (by decide) (fun c1 => ?_) (fun c1 => ?_)
  · replace hf := (if_pos c1).symm.trans hf
    refine go_aload_n 0 dX11_evening_15 rfl rfl ?_
    refine go_fR fl_X11_40 dX11_evening_16 h0 (by decide) rfl ?_
    refine go_aload_n 0 dX11_evening_19 rfl rfl ?_
    refine go_fR fl_X11_30 dX11_evening_20 h0 (by decide) rfl ?_
    obtain ⟨r2, σ3, q4, hf⟩ := bnd_some hf
    refine go_Vi (av := [.ref (ρ this 2)]) (rest := []) (t_X9_drawCold hs (hs.1 _ 11 4 h0 rfl) (hs.1 _ 11 2 h0 rfl) q4) ok_X9_drawCold ml_X11_255 dX11_evening_23 (hs.1 _ 11 4 h0 rfl) rfl rfl (by decide) (Nat.le_refl _) (Nat.le_refl _) (Nat.le_of_ble_eq_true rfl) ?_
    refine go_istore_n 1 [some (.ref this), some (.int r2)] dX11_evening_26 rfl (by decide) rfl ?_
    refine go_aload_n 0 dX11_evening_27 rfl rfl ?_
    refine go_fR fl_X11_40 dX11_evening_28 h0 (by decide) rfl ?_
    refine go_aload_n 0 dX11_evening_31 rfl rfl ?_
    refine go_fR fl_X11_30 dX11_evening_32 h0 (by decide) rfl ?_
    refine go_iload_n 1 dX11_evening_35 rfl rfl ?_
    obtain ⟨r5, σ6, q7, hf⟩ := bnd_some hf
    refine go_Vv (av := [.ref (ρ this 2), .int r2]) (rest := []) (t_X9_passEvening hs (hs.1 _ 11 4 h0 rfl) (hs.1 _ 11 2 h0 rfl) q7) ok_X9_passEvening ml_X11_258 dX11_evening_36 (hs.1 _ 11 4 h0 rfl) rfl rfl (by decide) (Nat.le_refl _) (Nat.le_refl _) (Nat.le_of_ble_eq_true rfl) ?_
    refine go_aload_n 0 dX11_evening_39 rfl rfl ?_
    refine go_fR fl_X11_50 dX11_evening_40 h0 (by decide) rfl ?_
    refine go_aload_n 0 dX11_evening_43 rfl rfl ?_
    refine go_fR fl_X11_40 dX11_evening_44 h0 (by decide) rfl ?_
    obtain ⟨r8, σ9, q10, hf⟩ := bnd_some hf
    refine go_Vv (av := [.ref (ρ this 4)]) (rest := []) (t_X4_add hs (hs.1 _ 11 6 h0 rfl) (hs.1 _ 11 4 h0 rfl) q10) ok_X4_add ml_X11_252 dX11_evening_47 (hs.1 _ 11 6 h0 rfl) rfl rfl (by decide) (Nat.le_refl _) (Nat.le_refl _) (Nat.le_of_ble_eq_true rfl) ?_
    refine go_iload_n 1 dX11_evening_50 rfl rfl ?_
    cases hf
    exact go_iret rfl dX11_evening_51 (Nat.le_refl _) ⟨rfl, rfl⟩
  · replace hf := (if_neg c1).symm.trans hf
    refine go_iconst (-1) dX11_evening_13 (by decide) ?_
    cases hf
    exact go_iret rfl dX11_evening_14 (Nat.le_refl _) ⟨rfl, rfl⟩
def f_X11_undo (N : Nat) (ρ : Nat → Nat → Nat) (this : Nat) (σ : St) : Option (Int32 × St) :=
  bnd (f_X4_stepBack N ρ (ρ this 6) (ρ this 4) σ) fun r1 σ2 =>
  gd (bb r1) <|
  some (r1, σ2)
set_option maxRecDepth 100000 in
set_option maxHeartbeats 4000000 in
theorem t_X11_undo {N : Nat} {Γ : SG} {ρ : Nat → Nat → Nat} (hs : Sh Γ ρ) {this : Nat} (h0 : Γ[this]? = some (0, 11)) {σ : St} {r : Int32} {σr : St} (hf : f_X11_undo N ρ this σ = some (r, σr)) : Tri mX11_undo 3 0 0 [.ref this] (hp Γ ρ σ) (Ki Γ ρ r σr) := by
  unfold f_X11_undo at hf
  refine tri_of [some (.ref this)] (plainFor_of_name rfl) rfl (Nat.le_of_ble_eq_true rfl) ?_
  refine go_aload_n 0 dX11_undo_0 rfl rfl ?_
  refine go_fR fl_X11_50 dX11_undo_1 h0 (by decide) rfl ?_
  refine go_aload_n 0 dX11_undo_4 rfl rfl ?_
  refine go_fR fl_X11_40 dX11_undo_5 h0 (by decide) rfl ?_
  obtain ⟨r1, σ2, q3, hf⟩ := bnd_some hf
  refine go_Vi (av := [.ref (ρ this 4)]) (rest := []) (t_X4_stepBack hs (hs.1 _ 11 6 h0 rfl) (hs.1 _ 11 4 h0 rfl) q3) ok_X4_stepBack ml_X11_262 dX11_undo_8 (hs.1 _ 11 6 h0 rfl) rfl rfl (by decide) (Nat.le_refl _) (Nat.le_refl _) (Nat.le_of_ble_eq_true rfl) ?_
  obtain ⟨g4, hf⟩ := gd_some hf
  cases hf
  exact go_zret rfl (bb_of g4) dX11_undo_11 (Nat.le_refl _) ⟨rfl, rfl⟩
def f_X11_redo (N : Nat) (ρ : Nat → Nat → Nat) (this : Nat) (σ : St) : Option (Int32 × St) :=
  bnd (f_X4_stepOn N ρ (ρ this 6) (ρ this 4) σ) fun r1 σ2 =>
  gd (bb r1) <|
  some (r1, σ2)
set_option maxRecDepth 100000 in
set_option maxHeartbeats 4000000 in
theorem t_X11_redo {N : Nat} {Γ : SG} {ρ : Nat → Nat → Nat} (hs : Sh Γ ρ) {this : Nat} (h0 : Γ[this]? = some (0, 11)) {σ : St} {r : Int32} {σr : St} (hf : f_X11_redo N ρ this σ = some (r, σr)) : Tri mX11_redo 3 0 0 [.ref this] (hp Γ ρ σ) (Ki Γ ρ r σr) := by
  unfold f_X11_redo at hf
  refine tri_of [some (.ref this)] (plainFor_of_name rfl) rfl (Nat.le_of_ble_eq_true rfl) ?_
  refine go_aload_n 0 dX11_redo_0 rfl rfl ?_
  refine go_fR fl_X11_50 dX11_redo_1 h0 (by decide) rfl ?_
  refine go_aload_n 0 dX11_redo_4 rfl rfl ?_
  refine go_fR fl_X11_40 dX11_redo_5 h0 (by decide) rfl ?_
  obtain ⟨r1, σ2, q3, hf⟩ := bnd_some hf
  refine go_Vi (av := [.ref (ρ this 4)]) (rest := []) (t_X4_stepOn hs (hs.1 _ 11 6 h0 rfl) (hs.1 _ 11 4 h0 rfl) q3) ok_X4_stepOn ml_X11_266 dX11_redo_8 (hs.1 _ 11 6 h0 rfl) rfl rfl (by decide) (Nat.le_refl _) (Nat.le_refl _) (Nat.le_of_ble_eq_true rfl) ?_
  obtain ⟨g4, hf⟩ := gd_some hf
  cases hf
  exact go_zret rfl (bb_of g4) dX11_redo_11 (Nat.le_refl _) ⟨rfl, rfl⟩
def f_X11_image_9 (N : Nat) (ρ : Nat → Nat → Nat) (this : Nat) (a1 : Int32) (σ : St) : Option (Int32 × St) :=
  some ((-1), σ)
def f_X11_image (N : Nat) (ρ : Nat → Nat → Nat) (this : Nat) (a1 : Int32) (σ : St) : Option (Int32 × St) :=
  if (a1 : Int32) < 0 then
    f_X11_image_9 N ρ this a1 σ
  else
    if (a1 : Int32) < 3 then
      bnd (f_X9_keepIn N ρ (ρ this 4) (ρ this 7) 66 (a1 * 22) σ) fun _ σ4 =>
      gd (ib a1 3) <|
      nmd (sI σ4 (ρ this 8) a1.toNatClampNeg (vp_nar .boolean 1)) fun σ7 =>
      some (σ7.1 (ρ this 4) 4, σ7)
    else
      f_X11_image_9 N ρ this a1 σ
set_option maxRecDepth 100000 in
set_option maxHeartbeats 4000000 in
theorem w_X11_image_9 {N : Nat} {Γ : SG} {ρ : Nat → Nat → Nat} (hs : Sh Γ ρ) {this : Nat} {a1 : Int32} (h0 : Γ[this]? = some (0, 11)) {n0 : Nat} {r : Int32} {σr : St} (σ : St) (hf : f_X11_image_9 N ρ this a1 σ = some (r, σr)) : Go mX11_image 2 0 0 n0 (Ki Γ ρ r σr) 0 0 9 [none, none] [] (hp Γ ρ σ) := by
  unfold f_X11_image_9 at hf
  refine go_iconst (-1) dX11_image_9 (by decide) ?_
  cases hf
  exact go_iret rfl dX11_image_10 (Nat.le_refl _) ⟨rfl, rfl⟩
set_option maxRecDepth 100000 in
set_option maxHeartbeats 4000000 in
theorem t_X11_image {N : Nat} {Γ : SG} {ρ : Nat → Nat → Nat} (hs : Sh Γ ρ) {this : Nat} {a1 : Int32} (h0 : Γ[this]? = some (0, 11)) {σ : St} {r : Int32} {σr : St} (hf : f_X11_image N ρ this a1 σ = some (r, σr)) : Tri mX11_image 2 0 0 [.ref this, .int a1] (hp Γ ρ σ) (Ki Γ ρ r σr) := by
  unfold f_X11_image at hf
  refine tri_of [some (.ref this), some (.int a1)] (plainFor_of_name rfl) rfl (Nat.le_of_ble_eq_true rfl) ?_
  refine go_iload_n 1 dX11_image_0 rfl rfl ?_
  refine go_if_lt 9 dX11_image_1 (by decide) (fun c1 => ?_) (fun c1 => ?_)
  · replace hf := (if_pos c1).symm.trans hf
    refine go_msk [false, false] [none, none] rfl ?_
    exact w_X11_image_9 hs h0 σ hf
  · replace hf := (if_neg c1).symm.trans hf
    refine go_iload_n 1 dX11_image_4 rfl rfl ?_
    refine go_iconst 3 dX11_image_5 (by decide) ?_
    refine go_icmp_lt 11 dX11_image_6 (by decide) (fun c2 => ?_) (fun c2 => ?_)
    · replace hf := (if_pos c2).symm.trans hf
      refine go_aload_n 0 dX11_image_11 rfl rfl ?_
      refine go_fR fl_X11_40 dX11_image_12 h0 (by decide) rfl ?_
      refine go_aload_n 0 dX11_image_15 rfl rfl ?_
      refine go_fR fl_X11_54 dX11_image_16 h0 (by decide) rfl ?_
      refine go_iload_n 1 dX11_image_19 rfl rfl ?_
      refine go_bipush 22 dX11_image_20 (by decide) ?_
      refine go_imul dX11_image_22 ?_
      obtain ⟨r3, σ4, q5, hf⟩ := bnd_some hf
      refine go_Vv (av := [.ref (ρ this 7), .int (a1 * 22)]) (rest := []) (t_X9_keepIn hs (hs.1 _ 11 4 h0 rfl) (hs.1 _ 11 7 h0 rfl) q5) ok_X9_keepIn ml_X11_269 dX11_image_23 (hs.1 _ 11 4 h0 rfl) rfl rfl (by decide) (Nat.le_refl _) (Nat.le_refl _) (Nat.le_of_ble_eq_true rfl) ?_
      refine go_aload_n 0 dX11_image_26 rfl rfl ?_
      refine go_fR fl_X11_58 dX11_image_27 h0 (by decide) rfl ?_
      refine go_iload_n 1 dX11_image_30 rfl rfl ?_
      refine go_iconst 1 dX11_image_31 (by decide) ?_
      obtain ⟨g6, hf⟩ := gd_some hf
      obtain ⟨σ7, eσ7, hf⟩ := nmd_some hf
      refine go_wZ dX11_image_32 (hs.1 _ 11 8 h0 rfl) (ib_in g6) ?_
      rw [eσ7]
      refine go_aload_n 0 dX11_image_33 rfl rfl ?_
      refine go_fR fl_X11_40 dX11_image_34 h0 (by decide) rfl ?_
      refine go_fI fl_X11_221 dX11_image_37 (hs.1 _ 11 4 h0 rfl) (by decide) rfl ?_
      cases hf
      exact go_iret rfl dX11_image_40 (Nat.le_refl _) ⟨rfl, rfl⟩
    · replace hf := (if_neg c2).symm.trans hf
      refine go_msk [false, false] [none, none] rfl ?_
      exact w_X11_image_9 hs h0 σ hf
def f_X11_back_18 (N : Nat) (ρ : Nat → Nat → Nat) (this : Nat) (a1 : Int32) (σ : St) : Option (Int32 × St) :=
  some ((-1), σ)
def f_X11_back (N : Nat) (ρ : Nat → Nat → Nat) (this : Nat) (a1 : Int32) (σ : St) : Option (Int32 × St) :=
  if (a1 : Int32) < 0 then
    f_X11_back_18 N ρ this a1 σ
  else
    if 3 ≤ (a1 : Int32) then
      f_X11_back_18 N ρ this a1 σ
    else
      gd (ib a1 3) <|
      if (σ.1 (ρ this 8) a1.toNatClampNeg : Int32) = 0 then
        f_X11_back_18 N ρ this a1 σ
      else
        bnd (f_X9_takeFrom N ρ (ρ this 4) (ρ this 7) 66 (a1 * 22) σ) fun _ σ6 =>
        bnd (f_X4_begin N ρ (ρ this 6) (ρ this 4) σ6) fun _ σ9 =>
        some (σ9.1 (ρ this 4) 4, σ9)
set_option maxRecDepth 100000 in
set_option maxHeartbeats 4000000 in
theorem w_X11_back_18 {N : Nat} {Γ : SG} {ρ : Nat → Nat → Nat} (hs : Sh Γ ρ) {this : Nat} {a1 : Int32} (h0 : Γ[this]? = some (0, 11)) {n0 : Nat} {r : Int32} {σr : St} (σ : St) (hf : f_X11_back_18 N ρ this a1 σ = some (r, σr)) : Go mX11_back 3 0 0 n0 (Ki Γ ρ r σr) 0 0 18 [none, none] [] (hp Γ ρ σ) := by
  unfold f_X11_back_18 at hf
  refine go_iconst (-1) dX11_back_18 (by decide) ?_
  cases hf
  exact go_iret rfl dX11_back_19 (Nat.le_refl _) ⟨rfl, rfl⟩
set_option maxRecDepth 100000 in
set_option maxHeartbeats 4000000 in
theorem t_X11_back {N : Nat} {Γ : SG} {ρ : Nat → Nat → Nat} (hs : Sh Γ ρ) {this : Nat} {a1 : Int32} (h0 : Γ[this]? = some (0, 11)) {σ : St} {r : Int32} {σr : St} (hf : f_X11_back N ρ this a1 σ = some (r, σr)) : Tri mX11_back 3 0 0 [.ref this, .int a1] (hp Γ ρ σ) (Ki Γ ρ r σr) := by
  unfold f_X11_back at hf
  refine tri_of [some (.ref this), some (.int a1)] (plainFor_of_name rfl) rfl (Nat.le_of_ble_eq_true rfl) ?_
  refine go_iload_n 1 dX11_back_0 rfl rfl ?_
  refine go_if_lt 18 dX11_back_1 (by decide) (fun c1 => ?_) (fun c1 => ?_)
  · replace hf := (if_pos c1).symm.trans hf
    refine go_msk [false, false] [none, none] rfl ?_
    exact w_X11_back_18 hs h0 σ hf
  · replace hf := (if_neg c1).symm.trans hf
    refine go_iload_n 1 dX11_back_4 rfl rfl ?_
    refine go_iconst 3 dX11_back_5 (by decide) ?_
    refine go_icmp_ge 18 dX11_back_6 (by decide) (fun c2 => ?_) (fun c2 => ?_)
    · replace hf := (if_pos c2).symm.trans hf
      refine go_msk [false, false] [none, none] rfl ?_
      exact w_X11_back_18 hs h0 σ hf
    · replace hf := (if_neg c2).symm.trans hf
      refine go_aload_n 0 dX11_back_9 rfl rfl ?_
      refine go_fR fl_X11_58 dX11_back_10 h0 (by decide) rfl ?_
      refine go_iload_n 1 dX11_back_13 rfl rfl ?_
      obtain ⟨g3, hf⟩ := gd_some hf
      refine go_rZ dX11_back_14 (hs.1 _ 11 8 h0 rfl) (ib_in g3) ?_
      refine go_if_ne 20 dX11_back_15 (by decide) (fun c4 => ?_) (fun c4 => ?_)
      · replace hf := (if_neg c4).symm.trans hf
        refine go_aload_n 0 dX11_back_20 rfl rfl ?_
        refine go_fR fl_X11_40 dX11_back_21 h0 (by decide) rfl ?_
        refine go_aload_n 0 dX11_back_24 rfl rfl ?_
        refine go_fR fl_X11_54 dX11_back_25 h0 (by decide) rfl ?_
        refine go_iload_n 1 dX11_back_28 rfl rfl ?_
        refine go_bipush 22 dX11_back_29 (by decide) ?_
        refine go_imul dX11_back_31 ?_
        obtain ⟨r5, σ6, q7, hf⟩ := bnd_some hf
        refine go_Vv (av := [.ref (ρ this 7), .int (a1 * 22)]) (rest := []) (t_X9_takeFrom hs (hs.1 _ 11 4 h0 rfl) (hs.1 _ 11 7 h0 rfl) q7) ok_X9_takeFrom ml_X11_273 dX11_back_32 (hs.1 _ 11 4 h0 rfl) rfl rfl (by decide) (Nat.le_refl _) (Nat.le_refl _) (Nat.le_of_ble_eq_true rfl) ?_
        refine go_aload_n 0 dX11_back_35 rfl rfl ?_
        refine go_fR fl_X11_50 dX11_back_36 h0 (by decide) rfl ?_
        refine go_aload_n 0 dX11_back_39 rfl rfl ?_
        refine go_fR fl_X11_40 dX11_back_40 h0 (by decide) rfl ?_
        obtain ⟨r8, σ9, q10, hf⟩ := bnd_some hf
        refine go_Vv (av := [.ref (ρ this 4)]) (rest := []) (t_X4_begin hs (hs.1 _ 11 6 h0 rfl) (hs.1 _ 11 4 h0 rfl) q10) ok_X4_begin ml_X11_103 dX11_back_43 (hs.1 _ 11 6 h0 rfl) rfl rfl (by decide) (Nat.le_refl _) (Nat.le_refl _) (Nat.le_of_ble_eq_true rfl) ?_
        refine go_aload_n 0 dX11_back_46 rfl rfl ?_
        refine go_fR fl_X11_40 dX11_back_47 h0 (by decide) rfl ?_
        refine go_fI fl_X11_221 dX11_back_50 (hs.1 _ 11 4 h0 rfl) (by decide) rfl ?_
        cases hf
        exact go_iret rfl dX11_back_53 (Nat.le_refl _) ⟨rfl, rfl⟩
      · replace hf := (if_pos c4).symm.trans hf
        refine go_msk [false, false] [none, none] rfl ?_
        exact w_X11_back_18 hs h0 σ hf
def f_X11_layDownSending (N : Nat) (ρ : Nat → Nat → Nat) (this : Nat) (σ : St) : Option (Int32 × St) :=
  nmd (sI σ this 14 (σ.1 (ρ this 2) 12)) fun σ1 =>
  gd (cpok 5 5 0 0 (σ1.1 this 14)) <|
  nmd (cpyI σ1 (ρ (ρ this 9) 4) (ρ this 13) 0 0 (σ1.1 this 14)) fun σ3 =>
  some (0, σ3)
set_option maxRecDepth 100000 in
set_option maxHeartbeats 4000000 in
theorem t_X11_layDownSending {N : Nat} {Γ : SG} {ρ : Nat → Nat → Nat} (hs : Sh Γ ρ) {this : Nat} (h0 : Γ[this]? = some (0, 11)) {σ : St} {r : Int32} {σr : St} (hf : f_X11_layDownSending N ρ this σ = some (r, σr)) : Tri mX11_layDownSending 1 0 0 [.ref this] (hp Γ ρ σ) (Kv Γ ρ σr) := by
  unfold f_X11_layDownSending at hf
  refine tri_of [some (.ref this)] (plainFor_of_name rfl) rfl (Nat.le_of_ble_eq_true rfl) ?_
  refine go_aload_n 0 dX11_layDownSending_0 rfl rfl ?_
  refine go_aload_n 0 dX11_layDownSending_1 rfl rfl ?_
  refine go_fR fl_X11_30 dX11_layDownSending_2 h0 (by decide) rfl ?_
  refine go_fI fl_X11_132 dX11_layDownSending_5 (hs.1 _ 11 2 h0 rfl) (by decide) rfl ?_
  obtain ⟨σ1, eσ1, hf⟩ := nmd_some hf
  refine go_pI fl_X11_89 ft_11_14 (okv_i _) dX11_layDownSending_8 h0 (by decide) rfl ?_
  rw [eσ1]
  refine go_aload_n 0 dX11_layDownSending_11 rfl rfl ?_
  refine go_fR fl_X11_65 dX11_layDownSending_12 h0 (by decide) rfl ?_
  refine go_fR fl_X11_362 dX11_layDownSending_15 (hs.1 _ 11 9 h0 rfl) (by decide) rfl ?_
  refine go_iconst 0 dX11_layDownSending_18 (by decide) ?_
  refine go_aload_n 0 dX11_layDownSending_19 rfl rfl ?_
  refine go_fR fl_X11_86 dX11_layDownSending_20 h0 (by decide) rfl ?_
  refine go_iconst 0 dX11_layDownSending_23 (by decide) ?_
  refine go_aload_n 0 dX11_layDownSending_24 rfl rfl ?_
  refine go_fI fl_X11_89 dX11_layDownSending_25 h0 (by decide) rfl ?_
  obtain ⟨g2, hf⟩ := gd_some hf
  obtain ⟨σ3, eσ3, hf⟩ := nmd_some hf
  refine go_cpy ml_X11_365 dX11_layDownSending_28 (hs.1 _ 8 4 (hs.1 _ 11 9 h0 rfl) rfl) (hs.1 _ 11 13 h0 rfl) g2 (by decide) (Nat.le_of_ble_eq_true rfl) ?_
  rw [eσ3]
  cases hf
  exact go_vret rfl dX11_layDownSending_31 (Nat.le_refl _) ⟨rfl, rfl⟩
def f_X11_round_9 (N : Nat) (ρ : Nat → Nat → Nat) (this : Nat) (a1 : Int32) (σ : St) : Option (Int32 × St) :=
  some ((-1), σ)
def f_X11_round_53 (N : Nat) (ρ : Nat → Nat → Nat) (this : Nat) (a1 : Int32) (s0 : Int32) (σ : St) : Option (Int32 × St) :=
  some (s0, σ)
def f_X11_round (N : Nat) (ρ : Nat → Nat → Nat) (this : Nat) (a1 : Int32) (σ : St) : Option (Int32 × St) :=
  if (a1 : Int32) < 0 then
    f_X11_round_9 N ρ this a1 σ
  else
    if (a1 : Int32) ≤ 1 then
      bnd (f_X8_find N ρ (ρ this 9) (ρ this 2) (ρ this 4) 0 σ) fun r3 σ4 =>
      bnd (f_X11_layDownSending N ρ this σ4) fun _ σ7 =>
      if (a1 : Int32) = 0 then
        f_X11_round_53 N ρ this a1 (σ7.1 (ρ this 9) 5) σ7
      else
        f_X11_round_53 N ρ this a1 (σ7.1 (ρ this 9) 6) σ7
    else
      f_X11_round_9 N ρ this a1 σ
set_option maxRecDepth 100000 in
set_option maxHeartbeats 4000000 in
theorem w_X11_round_9 {N : Nat} {Γ : SG} {ρ : Nat → Nat → Nat} (hs : Sh Γ ρ) {this : Nat} {a1 : Int32} (h0 : Γ[this]? = some (0, 11)) {n0 : Nat} {r : Int32} {σr : St} (σ : St) (hf : f_X11_round_9 N ρ this a1 σ = some (r, σr)) : Go mX11_round 6 0 0 n0 (Ki Γ ρ r σr) 0 0 9 [none, none] [] (hp Γ ρ σ) := by
  unfold f_X11_round_9 at hf
  refine go_iconst (-1) dX11_round_9 (by decide) ?_
  cases hf
  exact go_iret rfl dX11_round_10 (Nat.le_refl _) ⟨rfl, rfl⟩
set_option maxRecDepth 100000 in
set_option maxHeartbeats 4000000 in
theorem w_X11_round_53 {N : Nat} {Γ : SG} {ρ : Nat → Nat → Nat} (hs : Sh Γ ρ) {this : Nat} {a1 : Int32} (h0 : Γ[this]? = some (0, 11)) {n0 : Nat} {r : Int32} {σr : St} (s0 : Int32) (σ : St) (hf : f_X11_round_53 N ρ this a1 s0 σ = some (r, σr)) : Go mX11_round 6 0 0 n0 (Ki Γ ρ r σr) 0 0 53 [none, none] [.int s0] (hp Γ ρ σ) := by
  unfold f_X11_round_53 at hf
  cases hf
  exact go_iret rfl dX11_round_53 (Nat.le_refl _) ⟨rfl, rfl⟩
set_option maxRecDepth 100000 in
set_option maxHeartbeats 4000000 in
theorem t_X11_round {N : Nat} {Γ : SG} {ρ : Nat → Nat → Nat} (hs : Sh Γ ρ) {this : Nat} {a1 : Int32} (h0 : Γ[this]? = some (0, 11)) {σ : St} {r : Int32} {σr : St} (hf : f_X11_round N ρ this a1 σ = some (r, σr)) : Tri mX11_round 6 0 0 [.ref this, .int a1] (hp Γ ρ σ) (Ki Γ ρ r σr) := by
  unfold f_X11_round at hf
  refine tri_of [some (.ref this), some (.int a1)] (plainFor_of_name rfl) rfl (Nat.le_of_ble_eq_true rfl) ?_
  refine go_iload_n 1 dX11_round_0 rfl rfl ?_
  refine go_if_lt 9 dX11_round_1 (by decide) (fun c1 => ?_) (fun c1 => ?_)
  · replace hf := (if_pos c1).symm.trans hf
    refine go_msk [false, false] [none, none] rfl ?_
    exact w_X11_round_9 hs h0 σ hf
  · replace hf := (if_neg c1).symm.trans hf
    refine go_iload_n 1 dX11_round_4 rfl rfl ?_
    refine go_iconst 1 dX11_round_5 (by decide) ?_
    refine go_icmp_le 11 dX11_round_6 (by decide) (fun c2 => ?_) (fun c2 => ?_)
    · replace hf := (if_pos c2).symm.trans hf
      refine go_aload_n 0 dX11_round_11 rfl rfl ?_
      refine go_fR fl_X11_65 dX11_round_12 h0 (by decide) rfl ?_
      refine go_aload_n 0 dX11_round_15 rfl rfl ?_
      refine go_fR fl_X11_30 dX11_round_16 h0 (by decide) rfl ?_
      refine go_aload_n 0 dX11_round_19 rfl rfl ?_
      refine go_fR fl_X11_40 dX11_round_20 h0 (by decide) rfl ?_
      refine go_iconst 0 dX11_round_23 (by decide) ?_
      obtain ⟨r3, σ4, q5, hf⟩ := bnd_some hf
      refine go_Vi (av := [.ref (ρ this 2), .ref (ρ this 4), .int 0]) (rest := []) (t_X8_find hs (hs.1 _ 11 9 h0 rfl) (hs.1 _ 11 2 h0 rfl) (hs.1 _ 11 4 h0 rfl) q5) ok_X8_find ml_X11_276 dX11_round_24 (hs.1 _ 11 9 h0 rfl) rfl rfl (by decide) (Nat.le_refl _) (Nat.le_refl _) (Nat.le_of_ble_eq_true rfl) ?_
      refine go_pop dX11_round_27 rfl ?_
      refine go_aload_n 0 dX11_round_28 rfl rfl ?_
      obtain ⟨r6, σ7, q8, hf⟩ := bnd_some hf
      refine go_Vv (av := []) (rest := []) (t_X11_layDownSending hs h0 q8) ok_X11_layDownSending ml_X11_280 dX11_round_29 h0 rfl rfl (by decide) (Nat.le_refl _) (Nat.le_refl _) (Nat.le_of_ble_eq_true rfl) ?_
      refine go_iload_n 1 dX11_round_32 rfl rfl ?_
      refine go_if_ne 46 dX11_round_33 (by decide) (fun c9 => ?_) (fun c9 => ?_)
      · replace hf := (if_neg c9).symm.trans hf
        refine go_aload_n 0 dX11_round_46 rfl rfl ?_
        refine go_fR fl_X11_65 dX11_round_47 h0 (by decide) rfl ?_
        refine go_fI fl_X11_285 dX11_round_50 (hs.1 _ 11 9 h0 rfl) (by decide) rfl ?_
        refine go_msk [false, false] [none, none] rfl ?_
        exact w_X11_round_53 hs h0 (σ7.1 (ρ this 9) 6) σ7 hf
      · replace hf := (if_pos c9).symm.trans hf
        refine go_aload_n 0 dX11_round_36 rfl rfl ?_
        refine go_fR fl_X11_65 dX11_round_37 h0 (by decide) rfl ?_
        refine go_fI fl_X11_283 dX11_round_40 (hs.1 _ 11 9 h0 rfl) (by decide) rfl ?_
        refine go_goto 53 dX11_round_43 (by decide) ?_
        refine go_msk [false, false] [none, none] rfl ?_
        exact w_X11_round_53 hs h0 (σ7.1 (ρ this 9) 5) σ7 hf
    · replace hf := (if_neg c2).symm.trans hf
      refine go_msk [false, false] [none, none] rfl ?_
      exact w_X11_round_9 hs h0 σ hf
def f_X11_service (N : Nat) (ρ : Nat → Nat → Nat) (this : Nat) (σ : St) : Option (Int32 × St) :=
  nmd (sI σ this 14 0) fun σ1 =>
  bnd (f_X8_find N ρ (ρ this 9) (ρ this 2) (ρ this 4) 1 σ1) fun r2 σ3 =>
  if (r2 : Int32) = 0 then
    some ((-1), σ3)
  else
    bnd (f_X11_layDownSending N ρ this σ3) fun _ σ7 =>
    some (σ7.1 (ρ this 9) 6, σ7)
set_option maxRecDepth 100000 in
set_option maxHeartbeats 4000000 in
theorem t_X11_service {N : Nat} {Γ : SG} {ρ : Nat → Nat → Nat} (hs : Sh Γ ρ) {this : Nat} (h0 : Γ[this]? = some (0, 11)) {σ : St} {r : Int32} {σr : St} (hf : f_X11_service N ρ this σ = some (r, σr)) : Tri mX11_service 6 0 0 [.ref this] (hp Γ ρ σ) (Ki Γ ρ r σr) := by
  unfold f_X11_service at hf
  refine tri_of [some (.ref this)] (plainFor_of_name rfl) rfl (Nat.le_of_ble_eq_true rfl) ?_
  refine go_aload_n 0 dX11_service_0 rfl rfl ?_
  refine go_iconst 0 dX11_service_1 (by decide) ?_
  obtain ⟨σ1, eσ1, hf⟩ := nmd_some hf
  refine go_pI fl_X11_89 ft_11_14 (okv_i _) dX11_service_2 h0 (by decide) rfl ?_
  rw [eσ1]
  refine go_aload_n 0 dX11_service_5 rfl rfl ?_
  refine go_fR fl_X11_65 dX11_service_6 h0 (by decide) rfl ?_
  refine go_aload_n 0 dX11_service_9 rfl rfl ?_
  refine go_fR fl_X11_30 dX11_service_10 h0 (by decide) rfl ?_
  refine go_aload_n 0 dX11_service_13 rfl rfl ?_
  refine go_fR fl_X11_40 dX11_service_14 h0 (by decide) rfl ?_
  refine go_iconst 1 dX11_service_17 (by decide) ?_
  obtain ⟨r2, σ3, q4, hf⟩ := bnd_some hf
  refine go_Vi (av := [.ref (ρ this 2), .ref (ρ this 4), .int 1]) (rest := []) (t_X8_find hs (hs.1 _ 11 9 h0 rfl) (hs.1 _ 11 2 h0 rfl) (hs.1 _ 11 4 h0 rfl) q4) ok_X8_find ml_X11_276 dX11_service_18 (hs.1 _ 11 9 h0 rfl) rfl rfl (by decide) (Nat.le_refl _) (Nat.le_refl _) (Nat.le_of_ble_eq_true rfl) ?_
  refine go_if_ne 26 dX11_service_21 (by decide) (fun c5 => ?_) (fun c5 => ?_)
  · replace hf := (if_neg c5).symm.trans hf
    refine go_aload_n 0 dX11_service_26 rfl rfl ?_
    obtain ⟨r6, σ7, q8, hf⟩ := bnd_some hf
    refine go_Vv (av := []) (rest := []) (t_X11_layDownSending hs h0 q8) ok_X11_layDownSending ml_X11_280 dX11_service_27 h0 rfl rfl (by decide) (Nat.le_refl _) (Nat.le_refl _) (Nat.le_of_ble_eq_true rfl) ?_
    refine go_aload_n 0 dX11_service_30 rfl rfl ?_
    refine go_fR fl_X11_65 dX11_service_31 h0 (by decide) rfl ?_
    refine go_fI fl_X11_285 dX11_service_34 (hs.1 _ 11 9 h0 rfl) (by decide) rfl ?_
    cases hf
    exact go_iret rfl dX11_service_37 (Nat.le_refl _) ⟨rfl, rfl⟩
  · replace hf := (if_pos c5).symm.trans hf
    refine go_iconst (-1) dX11_service_24 (by decide) ?_
    cases hf
    exact go_iret rfl dX11_service_25 (Nat.le_refl _) ⟨rfl, rfl⟩
def f_X11_wouldAllCount_53 (N : Nat) (ρ : Nat → Nat → Nat) (this : Nat) (a1 : Int32) (a2 : Int32) (s0 : Int32) (σ : St) : Option (Int32 × St) :=
  gd (bb s0) <|
  some (s0, σ)
def f_X11_wouldAllCount_52 (N : Nat) (ρ : Nat → Nat → Nat) (this : Nat) (a1 : Int32) (a2 : Int32) (σ : St) : Option (Int32 × St) :=
  f_X11_wouldAllCount_53 N ρ this a1 a2 0 σ
def f_X11_wouldAllCount (N : Nat) (ρ : Nat → Nat → Nat) (this : Nat) (a1 : Int32) (a2 : Int32) (σ : St) : Option (Int32 × St) :=
  bnd (f_J6_bitCount_0f7a4 N ρ a2 σ) fun r2 σ3 =>
  gd (ib a1 6) <|
  if (σ3.1 (ρ (ρ this 2) 2) a1.toNatClampNeg) < (r2 : Int32) then
    f_X11_wouldAllCount_52 N ρ this a1 a2 σ3
  else
    bnd (f_X0_quarrelIn N ρ (ρ this 2) a2 σ3) fun r7 σ8 =>
    if (r7 : Int32) = 0 then
      bnd (f_X0_bearing N ρ (ρ this 2) (ρ this 4) a1 a2 r2 0 σ8) fun r11 σ12 =>
      if (r11 : Int32) = a2 then
        f_X11_wouldAllCount_53 N ρ this a1 a2 1 σ12
      else
        f_X11_wouldAllCount_52 N ρ this a1 a2 σ12
    else
      f_X11_wouldAllCount_52 N ρ this a1 a2 σ8
set_option maxRecDepth 100000 in
set_option maxHeartbeats 4000000 in
theorem w_X11_wouldAllCount_53 {N : Nat} {Γ : SG} {ρ : Nat → Nat → Nat} (hs : Sh Γ ρ) {this : Nat} {a1 : Int32} {a2 : Int32} (h0 : Γ[this]? = some (0, 11)) {n0 : Nat} {r : Int32} {σr : St} (s0 : Int32) (σ : St) (hf : f_X11_wouldAllCount_53 N ρ this a1 a2 s0 σ = some (r, σr)) : Go mX11_wouldAllCount 4 0 0 n0 (Ki Γ ρ r σr) 0 0 53 [none, none, none, none] [.int s0] (hp Γ ρ σ) := by
  unfold f_X11_wouldAllCount_53 at hf
  obtain ⟨g1, hf⟩ := gd_some hf
  cases hf
  exact go_zret rfl (bb_of g1) dX11_wouldAllCount_53 (Nat.le_refl _) ⟨rfl, rfl⟩
set_option maxRecDepth 100000 in
set_option maxHeartbeats 4000000 in
theorem w_X11_wouldAllCount_52 {N : Nat} {Γ : SG} {ρ : Nat → Nat → Nat} (hs : Sh Γ ρ) {this : Nat} {a1 : Int32} {a2 : Int32} (h0 : Γ[this]? = some (0, 11)) {n0 : Nat} {r : Int32} {σr : St} (σ : St) (hf : f_X11_wouldAllCount_52 N ρ this a1 a2 σ = some (r, σr)) : Go mX11_wouldAllCount 4 0 0 n0 (Ki Γ ρ r σr) 0 0 52 [none, none, none, none] [] (hp Γ ρ σ) := by
  unfold f_X11_wouldAllCount_52 at hf
  refine go_iconst 0 dX11_wouldAllCount_52 (by decide) ?_
  exact w_X11_wouldAllCount_53 hs h0 0 σ hf
set_option maxRecDepth 100000 in
set_option maxHeartbeats 4000000 in
theorem t_X11_wouldAllCount {N : Nat} {Γ : SG} {ρ : Nat → Nat → Nat} (hs : Sh Γ ρ) {this : Nat} {a1 : Int32} {a2 : Int32} (h0 : Γ[this]? = some (0, 11)) {σ : St} {r : Int32} {σr : St} (hf : f_X11_wouldAllCount N ρ this a1 a2 σ = some (r, σr)) : Tri mX11_wouldAllCount 4 0 0 [.ref this, .int a1, .int a2] (hp Γ ρ σ) (Ki Γ ρ r σr) := by
  unfold f_X11_wouldAllCount at hf
  refine tri_of [some (.ref this), some (.int a1), some (.int a2), none] (plainFor_of_name rfl) rfl (Nat.le_of_ble_eq_true rfl) ?_
  refine go_iload_n 2 dX11_wouldAllCount_0 rfl rfl ?_
  obtain ⟨r2, σ3, q4, hf⟩ := bnd_some hf
  refine go_Si (av := [.int a2]) (rest := []) (t_J6_bitCount_0f7a4 hs  q4) ok_J6_bitCount_0f7a4 ml_X11_185 dX11_wouldAllCount_1 rfl rfl (by decide) (Nat.le_refl _) (Nat.le_refl _) (Nat.le_of_ble_eq_true rfl) ?_
  refine go_istore_n 3 [some (.ref this), some (.int a1), some (.int a2), some (.int r2)] dX11_wouldAllCount_4 rfl (by decide) rfl ?_
  refine go_iload_n 3 dX11_wouldAllCount_5 rfl rfl ?_
  refine go_aload_n 0 dX11_wouldAllCount_6 rfl rfl ?_
  refine go_fR fl_X11_30 dX11_wouldAllCount_7 h0 (by decide) rfl ?_
  refine go_fR fl_X11_144 dX11_wouldAllCount_10 (hs.1 _ 11 2 h0 rfl) (by decide) rfl ?_
  refine go_iload_n 1 dX11_wouldAllCount_13 rfl rfl ?_
  obtain ⟨g5, hf⟩ := gd_some hf
  refine go_rI dX11_wouldAllCount_14 (hs.1 _ 0 2 (hs.1 _ 11 2 h0 rfl) rfl) (ib_in g5) ?_
  refine go_icmp_gt 52 dX11_wouldAllCount_15 (by decide) (fun c6 => ?_) (fun c6 => ?_)
  · replace hf := (if_pos c6).symm.trans hf
    refine go_msk [false, false, false, false] [none, none, none, none] rfl ?_
    exact w_X11_wouldAllCount_52 hs h0 σ3 hf
  · replace hf := (if_neg c6).symm.trans hf
    refine go_aload_n 0 dX11_wouldAllCount_18 rfl rfl ?_
    refine go_fR fl_X11_30 dX11_wouldAllCount_19 h0 (by decide) rfl ?_
    refine go_iload_n 2 dX11_wouldAllCount_22 rfl rfl ?_
    obtain ⟨r7, σ8, q9, hf⟩ := bnd_some hf
    refine go_Vi (av := [.int a2]) (rest := []) (t_X0_quarrelIn hs (hs.1 _ 11 2 h0 rfl) q9) ok_X0_quarrelIn ml_X11_154 dX11_wouldAllCount_23 (hs.1 _ 11 2 h0 rfl) rfl rfl (by decide) (Nat.le_refl _) (Nat.le_refl _) (Nat.le_of_ble_eq_true rfl) ?_
    refine go_if_ne 52 dX11_wouldAllCount_26 (by decide) (fun c10 => ?_) (fun c10 => ?_)
    · replace hf := (if_neg c10).symm.trans hf
      refine go_msk [false, false, false, false] [none, none, none, none] rfl ?_
      exact w_X11_wouldAllCount_52 hs h0 σ8 hf
    · replace hf := (if_pos c10).symm.trans hf
      refine go_aload_n 0 dX11_wouldAllCount_29 rfl rfl ?_
      refine go_fR fl_X11_30 dX11_wouldAllCount_30 h0 (by decide) rfl ?_
      refine go_aload_n 0 dX11_wouldAllCount_33 rfl rfl ?_
      refine go_fR fl_X11_40 dX11_wouldAllCount_34 h0 (by decide) rfl ?_
      refine go_iload_n 1 dX11_wouldAllCount_37 rfl rfl ?_
      refine go_iload_n 2 dX11_wouldAllCount_38 rfl rfl ?_
      refine go_iload_n 3 dX11_wouldAllCount_39 rfl rfl ?_
      refine go_iconst 0 dX11_wouldAllCount_40 (by decide) ?_
      obtain ⟨r11, σ12, q13, hf⟩ := bnd_some hf
      refine go_Vi (av := [.ref (ρ this 4), .int a1, .int a2, .int r2, .int 0]) (rest := []) (t_X0_bearing hs (hs.1 _ 11 2 h0 rfl) (hs.1 _ 11 4 h0 rfl) q13) ok_X0_bearing ml_X11_315 dX11_wouldAllCount_41 (hs.1 _ 11 2 h0 rfl) rfl rfl (by decide) (Nat.le_refl _) (Nat.le_refl _) (Nat.le_of_ble_eq_true rfl) ?_
      refine go_iload_n 2 dX11_wouldAllCount_44 rfl rfl ?_
      refine go_icmp_ne 52 dX11_wouldAllCount_45 (by decide) (fun c14 => ?_) (fun c14 => ?_)
      · replace hf := (if_neg c14).symm.trans hf
        refine go_msk [false, false, false, false] [none, none, none, none] rfl ?_
        exact w_X11_wouldAllCount_52 hs h0 σ12 hf
      · replace hf := (if_pos c14).symm.trans hf
        refine go_iconst 1 dX11_wouldAllCount_48 (by decide) ?_
        refine go_goto 53 dX11_wouldAllCount_49 (by decide) ?_
        refine go_msk [false, false, false, false] [none, none, none, none] rfl ?_
        exact w_X11_wouldAllCount_53 hs h0 1 σ12 hf
def f_X11_team_20 (N : Nat) (ρ : Nat → Nat → Nat) (this : Nat) (a1 : Int32) (a2 : Int32) (σ : St) : Option (Int32 × St) :=
  some ((-1), σ)
def f_X11_team_82 (N : Nat) (ρ : Nat → Nat → Nat) (this : Nat) (a1 : Int32) (a2 : Int32) (rec27 : Int32 → Int32 → St → Option (Int32 × St)) (x3 : Int32) (x4 : Int32) (σ : St) : Option (Int32 × St) :=
  rec27 x3 (x4 + 1) σ
def f_X11_team_62 (N : Nat) (ρ : Nat → Nat → Nat) (this : Nat) (a1 : Int32) (a2 : Int32) (rec27 : Int32 → Int32 → St → Option (Int32 × St)) (x3 : Int32) (x4 : Int32) (s0 : Int32) (σ : St) : Option (Int32 × St) :=
  if (s0 : Int32) = 0 then
    f_X11_team_82 N ρ this a1 a2 rec27 x3 x4 σ
  else
    bnd (f_X11_wouldAllCount N ρ this a1 x4 σ) fun r2 σ3 =>
    if (r2 : Int32) = 0 then
      f_X11_team_82 N ρ this a1 a2 rec27 x3 x4 σ3
    else
      f_X11_team_82 N ρ this a1 a2 rec27 x4 x4 σ3
def f_X11_team_57 (N : Nat) (ρ : Nat → Nat → Nat) (this : Nat) (a1 : Int32) (a2 : Int32) (rec27 : Int32 → Int32 → St → Option (Int32 × St)) (x3 : Int32) (x4 : Int32) (σ : St) : Option (Int32 × St) :=
  f_X11_team_62 N ρ this a1 a2 rec27 x3 x4 1 σ
def f_X11_team_106 (N : Nat) (ρ : Nat → Nat → Nat) (this : Nat) (a1 : Int32) (a2 : Int32) (s0 : Int32) (σ : St) : Option (Int32 × St) :=
  some (s0, σ)
def b_X11_team_27 (N : Nat) (ρ : Nat → Nat → Nat) (this : Nat) (a1 : Int32) (a2 : Int32) (rec27 : Int32 → Int32 → St → Option (Int32 × St)) (x3 : Int32) (x4 : Int32) (σ : St) : Option (Int32 × St) :=
  if (1 <<< ((σ.1 (ρ this 2) 12) &&& 31)) ≤ (x4 : Int32) then
    if (x3 : Int32) = 0 then
      some ((-1), σ)
    else
      if (a2 : Int32) = 0 then
        bnd (f_J6_bitCount_0f7a4 N ρ x3 σ) fun r9 σ10 =>
        f_X11_team_106 N ρ this a1 a2 r9 σ10
      else
        f_X11_team_106 N ρ this a1 a2 x3 σ
  else
    if (x3 : Int32) = 0 then
      f_X11_team_57 N ρ this a1 a2 rec27 x3 x4 σ
    else
      bnd (f_J6_bitCount_0f7a4 N ρ x4 σ) fun r13 σ14 =>
      bnd (f_J6_bitCount_0f7a4 N ρ x3 σ14) fun r16 σ17 =>
      if r16 ≤ (r13 : Int32) then
        f_X11_team_62 N ρ this a1 a2 rec27 x3 x4 0 σ17
      else
        f_X11_team_57 N ρ this a1 a2 rec27 x3 x4 σ17
def f_X11_team_27 (N : Nat) (ρ : Nat → Nat → Nat) (this : Nat) (a1 : Int32) (a2 : Int32) : Nat → Int32 → Int32 → St → Option (Int32 × St)
  | 0, _, _, _ => none
  | n + 1, x3, x4, σ => b_X11_team_27 N ρ this a1 a2 (f_X11_team_27 N ρ this a1 a2 n) x3 x4 σ
def f_X11_team (N : Nat) (ρ : Nat → Nat → Nat) (this : Nat) (a1 : Int32) (a2 : Int32) (σ : St) : Option (Int32 × St) :=
  bnd (f_X0_hasHearth N ρ (ρ this 2) a1 σ) fun r20 σ21 =>
  if (r20 : Int32) = 0 then
    f_X11_team_20 N ρ this a1 a2 σ21
  else
    if (a2 : Int32) < 0 then
      f_X11_team_20 N ρ this a1 a2 σ21
    else
      if (a2 : Int32) ≤ 1 then
        f_X11_team_27 N ρ this a1 a2 N 0 1 σ21
      else
        f_X11_team_20 N ρ this a1 a2 σ21
set_option maxRecDepth 100000 in
set_option maxHeartbeats 4000000 in
theorem w_X11_team_20 {N : Nat} {Γ : SG} {ρ : Nat → Nat → Nat} (hs : Sh Γ ρ) {this : Nat} {a1 : Int32} {a2 : Int32} (h0 : Γ[this]? = some (0, 11)) {n0 : Nat} {r : Int32} {σr : St} (σ : St) (hf : f_X11_team_20 N ρ this a1 a2 σ = some (r, σr)) : Go mX11_team 5 0 0 n0 (Ki Γ ρ r σr) 0 0 20 [none, none, none, none, none, none] [] (hp Γ ρ σ) := by
  unfold f_X11_team_20 at hf
  refine go_iconst (-1) dX11_team_20 (by decide) ?_
  cases hf
  exact go_iret rfl dX11_team_21 (Nat.le_refl _) ⟨rfl, rfl⟩
set_option maxRecDepth 100000 in
set_option maxHeartbeats 4000000 in
theorem w_X11_team_82 {N : Nat} {Γ : SG} {ρ : Nat → Nat → Nat} (hs : Sh Γ ρ) {this : Nat} {a1 : Int32} {a2 : Int32} (h0 : Γ[this]? = some (0, 11)) {n0 : Nat} {r : Int32} {σr : St} (rec27 : Int32 → Int32 → St → Option (Int32 × St)) (hrec27 : ∀ (x3 : Int32) (x4 : Int32) (σ : St), rec27 x3 x4 σ = some (r, σr) → Go mX11_team 5 0 0 n0 (Ki Γ ρ r σr) 0 0 27 [some (.ref this), some (.int a1), some (.int a2), some (.int x3), some (.int x4), none] [] (hp Γ ρ σ)) (x3 : Int32) (x4 : Int32) (σ : St) (hf : f_X11_team_82 N ρ this a1 a2 rec27 x3 x4 σ = some (r, σr)) : Go mX11_team 5 0 0 n0 (Ki Γ ρ r σr) 0 0 82 [some (.ref this), some (.int a1), some (.int a2), some (.int x3), some (.int x4), none] [] (hp Γ ρ σ) := by
  unfold f_X11_team_82 at hf
  refine go_iinc (x4 + 1) [some (.ref this), some (.int a1), some (.int a2), some (.int x3), some (.int (x4 + 1)), none] dX11_team_82 rfl rfl (by decide) rfl ?_
  refine go_goto 27 dX11_team_85 (by decide) ?_
  exact hrec27 x3 (x4 + 1) σ hf
set_option maxRecDepth 100000 in
set_option maxHeartbeats 4000000 in
theorem w_X11_team_62 {N : Nat} {Γ : SG} {ρ : Nat → Nat → Nat} (hs : Sh Γ ρ) {this : Nat} {a1 : Int32} {a2 : Int32} (h0 : Γ[this]? = some (0, 11)) {n0 : Nat} {r : Int32} {σr : St} (rec27 : Int32 → Int32 → St → Option (Int32 × St)) (hrec27 : ∀ (x3 : Int32) (x4 : Int32) (σ : St), rec27 x3 x4 σ = some (r, σr) → Go mX11_team 5 0 0 n0 (Ki Γ ρ r σr) 0 0 27 [some (.ref this), some (.int a1), some (.int a2), some (.int x3), some (.int x4), none] [] (hp Γ ρ σ)) (x3 : Int32) (x4 : Int32) (s0 : Int32) (σ : St) (hf : f_X11_team_62 N ρ this a1 a2 rec27 x3 x4 s0 σ = some (r, σr)) : Go mX11_team 5 0 0 n0 (Ki Γ ρ r σr) 0 0 62 [some (.ref this), some (.int a1), some (.int a2), some (.int x3), some (.int x4), none] [.int s0] (hp Γ ρ σ) := by
  unfold f_X11_team_62 at hf
  refine go_istore [some (.ref this), some (.int a1), some (.int a2), some (.int x3), some (.int x4), some (.int s0)] dX11_team_62 (by decide) rfl ?_
  refine go_iload dX11_team_64 rfl ?_
  refine go_if_eq 82 dX11_team_66 (by decide) (fun c1 => ?_) (fun c1 => ?_)
  · replace hf := (if_pos c1).symm.trans hf
    refine go_msk [true, true, true, true, true, false] [some (.ref this), some (.int a1), some (.int a2), some (.int x3), some (.int x4), none] rfl ?_
    exact w_X11_team_82 hs h0 rec27 hrec27 x3 x4 σ hf
  · replace hf := (if_neg c1).symm.trans hf
    refine go_aload_n 0 dX11_team_69 rfl rfl ?_
    refine go_iload_n 1 dX11_team_70 rfl rfl ?_
    refine go_iload dX11_team_71 rfl ?_
    obtain ⟨r2, σ3, q4, hf⟩ := bnd_some hf
    refine go_Vi (av := [.int a1, .int x4]) (rest := []) (t_X11_wouldAllCount hs h0 q4) ok_X11_wouldAllCount ml_X11_288 dX11_team_73 h0 rfl rfl (by decide) (Nat.le_refl _) (Nat.le_refl _) (Nat.le_of_ble_eq_true rfl) ?_
    refine go_if_eq 82 dX11_team_76 (by decide) (fun c5 => ?_) (fun c5 => ?_)
    · replace hf := (if_pos c5).symm.trans hf
      refine go_msk [true, true, true, true, true, false] [some (.ref this), some (.int a1), some (.int a2), some (.int x3), some (.int x4), none] rfl ?_
      exact w_X11_team_82 hs h0 rec27 hrec27 x3 x4 σ3 hf
    · replace hf := (if_neg c5).symm.trans hf
      refine go_iload dX11_team_79 rfl ?_
      refine go_istore_n 3 [some (.ref this), some (.int a1), some (.int a2), some (.int x4), some (.int x4), some (.int s0)] dX11_team_81 rfl (by decide) rfl ?_
      refine go_msk [true, true, true, true, true, false] [some (.ref this), some (.int a1), some (.int a2), some (.int x4), some (.int x4), none] rfl ?_
      exact w_X11_team_82 hs h0 rec27 hrec27 x4 x4 σ3 hf
set_option maxRecDepth 100000 in
set_option maxHeartbeats 4000000 in
theorem w_X11_team_57 {N : Nat} {Γ : SG} {ρ : Nat → Nat → Nat} (hs : Sh Γ ρ) {this : Nat} {a1 : Int32} {a2 : Int32} (h0 : Γ[this]? = some (0, 11)) {n0 : Nat} {r : Int32} {σr : St} (rec27 : Int32 → Int32 → St → Option (Int32 × St)) (hrec27 : ∀ (x3 : Int32) (x4 : Int32) (σ : St), rec27 x3 x4 σ = some (r, σr) → Go mX11_team 5 0 0 n0 (Ki Γ ρ r σr) 0 0 27 [some (.ref this), some (.int a1), some (.int a2), some (.int x3), some (.int x4), none] [] (hp Γ ρ σ)) (x3 : Int32) (x4 : Int32) (σ : St) (hf : f_X11_team_57 N ρ this a1 a2 rec27 x3 x4 σ = some (r, σr)) : Go mX11_team 5 0 0 n0 (Ki Γ ρ r σr) 0 0 57 [some (.ref this), some (.int a1), some (.int a2), some (.int x3), some (.int x4), none] [] (hp Γ ρ σ) := by
  unfold f_X11_team_57 at hf
  refine go_iconst 1 dX11_team_57 (by decide) ?_
  refine go_goto 62 dX11_team_58 (by decide) ?_
  exact w_X11_team_62 hs h0 rec27 hrec27 x3 x4 1 σ hf
set_option maxRecDepth 100000 in
set_option maxHeartbeats 4000000 in
theorem w_X11_team_106 {N : Nat} {Γ : SG} {ρ : Nat → Nat → Nat} (hs : Sh Γ ρ) {this : Nat} {a1 : Int32} {a2 : Int32} (h0 : Γ[this]? = some (0, 11)) {n0 : Nat} {r : Int32} {σr : St} (s0 : Int32) (σ : St) (hf : f_X11_team_106 N ρ this a1 a2 s0 σ = some (r, σr)) : Go mX11_team 5 0 0 n0 (Ki Γ ρ r σr) 0 0 106 [none, none, none, none, none, none] [.int s0] (hp Γ ρ σ) := by
  unfold f_X11_team_106 at hf
  cases hf
  exact go_iret rfl dX11_team_106 (Nat.le_refl _) ⟨rfl, rfl⟩
set_option maxRecDepth 100000 in
set_option maxHeartbeats 4000000 in
theorem v_X11_team_27 {N : Nat} {Γ : SG} {ρ : Nat → Nat → Nat} (hs : Sh Γ ρ) {this : Nat} {a1 : Int32} {a2 : Int32} (h0 : Γ[this]? = some (0, 11)) {n0 : Nat} {r : Int32} {σr : St} (rec27 : Int32 → Int32 → St → Option (Int32 × St)) (hrec27 : ∀ (x3 : Int32) (x4 : Int32) (σ : St), rec27 x3 x4 σ = some (r, σr) → Go mX11_team 5 0 0 n0 (Ki Γ ρ r σr) 0 0 27 [some (.ref this), some (.int a1), some (.int a2), some (.int x3), some (.int x4), none] [] (hp Γ ρ σ)) (x3 : Int32) (x4 : Int32) (σ : St) (hf : b_X11_team_27 N ρ this a1 a2 rec27 x3 x4 σ = some (r, σr)) : Go mX11_team 5 0 0 n0 (Ki Γ ρ r σr) 0 0 27 [some (.ref this), some (.int a1), some (.int a2), some (.int x3), some (.int x4), none] [] (hp Γ ρ σ) := by
  unfold b_X11_team_27 at hf
  refine go_iload dX11_team_27 rfl ?_
  refine go_iconst 1 dX11_team_29 (by decide) ?_
  refine go_aload_n 0 dX11_team_30 rfl rfl ?_
  refine go_fR fl_X11_30 dX11_team_31 h0 (by decide) rfl ?_
  refine go_fI fl_X11_132 dX11_team_34 (hs.1 _ 11 2 h0 rfl) (by decide) rfl ?_
  refine go_ishl dX11_team_37 ?_
  refine go_icmp_ge 88 dX11_team_38 (by decide) (fun c6 => ?_) (fun c6 => ?_)
  · replace hf := (if_pos c6).symm.trans hf
    refine go_iload_n 3 dX11_team_88 rfl rfl ?_
    refine go_if_ne 94 dX11_team_89 (by decide) (fun c7 => ?_) (fun c7 => ?_)
    · replace hf := (if_neg c7).symm.trans hf
      refine go_iload_n 2 dX11_team_94 rfl rfl ?_
      refine go_if_ne 105 dX11_team_95 (by decide) (fun c8 => ?_) (fun c8 => ?_)
      · replace hf := (if_neg c8).symm.trans hf
        refine go_iload_n 3 dX11_team_105 rfl rfl ?_
        refine go_msk [false, false, false, false, false, false] [none, none, none, none, none, none] rfl ?_
        exact w_X11_team_106 hs h0 x3 σ hf
      · replace hf := (if_pos c8).symm.trans hf
        refine go_iload_n 3 dX11_team_98 rfl rfl ?_
        obtain ⟨r9, σ10, q11, hf⟩ := bnd_some hf
        refine go_Si (av := [.int x3]) (rest := []) (t_J6_bitCount_0f7a4 hs  q11) ok_J6_bitCount_0f7a4 ml_X11_185 dX11_team_99 rfl rfl (by decide) (Nat.le_refl _) (Nat.le_refl _) (Nat.le_of_ble_eq_true rfl) ?_
        refine go_goto 106 dX11_team_102 (by decide) ?_
        refine go_msk [false, false, false, false, false, false] [none, none, none, none, none, none] rfl ?_
        exact w_X11_team_106 hs h0 r9 σ10 hf
    · replace hf := (if_pos c7).symm.trans hf
      refine go_iconst (-1) dX11_team_92 (by decide) ?_
      cases hf
      exact go_iret rfl dX11_team_93 (Nat.le_refl _) ⟨rfl, rfl⟩
  · replace hf := (if_neg c6).symm.trans hf
    refine go_iload_n 3 dX11_team_41 rfl rfl ?_
    refine go_if_eq 57 dX11_team_42 (by decide) (fun c12 => ?_) (fun c12 => ?_)
    · replace hf := (if_pos c12).symm.trans hf
      exact w_X11_team_57 hs h0 rec27 hrec27 x3 x4 σ hf
    · replace hf := (if_neg c12).symm.trans hf
      refine go_iload dX11_team_45 rfl ?_
      obtain ⟨r13, σ14, q15, hf⟩ := bnd_some hf
      refine go_Si (av := [.int x4]) (rest := []) (t_J6_bitCount_0f7a4 hs  q15) ok_J6_bitCount_0f7a4 ml_X11_185 dX11_team_47 rfl rfl (by decide) (Nat.le_refl _) (Nat.le_refl _) (Nat.le_of_ble_eq_true rfl) ?_
      refine go_iload_n 3 dX11_team_50 rfl rfl ?_
      obtain ⟨r16, σ17, q18, hf⟩ := bnd_some hf
      refine go_Si (av := [.int x3]) (rest := [.int r13]) (t_J6_bitCount_0f7a4 hs  q18) ok_J6_bitCount_0f7a4 ml_X11_185 dX11_team_51 rfl rfl (by decide) (Nat.le_refl _) (Nat.le_refl _) (Nat.le_of_ble_eq_true rfl) ?_
      refine go_icmp_ge 61 dX11_team_54 (by decide) (fun c19 => ?_) (fun c19 => ?_)
      · replace hf := (if_pos c19).symm.trans hf
        refine go_iconst 0 dX11_team_61 (by decide) ?_
        exact w_X11_team_62 hs h0 rec27 hrec27 x3 x4 0 σ17 hf
      · replace hf := (if_neg c19).symm.trans hf
        exact w_X11_team_57 hs h0 rec27 hrec27 x3 x4 σ17 hf
theorem w_X11_team_27 {N : Nat} {Γ : SG} {ρ : Nat → Nat → Nat} (hs : Sh Γ ρ) {this : Nat} {a1 : Int32} {a2 : Int32} (h0 : Γ[this]? = some (0, 11)) {n0 : Nat} {r : Int32} {σr : St} : ∀ (n : Nat) (x3 : Int32) (x4 : Int32) (σ : St), f_X11_team_27 N ρ this a1 a2 n x3 x4 σ = some (r, σr) → Go mX11_team 5 0 0 n0 (Ki Γ ρ r σr) 0 0 27 [some (.ref this), some (.int a1), some (.int a2), some (.int x3), some (.int x4), none] [] (hp Γ ρ σ) := by
  intro n
  induction n with
  | zero => intro x3 x4 σ hf; cases hf
  | succ n ih => intro x3 x4 σ hf; exact v_X11_team_27 hs h0 _ ih x3 x4 σ hf
set_option maxRecDepth 100000 in
set_option maxHeartbeats 4000000 in
theorem t_X11_team {N : Nat} {Γ : SG} {ρ : Nat → Nat → Nat} (hs : Sh Γ ρ) {this : Nat} {a1 : Int32} {a2 : Int32} (h0 : Γ[this]? = some (0, 11)) {σ : St} {r : Int32} {σr : St} (hf : f_X11_team N ρ this a1 a2 σ = some (r, σr)) : Tri mX11_team 5 0 0 [.ref this, .int a1, .int a2] (hp Γ ρ σ) (Ki Γ ρ r σr) := by
  unfold f_X11_team at hf
  refine tri_of [some (.ref this), some (.int a1), some (.int a2), none, none, none] (plainFor_of_name rfl) rfl (Nat.le_of_ble_eq_true rfl) ?_
  refine go_aload_n 0 dX11_team_0 rfl rfl ?_
  refine go_fR fl_X11_30 dX11_team_1 h0 (by decide) rfl ?_
  refine go_iload_n 1 dX11_team_4 rfl rfl ?_
  obtain ⟨r20, σ21, q22, hf⟩ := bnd_some hf
  refine go_Vi (av := [.int a1]) (rest := []) (t_X0_hasHearth hs (hs.1 _ 11 2 h0 rfl) q22) ok_X0_hasHearth ml_X11_135 dX11_team_5 (hs.1 _ 11 2 h0 rfl) rfl rfl (by decide) (Nat.le_refl _) (Nat.le_refl _) (Nat.le_of_ble_eq_true rfl) ?_
  refine go_if_eq 20 dX11_team_8 (by decide) (fun c23 => ?_) (fun c23 => ?_)
  · replace hf := (if_pos c23).symm.trans hf
    refine go_msk [false, false, false, false, false, false] [none, none, none, none, none, none] rfl ?_
    exact w_X11_team_20 hs h0 σ21 hf
  · replace hf := (if_neg c23).symm.trans hf
    refine go_iload_n 2 dX11_team_11 rfl rfl ?_
    refine go_if_lt 20 dX11_team_12 (by decide) (fun c24 => ?_) (fun c24 => ?_)
    · replace hf := (if_pos c24).symm.trans hf
      refine go_msk [false, false, false, false, false, false] [none, none, none, none, none, none] rfl ?_
      exact w_X11_team_20 hs h0 σ21 hf
    · replace hf := (if_neg c24).symm.trans hf
      refine go_iload_n 2 dX11_team_15 rfl rfl ?_
      refine go_iconst 1 dX11_team_16 (by decide) ?_
      refine go_icmp_le 22 dX11_team_17 (by decide) (fun c25 => ?_) (fun c25 => ?_)
      · replace hf := (if_pos c25).symm.trans hf
        refine go_iconst 0 dX11_team_22 (by decide) ?_
        refine go_istore_n 3 [some (.ref this), some (.int a1), some (.int a2), some (.int 0), none, none] dX11_team_23 rfl (by decide) rfl ?_
        refine go_iconst 1 dX11_team_24 (by decide) ?_
        refine go_istore [some (.ref this), some (.int a1), some (.int a2), some (.int 0), some (.int 1), none] dX11_team_25 (by decide) rfl ?_
        exact w_X11_team_27 hs h0 N 0 1 σ21 hf
      · replace hf := (if_neg c25).symm.trans hf
        refine go_msk [false, false, false, false, false, false] [none, none, none, none, none, none] rfl ?_
        exact w_X11_team_20 hs h0 σ21 hf
def f_X11_countingExchanged (N : Nat) (ρ : Nat → Nat → Nat) (this : Nat) (a1 : Int32) (a2 : Int32) (σ : St) : Option (Int32 × St) :=
  bnd (f_X9_copy N ρ (ρ this 5) (ρ this 4) σ) fun _ σ2 =>
  gd (ib a2 5) <|
  gd (ib a1 5) <|
  nmd (sI σ2 (ρ (ρ this 5) 3) a1.toNatClampNeg (σ2.1 (ρ (ρ this 4) 3) a2.toNatClampNeg)) fun σ6 =>
  gd (ib a1 5) <|
  gd (ib a2 5) <|
  nmd (sI σ6 (ρ (ρ this 5) 3) a2.toNatClampNeg (σ6.1 (ρ (ρ this 4) 3) a1.toNatClampNeg)) fun σ9 =>
  bnd (f_X9_counting N ρ (ρ this 5) (ρ this 2) 0 σ9) fun r10 σ11 =>
  bnd (f_J6_bitCount_0f7a4 N ρ r10 σ11) fun r13 σ14 =>
  some (r13, σ14)
set_option maxRecDepth 100000 in
set_option maxHeartbeats 4000000 in
theorem t_X11_countingExchanged {N : Nat} {Γ : SG} {ρ : Nat → Nat → Nat} (hs : Sh Γ ρ) {this : Nat} {a1 : Int32} {a2 : Int32} (h0 : Γ[this]? = some (0, 11)) {σ : St} {r : Int32} {σr : St} (hf : f_X11_countingExchanged N ρ this a1 a2 σ = some (r, σr)) : Tri mX11_countingExchanged 5 0 0 [.ref this, .int a1, .int a2] (hp Γ ρ σ) (Ki Γ ρ r σr) := by
  unfold f_X11_countingExchanged at hf
  refine tri_of [some (.ref this), some (.int a1), some (.int a2)] (plainFor_of_name rfl) rfl (Nat.le_of_ble_eq_true rfl) ?_
  refine go_aload_n 0 dX11_countingExchanged_0 rfl rfl ?_
  refine go_fR fl_X11_44 dX11_countingExchanged_1 h0 (by decide) rfl ?_
  refine go_aload_n 0 dX11_countingExchanged_4 rfl rfl ?_
  refine go_fR fl_X11_40 dX11_countingExchanged_5 h0 (by decide) rfl ?_
  obtain ⟨r1, σ2, q3, hf⟩ := bnd_some hf
  refine go_Vv (av := [.ref (ρ this 4)]) (rest := []) (t_X9_copy hs (hs.1 _ 11 5 h0 rfl) (hs.1 _ 11 4 h0 rfl) q3) ok_X9_copy ml_X11_332 dX11_countingExchanged_8 (hs.1 _ 11 5 h0 rfl) rfl rfl (by decide) (Nat.le_refl _) (Nat.le_refl _) (Nat.le_of_ble_eq_true rfl) ?_
  refine go_aload_n 0 dX11_countingExchanged_11 rfl rfl ?_
  refine go_fR fl_X11_44 dX11_countingExchanged_12 h0 (by decide) rfl ?_
  refine go_fR fl_X11_175 dX11_countingExchanged_15 (hs.1 _ 11 5 h0 rfl) (by decide) rfl ?_
  refine go_iload_n 1 dX11_countingExchanged_18 rfl rfl ?_
  refine go_aload_n 0 dX11_countingExchanged_19 rfl rfl ?_
  refine go_fR fl_X11_40 dX11_countingExchanged_20 h0 (by decide) rfl ?_
  refine go_fR fl_X11_175 dX11_countingExchanged_23 (hs.1 _ 11 4 h0 rfl) (by decide) rfl ?_
  refine go_iload_n 2 dX11_countingExchanged_26 rfl rfl ?_
  obtain ⟨g4, hf⟩ := gd_some hf
  refine go_rI dX11_countingExchanged_27 (hs.1 _ 9 3 (hs.1 _ 11 4 h0 rfl) rfl) (ib_in g4) ?_
  obtain ⟨g5, hf⟩ := gd_some hf
  obtain ⟨σ6, eσ6, hf⟩ := nmd_some hf
  refine go_wI dX11_countingExchanged_28 (hs.1 _ 9 3 (hs.1 _ 11 5 h0 rfl) rfl) (ib_in g5) ?_
  rw [eσ6]
  refine go_aload_n 0 dX11_countingExchanged_29 rfl rfl ?_
  refine go_fR fl_X11_44 dX11_countingExchanged_30 h0 (by decide) rfl ?_
  refine go_fR fl_X11_175 dX11_countingExchanged_33 (hs.1 _ 11 5 h0 rfl) (by decide) rfl ?_
  refine go_iload_n 2 dX11_countingExchanged_36 rfl rfl ?_
  refine go_aload_n 0 dX11_countingExchanged_37 rfl rfl ?_
  refine go_fR fl_X11_40 dX11_countingExchanged_38 h0 (by decide) rfl ?_
  refine go_fR fl_X11_175 dX11_countingExchanged_41 (hs.1 _ 11 4 h0 rfl) (by decide) rfl ?_
  refine go_iload_n 1 dX11_countingExchanged_44 rfl rfl ?_
  obtain ⟨g7, hf⟩ := gd_some hf
  refine go_rI dX11_countingExchanged_45 (hs.1 _ 9 3 (hs.1 _ 11 4 h0 rfl) rfl) (ib_in g7) ?_
  obtain ⟨g8, hf⟩ := gd_some hf
  obtain ⟨σ9, eσ9, hf⟩ := nmd_some hf
  refine go_wI dX11_countingExchanged_46 (hs.1 _ 9 3 (hs.1 _ 11 5 h0 rfl) rfl) (ib_in g8) ?_
  rw [eσ9]
  refine go_aload_n 0 dX11_countingExchanged_47 rfl rfl ?_
  refine go_fR fl_X11_44 dX11_countingExchanged_48 h0 (by decide) rfl ?_
  refine go_aload_n 0 dX11_countingExchanged_51 rfl rfl ?_
  refine go_fR fl_X11_30 dX11_countingExchanged_52 h0 (by decide) rfl ?_
  refine go_iconst 0 dX11_countingExchanged_55 (by decide) ?_
  obtain ⟨r10, σ11, q12, hf⟩ := bnd_some hf
  refine go_Vi (av := [.ref (ρ this 2), .int 0]) (rest := []) (t_X9_counting hs (hs.1 _ 11 5 h0 rfl) (hs.1 _ 11 2 h0 rfl) q12) ok_X9_counting ml_X11_194 dX11_countingExchanged_56 (hs.1 _ 11 5 h0 rfl) rfl rfl (by decide) (Nat.le_refl _) (Nat.le_refl _) (Nat.le_of_ble_eq_true rfl) ?_
  obtain ⟨r13, σ14, q15, hf⟩ := bnd_some hf
  refine go_Si (av := [.int r10]) (rest := []) (t_J6_bitCount_0f7a4 hs  q15) ok_J6_bitCount_0f7a4 ml_X11_185 dX11_countingExchanged_59 rfl rfl (by decide) (Nat.le_refl _) (Nat.le_refl _) (Nat.le_of_ble_eq_true rfl) ?_
  cases hf
  exact go_iret rfl dX11_countingExchanged_62 (Nat.le_refl _) ⟨rfl, rfl⟩
def f_X11_change_9 (N : Nat) (ρ : Nat → Nat → Nat) (this : Nat) (a1 : Int32) (σ : St) : Option (Int32 × St) :=
  some ((-1), σ)
def f_X11_change_91 (N : Nat) (ρ : Nat → Nat → Nat) (this : Nat) (a1 : Int32) (rec35 : Int32 → Int32 → Int32 → Int32 → St → Option (Int32 × St)) (rec53 : Int32 → Int32 → Int32 → Int32 → Int32 → St → Option (Int32 × St)) (x2 : Int32) (x3 : Int32) (x4 : Int32) (x5 : Int32) (x6 : Int32) (σ : St) : Option (Int32 × St) :=
  rec53 x2 x3 x4 x5 (x6 + 1) σ
def b_X11_change_53 (N : Nat) (ρ : Nat → Nat → Nat) (this : Nat) (a1 : Int32) (rec35 : Int32 → Int32 → Int32 → Int32 → St → Option (Int32 × St)) (rec53 : Int32 → Int32 → Int32 → Int32 → Int32 → St → Option (Int32 × St)) (x2 : Int32) (x3 : Int32) (x4 : Int32) (x5 : Int32) (x6 : Int32) (σ : St) : Option (Int32 × St) :=
  if (σ.1 (ρ this 2) 12) ≤ (x6 : Int32) then
    rec35 x2 x3 x4 (x5 + 1) σ
  else
    bnd (f_X11_countingExchanged N ρ this x5 x6 σ) fun r2 σ3 =>
    if (r2 : Int32) ≤ x2 then
      f_X11_change_91 N ρ this a1 rec35 rec53 x2 x3 x4 x5 x6 σ3
    else
      f_X11_change_91 N ρ this a1 rec35 rec53 r2 x5 x6 x5 x6 σ3
def f_X11_change_53 (N : Nat) (ρ : Nat → Nat → Nat) (this : Nat) (a1 : Int32) (rec35 : Int32 → Int32 → Int32 → Int32 → St → Option (Int32 × St)) : Nat → Int32 → Int32 → Int32 → Int32 → Int32 → St → Option (Int32 × St)
  | 0, _, _, _, _, _, _ => none
  | n + 1, x2, x3, x4, x5, x6, σ => b_X11_change_53 N ρ this a1 rec35 (f_X11_change_53 N ρ this a1 rec35 n) x2 x3 x4 x5 x6 σ
def f_X11_change_112 (N : Nat) (ρ : Nat → Nat → Nat) (this : Nat) (a1 : Int32) (x3 : Int32) (σ : St) : Option (Int32 × St) :=
  some (x3, σ)
def f_X11_change_125 (N : Nat) (ρ : Nat → Nat → Nat) (this : Nat) (a1 : Int32) (s0 : Int32) (σ : St) : Option (Int32 × St) :=
  some (s0, σ)
def b_X11_change_35 (N : Nat) (ρ : Nat → Nat → Nat) (this : Nat) (a1 : Int32) (rec35 : Int32 → Int32 → Int32 → Int32 → St → Option (Int32 × St)) (x2 : Int32) (x3 : Int32) (x4 : Int32) (x5 : Int32) (σ : St) : Option (Int32 × St) :=
  if (σ.1 (ρ this 2) 12) ≤ (x5 : Int32) then
    if (x3 : Int32) = (-1) then
      f_X11_change_112 N ρ this a1 x3 σ
    else
      if (a1 : Int32) = 0 then
        f_X11_change_112 N ρ this a1 x3 σ
      else
        if (a1 : Int32) = 1 then
          f_X11_change_125 N ρ this a1 x4 σ
        else
          f_X11_change_125 N ρ this a1 x2 σ
  else
    nmd (x5 + 1) fun y10 =>
    f_X11_change_53 N ρ this a1 rec35 N x2 x3 x4 x5 y10 σ
def f_X11_change_35 (N : Nat) (ρ : Nat → Nat → Nat) (this : Nat) (a1 : Int32) : Nat → Int32 → Int32 → Int32 → Int32 → St → Option (Int32 × St)
  | 0, _, _, _, _, _ => none
  | n + 1, x2, x3, x4, x5, σ => b_X11_change_35 N ρ this a1 (f_X11_change_35 N ρ this a1 n) x2 x3 x4 x5 σ
def f_X11_change (N : Nat) (ρ : Nat → Nat → Nat) (this : Nat) (a1 : Int32) (σ : St) : Option (Int32 × St) :=
  if (a1 : Int32) < 0 then
    f_X11_change_9 N ρ this a1 σ
  else
    if (a1 : Int32) ≤ 2 then
      bnd (f_X9_counting N ρ (ρ this 4) (ρ this 2) 0 σ) fun r13 σ14 =>
      bnd (f_J6_bitCount_0f7a4 N ρ r13 σ14) fun r16 σ17 =>
      f_X11_change_35 N ρ this a1 N r16 (-1) (-1) 0 σ17
    else
      f_X11_change_9 N ρ this a1 σ
set_option maxRecDepth 100000 in
set_option maxHeartbeats 4000000 in
theorem w_X11_change_9 {N : Nat} {Γ : SG} {ρ : Nat → Nat → Nat} (hs : Sh Γ ρ) {this : Nat} {a1 : Int32} (h0 : Γ[this]? = some (0, 11)) {n0 : Nat} {r : Int32} {σr : St} (σ : St) (hf : f_X11_change_9 N ρ this a1 σ = some (r, σr)) : Go mX11_change 6 0 0 n0 (Ki Γ ρ r σr) 0 0 9 [none, none, none, none, none, none, none, none] [] (hp Γ ρ σ) := by
  unfold f_X11_change_9 at hf
  refine go_iconst (-1) dX11_change_9 (by decide) ?_
  cases hf
  exact go_iret rfl dX11_change_10 (Nat.le_refl _) ⟨rfl, rfl⟩
set_option maxRecDepth 100000 in
set_option maxHeartbeats 4000000 in
theorem w_X11_change_91 {N : Nat} {Γ : SG} {ρ : Nat → Nat → Nat} (hs : Sh Γ ρ) {this : Nat} {a1 : Int32} (h0 : Γ[this]? = some (0, 11)) {n0 : Nat} {r : Int32} {σr : St} (rec35 : Int32 → Int32 → Int32 → Int32 → St → Option (Int32 × St)) (hrec35 : ∀ (x2 : Int32) (x3 : Int32) (x4 : Int32) (x5 : Int32) (σ : St), rec35 x2 x3 x4 x5 σ = some (r, σr) → Go mX11_change 6 0 0 n0 (Ki Γ ρ r σr) 0 0 35 [some (.ref this), some (.int a1), some (.int x2), some (.int x3), some (.int x4), some (.int x5), none, none] [] (hp Γ ρ σ)) (rec53 : Int32 → Int32 → Int32 → Int32 → Int32 → St → Option (Int32 × St)) (hrec53 : ∀ (x2 : Int32) (x3 : Int32) (x4 : Int32) (x5 : Int32) (x6 : Int32) (σ : St), rec53 x2 x3 x4 x5 x6 σ = some (r, σr) → Go mX11_change 6 0 0 n0 (Ki Γ ρ r σr) 0 0 53 [some (.ref this), some (.int a1), some (.int x2), some (.int x3), some (.int x4), some (.int x5), some (.int x6), none] [] (hp Γ ρ σ)) (x2 : Int32) (x3 : Int32) (x4 : Int32) (x5 : Int32) (x6 : Int32) (σ : St) (hf : f_X11_change_91 N ρ this a1 rec35 rec53 x2 x3 x4 x5 x6 σ = some (r, σr)) : Go mX11_change 6 0 0 n0 (Ki Γ ρ r σr) 0 0 91 [some (.ref this), some (.int a1), some (.int x2), some (.int x3), some (.int x4), some (.int x5), some (.int x6), none] [] (hp Γ ρ σ) := by
  unfold f_X11_change_91 at hf
  refine go_iinc (x6 + 1) [some (.ref this), some (.int a1), some (.int x2), some (.int x3), some (.int x4), some (.int x5), some (.int (x6 + 1)), none] dX11_change_91 rfl rfl (by decide) rfl ?_
  refine go_goto 53 dX11_change_94 (by decide) ?_
  exact hrec53 x2 x3 x4 x5 (x6 + 1) σ hf
set_option maxRecDepth 100000 in
set_option maxHeartbeats 4000000 in
theorem v_X11_change_53 {N : Nat} {Γ : SG} {ρ : Nat → Nat → Nat} (hs : Sh Γ ρ) {this : Nat} {a1 : Int32} (h0 : Γ[this]? = some (0, 11)) {n0 : Nat} {r : Int32} {σr : St} (rec35 : Int32 → Int32 → Int32 → Int32 → St → Option (Int32 × St)) (hrec35 : ∀ (x2 : Int32) (x3 : Int32) (x4 : Int32) (x5 : Int32) (σ : St), rec35 x2 x3 x4 x5 σ = some (r, σr) → Go mX11_change 6 0 0 n0 (Ki Γ ρ r σr) 0 0 35 [some (.ref this), some (.int a1), some (.int x2), some (.int x3), some (.int x4), some (.int x5), none, none] [] (hp Γ ρ σ)) (rec53 : Int32 → Int32 → Int32 → Int32 → Int32 → St → Option (Int32 × St)) (hrec53 : ∀ (x2 : Int32) (x3 : Int32) (x4 : Int32) (x5 : Int32) (x6 : Int32) (σ : St), rec53 x2 x3 x4 x5 x6 σ = some (r, σr) → Go mX11_change 6 0 0 n0 (Ki Γ ρ r σr) 0 0 53 [some (.ref this), some (.int a1), some (.int x2), some (.int x3), some (.int x4), some (.int x5), some (.int x6), none] [] (hp Γ ρ σ)) (x2 : Int32) (x3 : Int32) (x4 : Int32) (x5 : Int32) (x6 : Int32) (σ : St) (hf : b_X11_change_53 N ρ this a1 rec35 rec53 x2 x3 x4 x5 x6 σ = some (r, σr)) : Go mX11_change 6 0 0 n0 (Ki Γ ρ r σr) 0 0 53 [some (.ref this), some (.int a1), some (.int x2), some (.int x3), some (.int x4), some (.int x5), some (.int x6), none] [] (hp Γ ρ σ) := by
  unfold b_X11_change_53 at hf
  refine go_iload dX11_change_53 rfl ?_
  refine go_aload_n 0 dX11_change_55 rfl rfl ?_
  refine go_fR fl_X11_30 dX11_change_56 h0 (by decide) rfl ?_
  refine go_fI fl_X11_132 dX11_change_59 (hs.1 _ 11 2 h0 rfl) (by decide) rfl ?_
  refine go_icmp_ge 97 dX11_change_62 (by decide) (fun c1 => ?_) (fun c1 => ?_)
  · replace hf := (if_pos c1).symm.trans hf
    refine go_iinc (x5 + 1) [some (.ref this), some (.int a1), some (.int x2), some (.int x3), some (.int x4), some (.int (x5 + 1)), some (.int x6), none] dX11_change_97 rfl rfl (by decide) rfl ?_
    refine go_goto 35 dX11_change_100 (by decide) ?_
    refine go_msk [true, true, true, true, true, true, false, false] [some (.ref this), some (.int a1), some (.int x2), some (.int x3), some (.int x4), some (.int (x5 + 1)), none, none] rfl ?_
    exact hrec35 x2 x3 x4 (x5 + 1) σ hf
  · replace hf := (if_neg c1).symm.trans hf
    refine go_aload_n 0 dX11_change_65 rfl rfl ?_
    refine go_iload dX11_change_66 rfl ?_
    refine go_iload dX11_change_68 rfl ?_
    obtain ⟨r2, σ3, q4, hf⟩ := bnd_some hf
    refine go_Vi (av := [.int x5, .int x6]) (rest := []) (t_X11_countingExchanged hs h0 q4) ok_X11_countingExchanged ml_X11_292 dX11_change_70 h0 rfl rfl (by decide) (Nat.le_refl _) (Nat.le_refl _) (Nat.le_of_ble_eq_true rfl) ?_
    refine go_istore [some (.ref this), some (.int a1), some (.int x2), some (.int x3), some (.int x4), some (.int x5), some (.int x6), some (.int r2)] dX11_change_73 (by decide) rfl ?_
    refine go_iload dX11_change_75 rfl ?_
    refine go_iload_n 2 dX11_change_77 rfl rfl ?_
    refine go_icmp_le 91 dX11_change_78 (by decide) (fun c5 => ?_) (fun c5 => ?_)
    · replace hf := (if_pos c5).symm.trans hf
      refine go_msk [true, true, true, true, true, true, true, false] [some (.ref this), some (.int a1), some (.int x2), some (.int x3), some (.int x4), some (.int x5), some (.int x6), none] rfl ?_
      exact w_X11_change_91 hs h0 rec35 hrec35 rec53 hrec53 x2 x3 x4 x5 x6 σ3 hf
    · replace hf := (if_neg c5).symm.trans hf
      refine go_iload dX11_change_81 rfl ?_
      refine go_istore_n 2 [some (.ref this), some (.int a1), some (.int r2), some (.int x3), some (.int x4), some (.int x5), some (.int x6), some (.int r2)] dX11_change_83 rfl (by decide) rfl ?_
      refine go_iload dX11_change_84 rfl ?_
      refine go_istore_n 3 [some (.ref this), some (.int a1), some (.int r2), some (.int x5), some (.int x4), some (.int x5), some (.int x6), some (.int r2)] dX11_change_86 rfl (by decide) rfl ?_
      refine go_iload dX11_change_87 rfl ?_
      refine go_istore [some (.ref this), some (.int a1), some (.int r2), some (.int x5), some (.int x6), some (.int x5), some (.int x6), some (.int r2)] dX11_change_89 (by decide) rfl ?_
      refine go_msk [true, true, true, true, true, true, true, false] [some (.ref this), some (.int a1), some (.int r2), some (.int x5), some (.int x6), some (.int x5), some (.int x6), none] rfl ?_
      exact w_X11_change_91 hs h0 rec35 hrec35 rec53 hrec53 r2 x5 x6 x5 x6 σ3 hf
theorem w_X11_change_53 {N : Nat} {Γ : SG} {ρ : Nat → Nat → Nat} (hs : Sh Γ ρ) {this : Nat} {a1 : Int32} (h0 : Γ[this]? = some (0, 11)) {n0 : Nat} {r : Int32} {σr : St} (rec35 : Int32 → Int32 → Int32 → Int32 → St → Option (Int32 × St)) (hrec35 : ∀ (x2 : Int32) (x3 : Int32) (x4 : Int32) (x5 : Int32) (σ : St), rec35 x2 x3 x4 x5 σ = some (r, σr) → Go mX11_change 6 0 0 n0 (Ki Γ ρ r σr) 0 0 35 [some (.ref this), some (.int a1), some (.int x2), some (.int x3), some (.int x4), some (.int x5), none, none] [] (hp Γ ρ σ)) : ∀ (n : Nat) (x2 : Int32) (x3 : Int32) (x4 : Int32) (x5 : Int32) (x6 : Int32) (σ : St), f_X11_change_53 N ρ this a1 rec35 n x2 x3 x4 x5 x6 σ = some (r, σr) → Go mX11_change 6 0 0 n0 (Ki Γ ρ r σr) 0 0 53 [some (.ref this), some (.int a1), some (.int x2), some (.int x3), some (.int x4), some (.int x5), some (.int x6), none] [] (hp Γ ρ σ) := by
  intro n
  induction n with
  | zero => intro x2 x3 x4 x5 x6 σ hf; cases hf
  | succ n ih => intro x2 x3 x4 x5 x6 σ hf; exact v_X11_change_53 hs h0 rec35 hrec35 _ ih x2 x3 x4 x5 x6 σ hf
set_option maxRecDepth 100000 in
set_option maxHeartbeats 4000000 in
theorem w_X11_change_112 {N : Nat} {Γ : SG} {ρ : Nat → Nat → Nat} (hs : Sh Γ ρ) {this : Nat} {a1 : Int32} (h0 : Γ[this]? = some (0, 11)) {n0 : Nat} {r : Int32} {σr : St} (x3 : Int32) (σ : St) (hf : f_X11_change_112 N ρ this a1 x3 σ = some (r, σr)) : Go mX11_change 6 0 0 n0 (Ki Γ ρ r σr) 0 0 112 [none, none, none, some (.int x3), none, none, none, none] [] (hp Γ ρ σ) := by
  unfold f_X11_change_112 at hf
  refine go_iload_n 3 dX11_change_112 rfl rfl ?_
  cases hf
  exact go_iret rfl dX11_change_113 (Nat.le_refl _) ⟨rfl, rfl⟩
set_option maxRecDepth 100000 in
set_option maxHeartbeats 4000000 in
theorem w_X11_change_125 {N : Nat} {Γ : SG} {ρ : Nat → Nat → Nat} (hs : Sh Γ ρ) {this : Nat} {a1 : Int32} (h0 : Γ[this]? = some (0, 11)) {n0 : Nat} {r : Int32} {σr : St} (s0 : Int32) (σ : St) (hf : f_X11_change_125 N ρ this a1 s0 σ = some (r, σr)) : Go mX11_change 6 0 0 n0 (Ki Γ ρ r σr) 0 0 125 [none, none, none, none, none, none, none, none] [.int s0] (hp Γ ρ σ) := by
  unfold f_X11_change_125 at hf
  cases hf
  exact go_iret rfl dX11_change_125 (Nat.le_refl _) ⟨rfl, rfl⟩
set_option maxRecDepth 100000 in
set_option maxHeartbeats 4000000 in
theorem v_X11_change_35 {N : Nat} {Γ : SG} {ρ : Nat → Nat → Nat} (hs : Sh Γ ρ) {this : Nat} {a1 : Int32} (h0 : Γ[this]? = some (0, 11)) {n0 : Nat} {r : Int32} {σr : St} (rec35 : Int32 → Int32 → Int32 → Int32 → St → Option (Int32 × St)) (hrec35 : ∀ (x2 : Int32) (x3 : Int32) (x4 : Int32) (x5 : Int32) (σ : St), rec35 x2 x3 x4 x5 σ = some (r, σr) → Go mX11_change 6 0 0 n0 (Ki Γ ρ r σr) 0 0 35 [some (.ref this), some (.int a1), some (.int x2), some (.int x3), some (.int x4), some (.int x5), none, none] [] (hp Γ ρ σ)) (x2 : Int32) (x3 : Int32) (x4 : Int32) (x5 : Int32) (σ : St) (hf : b_X11_change_35 N ρ this a1 rec35 x2 x3 x4 x5 σ = some (r, σr)) : Go mX11_change 6 0 0 n0 (Ki Γ ρ r σr) 0 0 35 [some (.ref this), some (.int a1), some (.int x2), some (.int x3), some (.int x4), some (.int x5), none, none] [] (hp Γ ρ σ) := by
  unfold b_X11_change_35 at hf
  refine go_iload dX11_change_35 rfl ?_
  refine go_aload_n 0 dX11_change_37 rfl rfl ?_
  refine go_fR fl_X11_30 dX11_change_38 h0 (by decide) rfl ?_
  refine go_fI fl_X11_132 dX11_change_41 (hs.1 _ 11 2 h0 rfl) (by decide) rfl ?_
  refine go_icmp_ge 103 dX11_change_44 (by decide) (fun c6 => ?_) (fun c6 => ?_)
  · replace hf := (if_pos c6).symm.trans hf
    refine go_iload_n 3 dX11_change_103 rfl rfl ?_
    refine go_iconst (-1) dX11_change_104 (by decide) ?_
    refine go_icmp_eq 112 dX11_change_105 (by decide) (fun c7 => ?_) (fun c7 => ?_)
    · replace hf := (if_pos c7).symm.trans hf
      refine go_msk [false, false, false, true, false, false, false, false] [none, none, none, some (.int x3), none, none, none, none] rfl ?_
      exact w_X11_change_112 hs h0 x3 σ hf
    · replace hf := (if_neg c7).symm.trans hf
      refine go_iload_n 1 dX11_change_108 rfl rfl ?_
      refine go_if_ne 114 dX11_change_109 (by decide) (fun c8 => ?_) (fun c8 => ?_)
      · replace hf := (if_neg c8).symm.trans hf
        refine go_iload_n 1 dX11_change_114 rfl rfl ?_
        refine go_iconst 1 dX11_change_115 (by decide) ?_
        refine go_icmp_ne 124 dX11_change_116 (by decide) (fun c9 => ?_) (fun c9 => ?_)
        · replace hf := (if_neg c9).symm.trans hf
          refine go_iload_n 2 dX11_change_124 rfl rfl ?_
          refine go_msk [false, false, false, false, false, false, false, false] [none, none, none, none, none, none, none, none] rfl ?_
          exact w_X11_change_125 hs h0 x2 σ hf
        · replace hf := (if_pos c9).symm.trans hf
          refine go_iload dX11_change_119 rfl ?_
          refine go_goto 125 dX11_change_121 (by decide) ?_
          refine go_msk [false, false, false, false, false, false, false, false] [none, none, none, none, none, none, none, none] rfl ?_
          exact w_X11_change_125 hs h0 x4 σ hf
      · replace hf := (if_pos c8).symm.trans hf
        refine go_msk [false, false, false, true, false, false, false, false] [none, none, none, some (.int x3), none, none, none, none] rfl ?_
        exact w_X11_change_112 hs h0 x3 σ hf
  · replace hf := (if_neg c6).symm.trans hf
    refine go_iload dX11_change_47 rfl ?_
    refine go_iconst 1 dX11_change_49 (by decide) ?_
    refine go_iadd dX11_change_50 ?_
    obtain ⟨y10, ey10, hf⟩ := nmd_some hf
    refine go_nm ey10 ?_
    refine go_istore [some (.ref this), some (.int a1), some (.int x2), some (.int x3), some (.int x4), some (.int x5), some (.int y10), none] dX11_change_51 (by decide) rfl ?_
    exact w_X11_change_53 hs h0 rec35 hrec35 N x2 x3 x4 x5 y10 σ hf
theorem w_X11_change_35 {N : Nat} {Γ : SG} {ρ : Nat → Nat → Nat} (hs : Sh Γ ρ) {this : Nat} {a1 : Int32} (h0 : Γ[this]? = some (0, 11)) {n0 : Nat} {r : Int32} {σr : St} : ∀ (n : Nat) (x2 : Int32) (x3 : Int32) (x4 : Int32) (x5 : Int32) (σ : St), f_X11_change_35 N ρ this a1 n x2 x3 x4 x5 σ = some (r, σr) → Go mX11_change 6 0 0 n0 (Ki Γ ρ r σr) 0 0 35 [some (.ref this), some (.int a1), some (.int x2), some (.int x3), some (.int x4), some (.int x5), none, none] [] (hp Γ ρ σ) := by
  intro n
  induction n with
  | zero => intro x2 x3 x4 x5 σ hf; cases hf
  | succ n ih => intro x2 x3 x4 x5 σ hf; exact v_X11_change_35 hs h0 _ ih x2 x3 x4 x5 σ hf
set_option maxRecDepth 100000 in
set_option maxHeartbeats 4000000 in
theorem t_X11_change {N : Nat} {Γ : SG} {ρ : Nat → Nat → Nat} (hs : Sh Γ ρ) {this : Nat} {a1 : Int32} (h0 : Γ[this]? = some (0, 11)) {σ : St} {r : Int32} {σr : St} (hf : f_X11_change N ρ this a1 σ = some (r, σr)) : Tri mX11_change 6 0 0 [.ref this, .int a1] (hp Γ ρ σ) (Ki Γ ρ r σr) := by
  unfold f_X11_change at hf
  refine tri_of [some (.ref this), some (.int a1), none, none, none, none, none, none] (plainFor_of_name rfl) rfl (Nat.le_of_ble_eq_true rfl) ?_
  refine go_iload_n 1 dX11_change_0 rfl rfl ?_
  refine go_if_lt 9 dX11_change_1 (by decide) (fun c11 => ?_) (fun c11 => ?_)
  · replace hf := (if_pos c11).symm.trans hf
    refine go_msk [false, false, false, false, false, false, false, false] [none, none, none, none, none, none, none, none] rfl ?_
    exact w_X11_change_9 hs h0 σ hf
  · replace hf := (if_neg c11).symm.trans hf
    refine go_iload_n 1 dX11_change_4 rfl rfl ?_
    refine go_iconst 2 dX11_change_5 (by decide) ?_
    refine go_icmp_le 11 dX11_change_6 (by decide) (fun c12 => ?_) (fun c12 => ?_)
    · replace hf := (if_pos c12).symm.trans hf
      refine go_aload_n 0 dX11_change_11 rfl rfl ?_
      refine go_fR fl_X11_40 dX11_change_12 h0 (by decide) rfl ?_
      refine go_aload_n 0 dX11_change_15 rfl rfl ?_
      refine go_fR fl_X11_30 dX11_change_16 h0 (by decide) rfl ?_
      refine go_iconst 0 dX11_change_19 (by decide) ?_
      obtain ⟨r13, σ14, q15, hf⟩ := bnd_some hf
      refine go_Vi (av := [.ref (ρ this 2), .int 0]) (rest := []) (t_X9_counting hs (hs.1 _ 11 4 h0 rfl) (hs.1 _ 11 2 h0 rfl) q15) ok_X9_counting ml_X11_194 dX11_change_20 (hs.1 _ 11 4 h0 rfl) rfl rfl (by decide) (Nat.le_refl _) (Nat.le_refl _) (Nat.le_of_ble_eq_true rfl) ?_
      obtain ⟨r16, σ17, q18, hf⟩ := bnd_some hf
      refine go_Si (av := [.int r13]) (rest := []) (t_J6_bitCount_0f7a4 hs  q18) ok_J6_bitCount_0f7a4 ml_X11_185 dX11_change_23 rfl rfl (by decide) (Nat.le_refl _) (Nat.le_refl _) (Nat.le_of_ble_eq_true rfl) ?_
      refine go_istore_n 2 [some (.ref this), some (.int a1), some (.int r16), none, none, none, none, none] dX11_change_26 rfl (by decide) rfl ?_
      refine go_iconst (-1) dX11_change_27 (by decide) ?_
      refine go_istore_n 3 [some (.ref this), some (.int a1), some (.int r16), some (.int (-1)), none, none, none, none] dX11_change_28 rfl (by decide) rfl ?_
      refine go_iconst (-1) dX11_change_29 (by decide) ?_
      refine go_istore [some (.ref this), some (.int a1), some (.int r16), some (.int (-1)), some (.int (-1)), none, none, none] dX11_change_30 (by decide) rfl ?_
      refine go_iconst 0 dX11_change_32 (by decide) ?_
      refine go_istore [some (.ref this), some (.int a1), some (.int r16), some (.int (-1)), some (.int (-1)), some (.int 0), none, none] dX11_change_33 (by decide) rfl ?_
      exact w_X11_change_35 hs h0 N r16 (-1) (-1) 0 σ17 hf
    · replace hf := (if_neg c12).symm.trans hf
      refine go_msk [false, false, false, false, false, false, false, false] [none, none, none, none, none, none, none, none] rfl ?_
      exact w_X11_change_9 hs h0 σ hf
def f_X11_guests_42 (N : Nat) (ρ : Nat → Nat → Nat) (this : Nat) (a1 : Int32) (a2 : Int32) (σ : St) : Option (Int32 × St) :=
  some ((-1), σ)
def f_X11_guests_97 (N : Nat) (ρ : Nat → Nat → Nat) (this : Nat) (a1 : Int32) (a2 : Int32) (x3 : Int32) (σ : St) : Option (Int32 × St) :=
  some (x3, σ)
def f_X11_guests (N : Nat) (ρ : Nat → Nat → Nat) (this : Nat) (a1 : Int32) (a2 : Int32) (σ : St) : Option (Int32 × St) :=
  nmd (sI σ this 14 0) fun σ1 =>
  bnd (f_X0_hasStool N ρ (ρ this 2) a1 σ1) fun r2 σ3 =>
  if (r2 : Int32) = 0 then
    f_X11_guests_42 N ρ this a1 a2 σ3
  else
    bnd (f_X0_hasStool N ρ (ρ this 2) a2 σ3) fun r6 σ7 =>
    if (r6 : Int32) = 0 then
      f_X11_guests_42 N ρ this a1 a2 σ7
    else
      if (a1 : Int32) = a2 then
        f_X11_guests_42 N ρ this a1 a2 σ7
      else
        if (σ7.1 (ρ this 2) 11 : Int32) = 0 then
          f_X11_guests_42 N ρ this a1 a2 σ7
        else
          bnd (f_X3_findRests N ρ (ρ this 10) (ρ this 2) (ρ this 4) a1 a2 σ7) fun r12 σ13 =>
          if (r12 : Int32) ≤ 0 then
            f_X11_guests_97 N ρ this a1 a2 r12 σ13
          else
            gd (ib 0 5) <|
            nmd (sI σ13 (ρ this 13) (0 : Int32).toNatClampNeg (σ13.1 (ρ this 10) 2)) fun σ17 =>
            gd (ib 1 5) <|
            nmd (sI σ17 (ρ this 13) (1 : Int32).toNatClampNeg (σ17.1 (ρ this 10) 3)) fun σ19 =>
            nmd (sI σ19 this 14 2) fun σ20 =>
            f_X11_guests_97 N ρ this a1 a2 r12 σ20
set_option maxRecDepth 100000 in
set_option maxHeartbeats 4000000 in
theorem w_X11_guests_42 {N : Nat} {Γ : SG} {ρ : Nat → Nat → Nat} (hs : Sh Γ ρ) {this : Nat} {a1 : Int32} {a2 : Int32} (h0 : Γ[this]? = some (0, 11)) {n0 : Nat} {r : Int32} {σr : St} (σ : St) (hf : f_X11_guests_42 N ρ this a1 a2 σ = some (r, σr)) : Go mX11_guests 6 0 0 n0 (Ki Γ ρ r σr) 0 0 42 [none, none, none, none] [] (hp Γ ρ σ) := by
  unfold f_X11_guests_42 at hf
  refine go_iconst (-1) dX11_guests_42 (by decide) ?_
  cases hf
  exact go_iret rfl dX11_guests_43 (Nat.le_refl _) ⟨rfl, rfl⟩
set_option maxRecDepth 100000 in
set_option maxHeartbeats 4000000 in
theorem w_X11_guests_97 {N : Nat} {Γ : SG} {ρ : Nat → Nat → Nat} (hs : Sh Γ ρ) {this : Nat} {a1 : Int32} {a2 : Int32} (h0 : Γ[this]? = some (0, 11)) {n0 : Nat} {r : Int32} {σr : St} (x3 : Int32) (σ : St) (hf : f_X11_guests_97 N ρ this a1 a2 x3 σ = some (r, σr)) : Go mX11_guests 6 0 0 n0 (Ki Γ ρ r σr) 0 0 97 [none, none, none, some (.int x3)] [] (hp Γ ρ σ) := by
  unfold f_X11_guests_97 at hf
  refine go_iload_n 3 dX11_guests_97 rfl rfl ?_
  cases hf
  exact go_iret rfl dX11_guests_98 (Nat.le_refl _) ⟨rfl, rfl⟩
set_option maxRecDepth 100000 in
set_option maxHeartbeats 4000000 in
theorem t_X11_guests {N : Nat} {Γ : SG} {ρ : Nat → Nat → Nat} (hs : Sh Γ ρ) {this : Nat} {a1 : Int32} {a2 : Int32} (h0 : Γ[this]? = some (0, 11)) {σ : St} {r : Int32} {σr : St} (hf : f_X11_guests N ρ this a1 a2 σ = some (r, σr)) : Tri mX11_guests 6 0 0 [.ref this, .int a1, .int a2] (hp Γ ρ σ) (Ki Γ ρ r σr) := by
  unfold f_X11_guests at hf
  refine tri_of [some (.ref this), some (.int a1), some (.int a2), none] (plainFor_of_name rfl) rfl (Nat.le_of_ble_eq_true rfl) ?_
  refine go_aload_n 0 dX11_guests_0 rfl rfl ?_
  refine go_iconst 0 dX11_guests_1 (by decide) ?_
  obtain ⟨σ1, eσ1, hf⟩ := nmd_some hf
  refine go_pI fl_X11_89 ft_11_14 (okv_i _) dX11_guests_2 h0 (by decide) rfl ?_
  rw [eσ1]
  refine go_aload_n 0 dX11_guests_5 rfl rfl ?_
  refine go_fR fl_X11_30 dX11_guests_6 h0 (by decide) rfl ?_
  refine go_iload_n 1 dX11_guests_9 rfl rfl ?_
  obtain ⟨r2, σ3, q4, hf⟩ := bnd_some hf
  refine go_Vi (av := [.int a1]) (rest := []) (t_X0_hasStool hs (hs.1 _ 11 2 h0 rfl) q4) ok_X0_hasStool ml_X11_157 dX11_guests_10 (hs.1 _ 11 2 h0 rfl) rfl rfl (by decide) (Nat.le_refl _) (Nat.le_refl _) (Nat.le_of_ble_eq_true rfl) ?_
  refine go_if_eq 42 dX11_guests_13 (by decide) (fun c5 => ?_) (fun c5 => ?_)
  · replace hf := (if_pos c5).symm.trans hf
    refine go_msk [false, false, false, false] [none, none, none, none] rfl ?_
    exact w_X11_guests_42 hs h0 σ3 hf
  · replace hf := (if_neg c5).symm.trans hf
    refine go_aload_n 0 dX11_guests_16 rfl rfl ?_
    refine go_fR fl_X11_30 dX11_guests_17 h0 (by decide) rfl ?_
    refine go_iload_n 2 dX11_guests_20 rfl rfl ?_
    obtain ⟨r6, σ7, q8, hf⟩ := bnd_some hf
    refine go_Vi (av := [.int a2]) (rest := []) (t_X0_hasStool hs (hs.1 _ 11 2 h0 rfl) q8) ok_X0_hasStool ml_X11_157 dX11_guests_21 (hs.1 _ 11 2 h0 rfl) rfl rfl (by decide) (Nat.le_refl _) (Nat.le_refl _) (Nat.le_of_ble_eq_true rfl) ?_
    refine go_if_eq 42 dX11_guests_24 (by decide) (fun c9 => ?_) (fun c9 => ?_)
    · replace hf := (if_pos c9).symm.trans hf
      refine go_msk [false, false, false, false] [none, none, none, none] rfl ?_
      exact w_X11_guests_42 hs h0 σ7 hf
    · replace hf := (if_neg c9).symm.trans hf
      refine go_iload_n 1 dX11_guests_27 rfl rfl ?_
      refine go_iload_n 2 dX11_guests_28 rfl rfl ?_
      refine go_icmp_eq 42 dX11_guests_29 (by decide) (fun c10 => ?_) (fun c10 => ?_)
      · replace hf := (if_pos c10).symm.trans hf
        refine go_msk [false, false, false, false] [none, none, none, none] rfl ?_
        exact w_X11_guests_42 hs h0 σ7 hf
      · replace hf := (if_neg c10).symm.trans hf
        refine go_aload_n 0 dX11_guests_32 rfl rfl ?_
        refine go_fR fl_X11_30 dX11_guests_33 h0 (by decide) rfl ?_
        refine go_fI fl_X11_212 dX11_guests_36 (hs.1 _ 11 2 h0 rfl) (by decide) rfl ?_
        refine go_if_ne 44 dX11_guests_39 (by decide) (fun c11 => ?_) (fun c11 => ?_)
        · replace hf := (if_neg c11).symm.trans hf
          refine go_aload_n 0 dX11_guests_44 rfl rfl ?_
          refine go_fR fl_X11_72 dX11_guests_45 h0 (by decide) rfl ?_
          refine go_aload_n 0 dX11_guests_48 rfl rfl ?_
          refine go_fR fl_X11_30 dX11_guests_49 h0 (by decide) rfl ?_
          refine go_aload_n 0 dX11_guests_52 rfl rfl ?_
          refine go_fR fl_X11_40 dX11_guests_53 h0 (by decide) rfl ?_
          refine go_iload_n 1 dX11_guests_56 rfl rfl ?_
          refine go_iload_n 2 dX11_guests_57 rfl rfl ?_
          obtain ⟨r12, σ13, q14, hf⟩ := bnd_some hf
          refine go_Vi (av := [.ref (ρ this 2), .ref (ρ this 4), .int a1, .int a2]) (rest := []) (t_X3_findRests hs (hs.1 _ 11 10 h0 rfl) (hs.1 _ 11 2 h0 rfl) (hs.1 _ 11 4 h0 rfl) q14) ok_X3_findRests ml_X11_295 dX11_guests_58 (hs.1 _ 11 10 h0 rfl) rfl rfl (by decide) (Nat.le_refl _) (Nat.le_refl _) (Nat.le_of_ble_eq_true rfl) ?_
          refine go_istore_n 3 [some (.ref this), some (.int a1), some (.int a2), some (.int r12)] dX11_guests_61 rfl (by decide) rfl ?_
          refine go_iload_n 3 dX11_guests_62 rfl rfl ?_
          refine go_if_le 97 dX11_guests_63 (by decide) (fun c15 => ?_) (fun c15 => ?_)
          · replace hf := (if_pos c15).symm.trans hf
            refine go_msk [false, false, false, true] [none, none, none, some (.int r12)] rfl ?_
            exact w_X11_guests_97 hs h0 r12 σ13 hf
          · replace hf := (if_neg c15).symm.trans hf
            refine go_aload_n 0 dX11_guests_66 rfl rfl ?_
            refine go_fR fl_X11_86 dX11_guests_67 h0 (by decide) rfl ?_
            refine go_iconst 0 dX11_guests_70 (by decide) ?_
            refine go_aload_n 0 dX11_guests_71 rfl rfl ?_
            refine go_fR fl_X11_72 dX11_guests_72 h0 (by decide) rfl ?_
            refine go_fI fl_X11_299 dX11_guests_75 (hs.1 _ 11 10 h0 rfl) (by decide) rfl ?_
            obtain ⟨g16, hf⟩ := gd_some hf
            obtain ⟨σ17, eσ17, hf⟩ := nmd_some hf
            refine go_wI dX11_guests_78 (hs.1 _ 11 13 h0 rfl) (ib_in g16) ?_
            rw [eσ17]
            refine go_aload_n 0 dX11_guests_79 rfl rfl ?_
            refine go_fR fl_X11_86 dX11_guests_80 h0 (by decide) rfl ?_
            refine go_iconst 1 dX11_guests_83 (by decide) ?_
            refine go_aload_n 0 dX11_guests_84 rfl rfl ?_
            refine go_fR fl_X11_72 dX11_guests_85 h0 (by decide) rfl ?_
            refine go_fI fl_X11_302 dX11_guests_88 (hs.1 _ 11 10 h0 rfl) (by decide) rfl ?_
            obtain ⟨g18, hf⟩ := gd_some hf
            obtain ⟨σ19, eσ19, hf⟩ := nmd_some hf
            refine go_wI dX11_guests_91 (hs.1 _ 11 13 h0 rfl) (ib_in g18) ?_
            rw [eσ19]
            refine go_aload_n 0 dX11_guests_92 rfl rfl ?_
            refine go_iconst 2 dX11_guests_93 (by decide) ?_
            obtain ⟨σ20, eσ20, hf⟩ := nmd_some hf
            refine go_pI fl_X11_89 ft_11_14 (okv_i _) dX11_guests_94 h0 (by decide) rfl ?_
            rw [eσ20]
            refine go_msk [false, false, false, true] [none, none, none, some (.int r12)] rfl ?_
            exact w_X11_guests_97 hs h0 r12 σ20 hf
        · replace hf := (if_pos c11).symm.trans hf
          refine go_msk [false, false, false, false] [none, none, none, none] rfl ?_
          exact w_X11_guests_42 hs h0 σ7 hf
def f_X11_lies_23 (N : Nat) (ρ : Nat → Nat → Nat) (this : Nat) (a1 : Int32) (s0 : Int32) (σ : St) : Option (Int32 × St) :=
  some (s0, σ)
def f_X11_lies_21 (N : Nat) (ρ : Nat → Nat → Nat) (this : Nat) (a1 : Int32) (σ : St) : Option (Int32 × St) :=
  f_X11_lies_23 N ρ this a1 (-2) σ
def f_X11_lies (N : Nat) (ρ : Nat → Nat → Nat) (this : Nat) (a1 : Int32) (σ : St) : Option (Int32 × St) :=
  if (a1 : Int32) < 0 then
    f_X11_lies_21 N ρ this a1 σ
  else
    if (σ.1 this 14) ≤ (a1 : Int32) then
      f_X11_lies_21 N ρ this a1 σ
    else
      gd (ib a1 5) <|
      f_X11_lies_23 N ρ this a1 (σ.1 (ρ this 13) a1.toNatClampNeg) σ
set_option maxRecDepth 100000 in
set_option maxHeartbeats 4000000 in
theorem w_X11_lies_23 {N : Nat} {Γ : SG} {ρ : Nat → Nat → Nat} (hs : Sh Γ ρ) {this : Nat} {a1 : Int32} (h0 : Γ[this]? = some (0, 11)) {n0 : Nat} {r : Int32} {σr : St} (s0 : Int32) (σ : St) (hf : f_X11_lies_23 N ρ this a1 s0 σ = some (r, σr)) : Go mX11_lies 0 0 0 n0 (Ki Γ ρ r σr) 0 0 23 [none, none] [.int s0] (hp Γ ρ σ) := by
  unfold f_X11_lies_23 at hf
  cases hf
  exact go_iret rfl dX11_lies_23 (Nat.le_refl _) ⟨rfl, rfl⟩
set_option maxRecDepth 100000 in
set_option maxHeartbeats 4000000 in
theorem w_X11_lies_21 {N : Nat} {Γ : SG} {ρ : Nat → Nat → Nat} (hs : Sh Γ ρ) {this : Nat} {a1 : Int32} (h0 : Γ[this]? = some (0, 11)) {n0 : Nat} {r : Int32} {σr : St} (σ : St) (hf : f_X11_lies_21 N ρ this a1 σ = some (r, σr)) : Go mX11_lies 0 0 0 n0 (Ki Γ ρ r σr) 0 0 21 [none, none] [] (hp Γ ρ σ) := by
  unfold f_X11_lies_21 at hf
  refine go_bipush (-2) dX11_lies_21 (by decide) ?_
  exact w_X11_lies_23 hs h0 (-2) σ hf
set_option maxRecDepth 100000 in
set_option maxHeartbeats 4000000 in
theorem t_X11_lies {N : Nat} {Γ : SG} {ρ : Nat → Nat → Nat} (hs : Sh Γ ρ) {this : Nat} {a1 : Int32} (h0 : Γ[this]? = some (0, 11)) {σ : St} {r : Int32} {σr : St} (hf : f_X11_lies N ρ this a1 σ = some (r, σr)) : Tri mX11_lies 0 0 0 [.ref this, .int a1] (hp Γ ρ σ) (Ki Γ ρ r σr) := by
  unfold f_X11_lies at hf
  refine tri_of [some (.ref this), some (.int a1)] (plainFor_of_name rfl) rfl (Nat.le_of_ble_eq_true rfl) ?_
  refine go_iload_n 1 dX11_lies_0 rfl rfl ?_
  refine go_if_lt 21 dX11_lies_1 (by decide) (fun c1 => ?_) (fun c1 => ?_)
  · replace hf := (if_pos c1).symm.trans hf
    refine go_msk [false, false] [none, none] rfl ?_
    exact w_X11_lies_21 hs h0 σ hf
  · replace hf := (if_neg c1).symm.trans hf
    refine go_iload_n 1 dX11_lies_4 rfl rfl ?_
    refine go_aload_n 0 dX11_lies_5 rfl rfl ?_
    refine go_fI fl_X11_89 dX11_lies_6 h0 (by decide) rfl ?_
    refine go_icmp_ge 21 dX11_lies_9 (by decide) (fun c2 => ?_) (fun c2 => ?_)
    · replace hf := (if_pos c2).symm.trans hf
      refine go_msk [false, false] [none, none] rfl ?_
      exact w_X11_lies_21 hs h0 σ hf
    · replace hf := (if_neg c2).symm.trans hf
      refine go_aload_n 0 dX11_lies_12 rfl rfl ?_
      refine go_fR fl_X11_86 dX11_lies_13 h0 (by decide) rfl ?_
      refine go_iload_n 1 dX11_lies_16 rfl rfl ?_
      obtain ⟨g3, hf⟩ := gd_some hf
      refine go_rI dX11_lies_17 (hs.1 _ 11 13 h0 rfl) (ib_in g3) ?_
      refine go_goto 23 dX11_lies_18 (by decide) ?_
      refine go_msk [false, false] [none, none] rfl ?_
      exact w_X11_lies_23 hs h0 (σ.1 (ρ this 13) a1.toNatClampNeg) σ hf
def f_X11_coversAll_35 (N : Nat) (ρ : Nat → Nat → Nat) (this : Nat) (a1 : Int32) (rec2 : Int32 → St → Option (Int32 × St)) (x2 : Int32) (σ : St) : Option (Int32 × St) :=
  rec2 (x2 + 1) σ
def b_X11_coversAll_2 (N : Nat) (ρ : Nat → Nat → Nat) (this : Nat) (a1 : Int32) (rec2 : Int32 → St → Option (Int32 × St)) (x2 : Int32) (σ : St) : Option (Int32 × St) :=
  if (σ.1 (ρ this 2) 12) ≤ (x2 : Int32) then
    some (1, σ)
  else
    gd (ib x2 5) <|
    if (σ.1 (ρ this 12) x2.toNatClampNeg : Int32) = 0 then
      f_X11_coversAll_35 N ρ this a1 rec2 x2 σ
    else
      gd (ib x2 5) <|
      if ((σ.1 (ρ this 12) x2.toNatClampNeg) &&& a1 : Int32) = 0 then
        some (0, σ)
      else
        f_X11_coversAll_35 N ρ this a1 rec2 x2 σ
def f_X11_coversAll_2 (N : Nat) (ρ : Nat → Nat → Nat) (this : Nat) (a1 : Int32) : Nat → Int32 → St → Option (Int32 × St)
  | 0, _, _ => none
  | n + 1, x2, σ => b_X11_coversAll_2 N ρ this a1 (f_X11_coversAll_2 N ρ this a1 n) x2 σ
def f_X11_coversAll (N : Nat) (ρ : Nat → Nat → Nat) (this : Nat) (a1 : Int32) (σ : St) : Option (Int32 × St) :=
  f_X11_coversAll_2 N ρ this a1 N 0 σ
set_option maxRecDepth 100000 in
set_option maxHeartbeats 4000000 in
theorem w_X11_coversAll_35 {N : Nat} {Γ : SG} {ρ : Nat → Nat → Nat} (hs : Sh Γ ρ) {this : Nat} {a1 : Int32} (h0 : Γ[this]? = some (0, 11)) {n0 : Nat} {r : Int32} {σr : St} (rec2 : Int32 → St → Option (Int32 × St)) (hrec2 : ∀ (x2 : Int32) (σ : St), rec2 x2 σ = some (r, σr) → Go mX11_coversAll 0 0 0 n0 (Ki Γ ρ r σr) 0 0 2 [some (.ref this), some (.int a1), some (.int x2)] [] (hp Γ ρ σ)) (x2 : Int32) (σ : St) (hf : f_X11_coversAll_35 N ρ this a1 rec2 x2 σ = some (r, σr)) : Go mX11_coversAll 0 0 0 n0 (Ki Γ ρ r σr) 0 0 35 [some (.ref this), some (.int a1), some (.int x2)] [] (hp Γ ρ σ) := by
  unfold f_X11_coversAll_35 at hf
  refine go_iinc (x2 + 1) [some (.ref this), some (.int a1), some (.int (x2 + 1))] dX11_coversAll_35 rfl rfl (by decide) rfl ?_
  refine go_goto 2 dX11_coversAll_38 (by decide) ?_
  exact hrec2 (x2 + 1) σ hf
set_option maxRecDepth 100000 in
set_option maxHeartbeats 4000000 in
theorem v_X11_coversAll_2 {N : Nat} {Γ : SG} {ρ : Nat → Nat → Nat} (hs : Sh Γ ρ) {this : Nat} {a1 : Int32} (h0 : Γ[this]? = some (0, 11)) {n0 : Nat} {r : Int32} {σr : St} (rec2 : Int32 → St → Option (Int32 × St)) (hrec2 : ∀ (x2 : Int32) (σ : St), rec2 x2 σ = some (r, σr) → Go mX11_coversAll 0 0 0 n0 (Ki Γ ρ r σr) 0 0 2 [some (.ref this), some (.int a1), some (.int x2)] [] (hp Γ ρ σ)) (x2 : Int32) (σ : St) (hf : b_X11_coversAll_2 N ρ this a1 rec2 x2 σ = some (r, σr)) : Go mX11_coversAll 0 0 0 n0 (Ki Γ ρ r σr) 0 0 2 [some (.ref this), some (.int a1), some (.int x2)] [] (hp Γ ρ σ) := by
  unfold b_X11_coversAll_2 at hf
  refine go_iload_n 2 dX11_coversAll_2 rfl rfl ?_
  refine go_aload_n 0 dX11_coversAll_3 rfl rfl ?_
  refine go_fR fl_X11_30 dX11_coversAll_4 h0 (by decide) rfl ?_
  refine go_fI fl_X11_132 dX11_coversAll_7 (hs.1 _ 11 2 h0 rfl) (by decide) rfl ?_
  refine go_icmp_ge 41 dX11_coversAll_10 (by decide) (fun c1 => ?_) (fun c1 => ?_)
  · replace hf := (if_pos c1).symm.trans hf
    refine go_iconst 1 dX11_coversAll_41 (by decide) ?_
    cases hf
    exact go_zret rfl (by decide) dX11_coversAll_42 (Nat.le_refl _) ⟨rfl, rfl⟩
  · replace hf := (if_neg c1).symm.trans hf
    refine go_aload_n 0 dX11_coversAll_13 rfl rfl ?_
    refine go_fR fl_X11_83 dX11_coversAll_14 h0 (by decide) rfl ?_
    refine go_iload_n 2 dX11_coversAll_17 rfl rfl ?_
    obtain ⟨g2, hf⟩ := gd_some hf
    refine go_rI dX11_coversAll_18 (hs.1 _ 11 12 h0 rfl) (ib_in g2) ?_
    refine go_if_eq 35 dX11_coversAll_19 (by decide) (fun c3 => ?_) (fun c3 => ?_)
    · replace hf := (if_pos c3).symm.trans hf
      exact w_X11_coversAll_35 hs h0 rec2 hrec2 x2 σ hf
    · replace hf := (if_neg c3).symm.trans hf
      refine go_aload_n 0 dX11_coversAll_22 rfl rfl ?_
      refine go_fR fl_X11_83 dX11_coversAll_23 h0 (by decide) rfl ?_
      refine go_iload_n 2 dX11_coversAll_26 rfl rfl ?_
      obtain ⟨g4, hf⟩ := gd_some hf
      refine go_rI dX11_coversAll_27 (hs.1 _ 11 12 h0 rfl) (ib_in g4) ?_
      refine go_iload_n 1 dX11_coversAll_28 rfl rfl ?_
      refine go_iand dX11_coversAll_29 ?_
      refine go_if_ne 35 dX11_coversAll_30 (by decide) (fun c5 => ?_) (fun c5 => ?_)
      · replace hf := (if_neg c5).symm.trans hf
        exact w_X11_coversAll_35 hs h0 rec2 hrec2 x2 σ hf
      · replace hf := (if_pos c5).symm.trans hf
        refine go_iconst 0 dX11_coversAll_33 (by decide) ?_
        cases hf
        exact go_zret rfl (by decide) dX11_coversAll_34 (Nat.le_refl _) ⟨rfl, rfl⟩
theorem w_X11_coversAll_2 {N : Nat} {Γ : SG} {ρ : Nat → Nat → Nat} (hs : Sh Γ ρ) {this : Nat} {a1 : Int32} (h0 : Γ[this]? = some (0, 11)) {n0 : Nat} {r : Int32} {σr : St} : ∀ (n : Nat) (x2 : Int32) (σ : St), f_X11_coversAll_2 N ρ this a1 n x2 σ = some (r, σr) → Go mX11_coversAll 0 0 0 n0 (Ki Γ ρ r σr) 0 0 2 [some (.ref this), some (.int a1), some (.int x2)] [] (hp Γ ρ σ) := by
  intro n
  induction n with
  | zero => intro x2 σ hf; cases hf
  | succ n ih => intro x2 σ hf; exact v_X11_coversAll_2 hs h0 _ ih x2 σ hf
set_option maxRecDepth 100000 in
set_option maxHeartbeats 4000000 in
theorem t_X11_coversAll {N : Nat} {Γ : SG} {ρ : Nat → Nat → Nat} (hs : Sh Γ ρ) {this : Nat} {a1 : Int32} (h0 : Γ[this]? = some (0, 11)) {σ : St} {r : Int32} {σr : St} (hf : f_X11_coversAll N ρ this a1 σ = some (r, σr)) : Tri mX11_coversAll 0 0 0 [.ref this, .int a1] (hp Γ ρ σ) (Ki Γ ρ r σr) := by
  unfold f_X11_coversAll at hf
  refine tri_of [some (.ref this), some (.int a1), none] (plainFor_of_name rfl) rfl (Nat.le_of_ble_eq_true rfl) ?_
  refine go_iconst 0 dX11_coversAll_0 (by decide) ?_
  refine go_istore_n 2 [some (.ref this), some (.int a1), some (.int 0)] dX11_coversAll_1 rfl (by decide) rfl ?_
  exact w_X11_coversAll_2 hs h0 N 0 σ hf
def f_X11_findWhereEachCould_65 (N : Nat) (ρ : Nat → Nat → Nat) (this : Nat) (rec2 : Int32 → St → Option (Int32 × St)) (rec22 : Int32 → Int32 → St → Option (Int32 × St)) (x1 : Int32) (x2 : Int32) (σ : St) : Option (Int32 × St) :=
  rec22 x1 (x2 + 1) σ
def b_X11_findWhereEachCould_22 (N : Nat) (ρ : Nat → Nat → Nat) (this : Nat) (rec2 : Int32 → St → Option (Int32 × St)) (rec22 : Int32 → Int32 → St → Option (Int32 × St)) (x1 : Int32) (x2 : Int32) (σ : St) : Option (Int32 × St) :=
  if (σ.1 (ρ this 2) 11) ≤ (x2 : Int32) then
    rec2 (x1 + 1) σ
  else
    bnd (f_X0_bearing N ρ (ρ this 2) (ρ this 4) x2 (1 <<< (x1 &&& 31)) 1 0 σ) fun r2 σ3 =>
    if (r2 : Int32) = 0 then
      f_X11_findWhereEachCould_65 N ρ this rec2 rec22 x1 x2 σ3
    else
      gd (ib x1 5) <|
      gd (ib x1 5) <|
      nmd (sI σ3 (ρ this 12) x1.toNatClampNeg ((σ3.1 (ρ this 12) x1.toNatClampNeg) ||| (1 <<< (x2 &&& 31)))) fun σ8 =>
      f_X11_findWhereEachCould_65 N ρ this rec2 rec22 x1 x2 σ8
def f_X11_findWhereEachCould_22 (N : Nat) (ρ : Nat → Nat → Nat) (this : Nat) (rec2 : Int32 → St → Option (Int32 × St)) : Nat → Int32 → Int32 → St → Option (Int32 × St)
  | 0, _, _, _ => none
  | n + 1, x1, x2, σ => b_X11_findWhereEachCould_22 N ρ this rec2 (f_X11_findWhereEachCould_22 N ρ this rec2 n) x1 x2 σ
def b_X11_findWhereEachCould_2 (N : Nat) (ρ : Nat → Nat → Nat) (this : Nat) (rec2 : Int32 → St → Option (Int32 × St)) (x1 : Int32) (σ : St) : Option (Int32 × St) :=
  if (σ.1 (ρ this 2) 12) ≤ (x1 : Int32) then
    some (0, σ)
  else
    gd (ib x1 5) <|
    nmd (sI σ (ρ this 12) x1.toNatClampNeg 0) fun σ11 =>
    f_X11_findWhereEachCould_22 N ρ this rec2 N x1 0 σ11
def f_X11_findWhereEachCould_2 (N : Nat) (ρ : Nat → Nat → Nat) (this : Nat) : Nat → Int32 → St → Option (Int32 × St)
  | 0, _, _ => none
  | n + 1, x1, σ => b_X11_findWhereEachCould_2 N ρ this (f_X11_findWhereEachCould_2 N ρ this n) x1 σ
def f_X11_findWhereEachCould (N : Nat) (ρ : Nat → Nat → Nat) (this : Nat) (σ : St) : Option (Int32 × St) :=
  f_X11_findWhereEachCould_2 N ρ this N 0 σ
set_option maxRecDepth 100000 in
set_option maxHeartbeats 4000000 in
theorem w_X11_findWhereEachCould_65 {N : Nat} {Γ : SG} {ρ : Nat → Nat → Nat} (hs : Sh Γ ρ) {this : Nat} (h0 : Γ[this]? = some (0, 11)) {n0 : Nat} {r : Int32} {σr : St} (rec2 : Int32 → St → Option (Int32 × St)) (hrec2 : ∀ (x1 : Int32) (σ : St), rec2 x1 σ = some (r, σr) → Go mX11_findWhereEachCould 4 0 0 n0 (Kv Γ ρ σr) 0 0 2 [some (.ref this), some (.int x1), none] [] (hp Γ ρ σ)) (rec22 : Int32 → Int32 → St → Option (Int32 × St)) (hrec22 : ∀ (x1 : Int32) (x2 : Int32) (σ : St), rec22 x1 x2 σ = some (r, σr) → Go mX11_findWhereEachCould 4 0 0 n0 (Kv Γ ρ σr) 0 0 22 [some (.ref this), some (.int x1), some (.int x2)] [] (hp Γ ρ σ)) (x1 : Int32) (x2 : Int32) (σ : St) (hf : f_X11_findWhereEachCould_65 N ρ this rec2 rec22 x1 x2 σ = some (r, σr)) : Go mX11_findWhereEachCould 4 0 0 n0 (Kv Γ ρ σr) 0 0 65 [some (.ref this), some (.int x1), some (.int x2)] [] (hp Γ ρ σ) := by
  unfold f_X11_findWhereEachCould_65 at hf
  refine go_iinc (x2 + 1) [some (.ref this), some (.int x1), some (.int (x2 + 1))] dX11_findWhereEachCould_65 rfl rfl (by decide) rfl ?_
  refine go_goto 22 dX11_findWhereEachCould_68 (by decide) ?_
  exact hrec22 x1 (x2 + 1) σ hf
set_option maxRecDepth 100000 in
set_option maxHeartbeats 4000000 in
theorem v_X11_findWhereEachCould_22 {N : Nat} {Γ : SG} {ρ : Nat → Nat → Nat} (hs : Sh Γ ρ) {this : Nat} (h0 : Γ[this]? = some (0, 11)) {n0 : Nat} {r : Int32} {σr : St} (rec2 : Int32 → St → Option (Int32 × St)) (hrec2 : ∀ (x1 : Int32) (σ : St), rec2 x1 σ = some (r, σr) → Go mX11_findWhereEachCould 4 0 0 n0 (Kv Γ ρ σr) 0 0 2 [some (.ref this), some (.int x1), none] [] (hp Γ ρ σ)) (rec22 : Int32 → Int32 → St → Option (Int32 × St)) (hrec22 : ∀ (x1 : Int32) (x2 : Int32) (σ : St), rec22 x1 x2 σ = some (r, σr) → Go mX11_findWhereEachCould 4 0 0 n0 (Kv Γ ρ σr) 0 0 22 [some (.ref this), some (.int x1), some (.int x2)] [] (hp Γ ρ σ)) (x1 : Int32) (x2 : Int32) (σ : St) (hf : b_X11_findWhereEachCould_22 N ρ this rec2 rec22 x1 x2 σ = some (r, σr)) : Go mX11_findWhereEachCould 4 0 0 n0 (Kv Γ ρ σr) 0 0 22 [some (.ref this), some (.int x1), some (.int x2)] [] (hp Γ ρ σ) := by
  unfold b_X11_findWhereEachCould_22 at hf
  refine go_iload_n 2 dX11_findWhereEachCould_22 rfl rfl ?_
  refine go_aload_n 0 dX11_findWhereEachCould_23 rfl rfl ?_
  refine go_fR fl_X11_30 dX11_findWhereEachCould_24 h0 (by decide) rfl ?_
  refine go_fI fl_X11_212 dX11_findWhereEachCould_27 (hs.1 _ 11 2 h0 rfl) (by decide) rfl ?_
  refine go_icmp_ge 71 dX11_findWhereEachCould_30 (by decide) (fun c1 => ?_) (fun c1 => ?_)
  · replace hf := (if_pos c1).symm.trans hf
    refine go_iinc (x1 + 1) [some (.ref this), some (.int (x1 + 1)), some (.int x2)] dX11_findWhereEachCould_71 rfl rfl (by decide) rfl ?_
    refine go_goto 2 dX11_findWhereEachCould_74 (by decide) ?_
    refine go_msk [true, true, false] [some (.ref this), some (.int (x1 + 1)), none] rfl ?_
    exact hrec2 (x1 + 1) σ hf
  · replace hf := (if_neg c1).symm.trans hf
    refine go_aload_n 0 dX11_findWhereEachCould_33 rfl rfl ?_
    refine go_fR fl_X11_30 dX11_findWhereEachCould_34 h0 (by decide) rfl ?_
    refine go_aload_n 0 dX11_findWhereEachCould_37 rfl rfl ?_
    refine go_fR fl_X11_40 dX11_findWhereEachCould_38 h0 (by decide) rfl ?_
    refine go_iload_n 2 dX11_findWhereEachCould_41 rfl rfl ?_
    refine go_iconst 1 dX11_findWhereEachCould_42 (by decide) ?_
    refine go_iload_n 1 dX11_findWhereEachCould_43 rfl rfl ?_
    refine go_ishl dX11_findWhereEachCould_44 ?_
    refine go_iconst 1 dX11_findWhereEachCould_45 (by decide) ?_
    refine go_iconst 0 dX11_findWhereEachCould_46 (by decide) ?_
    obtain ⟨r2, σ3, q4, hf⟩ := bnd_some hf
    refine go_Vi (av := [.ref (ρ this 4), .int x2, .int (1 <<< (x1 &&& 31)), .int 1, .int 0]) (rest := []) (t_X0_bearing hs (hs.1 _ 11 2 h0 rfl) (hs.1 _ 11 4 h0 rfl) q4) ok_X0_bearing ml_X11_315 dX11_findWhereEachCould_47 (hs.1 _ 11 2 h0 rfl) rfl rfl (by decide) (Nat.le_refl _) (Nat.le_refl _) (Nat.le_of_ble_eq_true rfl) ?_
    refine go_if_eq 65 dX11_findWhereEachCould_50 (by decide) (fun c5 => ?_) (fun c5 => ?_)
    · replace hf := (if_pos c5).symm.trans hf
      exact w_X11_findWhereEachCould_65 hs h0 rec2 hrec2 rec22 hrec22 x1 x2 σ3 hf
    · replace hf := (if_neg c5).symm.trans hf
      refine go_aload_n 0 dX11_findWhereEachCould_53 rfl rfl ?_
      refine go_fR fl_X11_83 dX11_findWhereEachCould_54 h0 (by decide) rfl ?_
      refine go_iload_n 1 dX11_findWhereEachCould_57 rfl rfl ?_
      refine go_dup2 dX11_findWhereEachCould_58 rfl rfl ?_
      obtain ⟨g6, hf⟩ := gd_some hf
      refine go_rI dX11_findWhereEachCould_59 (hs.1 _ 11 12 h0 rfl) (ib_in g6) ?_
      refine go_iconst 1 dX11_findWhereEachCould_60 (by decide) ?_
      refine go_iload_n 2 dX11_findWhereEachCould_61 rfl rfl ?_
      refine go_ishl dX11_findWhereEachCould_62 ?_
      refine go_ior dX11_findWhereEachCould_63 ?_
      obtain ⟨g7, hf⟩ := gd_some hf
      obtain ⟨σ8, eσ8, hf⟩ := nmd_some hf
      refine go_wI dX11_findWhereEachCould_64 (hs.1 _ 11 12 h0 rfl) (ib_in g7) ?_
      rw [eσ8]
      exact w_X11_findWhereEachCould_65 hs h0 rec2 hrec2 rec22 hrec22 x1 x2 σ8 hf
theorem w_X11_findWhereEachCould_22 {N : Nat} {Γ : SG} {ρ : Nat → Nat → Nat} (hs : Sh Γ ρ) {this : Nat} (h0 : Γ[this]? = some (0, 11)) {n0 : Nat} {r : Int32} {σr : St} (rec2 : Int32 → St → Option (Int32 × St)) (hrec2 : ∀ (x1 : Int32) (σ : St), rec2 x1 σ = some (r, σr) → Go mX11_findWhereEachCould 4 0 0 n0 (Kv Γ ρ σr) 0 0 2 [some (.ref this), some (.int x1), none] [] (hp Γ ρ σ)) : ∀ (n : Nat) (x1 : Int32) (x2 : Int32) (σ : St), f_X11_findWhereEachCould_22 N ρ this rec2 n x1 x2 σ = some (r, σr) → Go mX11_findWhereEachCould 4 0 0 n0 (Kv Γ ρ σr) 0 0 22 [some (.ref this), some (.int x1), some (.int x2)] [] (hp Γ ρ σ) := by
  intro n
  induction n with
  | zero => intro x1 x2 σ hf; cases hf
  | succ n ih => intro x1 x2 σ hf; exact v_X11_findWhereEachCould_22 hs h0 rec2 hrec2 _ ih x1 x2 σ hf
set_option maxRecDepth 100000 in
set_option maxHeartbeats 4000000 in
theorem v_X11_findWhereEachCould_2 {N : Nat} {Γ : SG} {ρ : Nat → Nat → Nat} (hs : Sh Γ ρ) {this : Nat} (h0 : Γ[this]? = some (0, 11)) {n0 : Nat} {r : Int32} {σr : St} (rec2 : Int32 → St → Option (Int32 × St)) (hrec2 : ∀ (x1 : Int32) (σ : St), rec2 x1 σ = some (r, σr) → Go mX11_findWhereEachCould 4 0 0 n0 (Kv Γ ρ σr) 0 0 2 [some (.ref this), some (.int x1), none] [] (hp Γ ρ σ)) (x1 : Int32) (σ : St) (hf : b_X11_findWhereEachCould_2 N ρ this rec2 x1 σ = some (r, σr)) : Go mX11_findWhereEachCould 4 0 0 n0 (Kv Γ ρ σr) 0 0 2 [some (.ref this), some (.int x1), none] [] (hp Γ ρ σ) := by
  unfold b_X11_findWhereEachCould_2 at hf
  refine go_iload_n 1 dX11_findWhereEachCould_2 rfl rfl ?_
  refine go_aload_n 0 dX11_findWhereEachCould_3 rfl rfl ?_
  refine go_fR fl_X11_30 dX11_findWhereEachCould_4 h0 (by decide) rfl ?_
  refine go_fI fl_X11_132 dX11_findWhereEachCould_7 (hs.1 _ 11 2 h0 rfl) (by decide) rfl ?_
  refine go_icmp_ge 77 dX11_findWhereEachCould_10 (by decide) (fun c9 => ?_) (fun c9 => ?_)
  · replace hf := (if_pos c9).symm.trans hf
    cases hf
    exact go_vret rfl dX11_findWhereEachCould_77 (Nat.le_refl _) ⟨rfl, rfl⟩
  · replace hf := (if_neg c9).symm.trans hf
    refine go_aload_n 0 dX11_findWhereEachCould_13 rfl rfl ?_
    refine go_fR fl_X11_83 dX11_findWhereEachCould_14 h0 (by decide) rfl ?_
    refine go_iload_n 1 dX11_findWhereEachCould_17 rfl rfl ?_
    refine go_iconst 0 dX11_findWhereEachCould_18 (by decide) ?_
    obtain ⟨g10, hf⟩ := gd_some hf
    obtain ⟨σ11, eσ11, hf⟩ := nmd_some hf
    refine go_wI dX11_findWhereEachCould_19 (hs.1 _ 11 12 h0 rfl) (ib_in g10) ?_
    rw [eσ11]
    refine go_iconst 0 dX11_findWhereEachCould_20 (by decide) ?_
    refine go_istore_n 2 [some (.ref this), some (.int x1), some (.int 0)] dX11_findWhereEachCould_21 rfl (by decide) rfl ?_
    exact w_X11_findWhereEachCould_22 hs h0 rec2 hrec2 N x1 0 σ11 hf
theorem w_X11_findWhereEachCould_2 {N : Nat} {Γ : SG} {ρ : Nat → Nat → Nat} (hs : Sh Γ ρ) {this : Nat} (h0 : Γ[this]? = some (0, 11)) {n0 : Nat} {r : Int32} {σr : St} : ∀ (n : Nat) (x1 : Int32) (σ : St), f_X11_findWhereEachCould_2 N ρ this n x1 σ = some (r, σr) → Go mX11_findWhereEachCould 4 0 0 n0 (Kv Γ ρ σr) 0 0 2 [some (.ref this), some (.int x1), none] [] (hp Γ ρ σ) := by
  intro n
  induction n with
  | zero => intro x1 σ hf; cases hf
  | succ n ih => intro x1 σ hf; exact v_X11_findWhereEachCould_2 hs h0 _ ih x1 σ hf
set_option maxRecDepth 100000 in
set_option maxHeartbeats 4000000 in
theorem t_X11_findWhereEachCould {N : Nat} {Γ : SG} {ρ : Nat → Nat → Nat} (hs : Sh Γ ρ) {this : Nat} (h0 : Γ[this]? = some (0, 11)) {σ : St} {r : Int32} {σr : St} (hf : f_X11_findWhereEachCould N ρ this σ = some (r, σr)) : Tri mX11_findWhereEachCould 4 0 0 [.ref this] (hp Γ ρ σ) (Kv Γ ρ σr) := by
  unfold f_X11_findWhereEachCould at hf
  refine tri_of [some (.ref this), none, none] (plainFor_of_name rfl) rfl (Nat.le_of_ble_eq_true rfl) ?_
  refine go_iconst 0 dX11_findWhereEachCould_0 (by decide) ?_
  refine go_istore_n 1 [some (.ref this), some (.int 0), none] dX11_findWhereEachCould_1 rfl (by decide) rfl ?_
  exact w_X11_findWhereEachCould_2 hs h0 N 0 σ hf
def f_X11_cover_9 (N : Nat) (ρ : Nat → Nat → Nat) (this : Nat) (a1 : Int32) (σ : St) : Option (Int32 × St) :=
  some ((-1), σ)
def f_X11_cover_63 (N : Nat) (ρ : Nat → Nat → Nat) (this : Nat) (a1 : Int32) (rec29 : Int32 → Int32 → St → Option (Int32 × St)) (x2 : Int32) (x3 : Int32) (σ : St) : Option (Int32 × St) :=
  rec29 x2 (x3 + 1) σ
def f_X11_cover_81 (N : Nat) (ρ : Nat → Nat → Nat) (this : Nat) (a1 : Int32) (s0 : Int32) (σ : St) : Option (Int32 × St) :=
  some (s0, σ)
def b_X11_cover_29 (N : Nat) (ρ : Nat → Nat → Nat) (this : Nat) (a1 : Int32) (rec29 : Int32 → Int32 → St → Option (Int32 × St)) (x2 : Int32) (x3 : Int32) (σ : St) : Option (Int32 × St) :=
  if (1 <<< ((σ.1 (ρ this 2) 11) &&& 31)) ≤ (x3 : Int32) then
    if (a1 : Int32) = 0 then
      bnd (f_J6_bitCount_0f7a4 N ρ x2 σ) fun r3 σ4 =>
      f_X11_cover_81 N ρ this a1 r3 σ4
    else
      f_X11_cover_81 N ρ this a1 x2 σ
  else
    bnd (f_J6_bitCount_0f7a4 N ρ x3 σ) fun r6 σ7 =>
    bnd (f_J6_bitCount_0f7a4 N ρ x2 σ7) fun r9 σ10 =>
    if r9 ≤ (r6 : Int32) then
      f_X11_cover_63 N ρ this a1 rec29 x2 x3 σ10
    else
      bnd (f_X11_coversAll N ρ this x3 σ10) fun r13 σ14 =>
      if (r13 : Int32) = 0 then
        f_X11_cover_63 N ρ this a1 rec29 x2 x3 σ14
      else
        f_X11_cover_63 N ρ this a1 rec29 x3 x3 σ14
def f_X11_cover_29 (N : Nat) (ρ : Nat → Nat → Nat) (this : Nat) (a1 : Int32) : Nat → Int32 → Int32 → St → Option (Int32 × St)
  | 0, _, _, _ => none
  | n + 1, x2, x3, σ => b_X11_cover_29 N ρ this a1 (f_X11_cover_29 N ρ this a1 n) x2 x3 σ
def f_X11_cover (N : Nat) (ρ : Nat → Nat → Nat) (this : Nat) (a1 : Int32) (σ : St) : Option (Int32 × St) :=
  if (a1 : Int32) < 0 then
    f_X11_cover_9 N ρ this a1 σ
  else
    if (a1 : Int32) ≤ 1 then
      bnd (f_X11_findWhereEachCould N ρ this σ) fun _ σ20 =>
      nmd ((1 <<< ((σ20.1 (ρ this 2) 11) &&& 31)) - 1) fun y22 =>
      f_X11_cover_29 N ρ this a1 N y22 0 σ20
    else
      f_X11_cover_9 N ρ this a1 σ
set_option maxRecDepth 100000 in
set_option maxHeartbeats 4000000 in
theorem w_X11_cover_9 {N : Nat} {Γ : SG} {ρ : Nat → Nat → Nat} (hs : Sh Γ ρ) {this : Nat} {a1 : Int32} (h0 : Γ[this]? = some (0, 11)) {n0 : Nat} {r : Int32} {σr : St} (σ : St) (hf : f_X11_cover_9 N ρ this a1 σ = some (r, σr)) : Go mX11_cover 5 0 0 n0 (Ki Γ ρ r σr) 0 0 9 [none, none, none, none] [] (hp Γ ρ σ) := by
  unfold f_X11_cover_9 at hf
  refine go_iconst (-1) dX11_cover_9 (by decide) ?_
  cases hf
  exact go_iret rfl dX11_cover_10 (Nat.le_refl _) ⟨rfl, rfl⟩
set_option maxRecDepth 100000 in
set_option maxHeartbeats 4000000 in
theorem w_X11_cover_63 {N : Nat} {Γ : SG} {ρ : Nat → Nat → Nat} (hs : Sh Γ ρ) {this : Nat} {a1 : Int32} (h0 : Γ[this]? = some (0, 11)) {n0 : Nat} {r : Int32} {σr : St} (rec29 : Int32 → Int32 → St → Option (Int32 × St)) (hrec29 : ∀ (x2 : Int32) (x3 : Int32) (σ : St), rec29 x2 x3 σ = some (r, σr) → Go mX11_cover 5 0 0 n0 (Ki Γ ρ r σr) 0 0 29 [some (.ref this), some (.int a1), some (.int x2), some (.int x3)] [] (hp Γ ρ σ)) (x2 : Int32) (x3 : Int32) (σ : St) (hf : f_X11_cover_63 N ρ this a1 rec29 x2 x3 σ = some (r, σr)) : Go mX11_cover 5 0 0 n0 (Ki Γ ρ r σr) 0 0 63 [some (.ref this), some (.int a1), some (.int x2), some (.int x3)] [] (hp Γ ρ σ) := by
  unfold f_X11_cover_63 at hf
  refine go_iinc (x3 + 1) [some (.ref this), some (.int a1), some (.int x2), some (.int (x3 + 1))] dX11_cover_63 rfl rfl (by decide) rfl ?_
  refine go_goto 29 dX11_cover_66 (by decide) ?_
  exact hrec29 x2 (x3 + 1) σ hf
set_option maxRecDepth 100000 in
set_option maxHeartbeats 4000000 in
theorem w_X11_cover_81 {N : Nat} {Γ : SG} {ρ : Nat → Nat → Nat} (hs : Sh Γ ρ) {this : Nat} {a1 : Int32} (h0 : Γ[this]? = some (0, 11)) {n0 : Nat} {r : Int32} {σr : St} (s0 : Int32) (σ : St) (hf : f_X11_cover_81 N ρ this a1 s0 σ = some (r, σr)) : Go mX11_cover 5 0 0 n0 (Ki Γ ρ r σr) 0 0 81 [none, none, none, none] [.int s0] (hp Γ ρ σ) := by
  unfold f_X11_cover_81 at hf
  cases hf
  exact go_iret rfl dX11_cover_81 (Nat.le_refl _) ⟨rfl, rfl⟩
set_option maxRecDepth 100000 in
set_option maxHeartbeats 4000000 in
theorem v_X11_cover_29 {N : Nat} {Γ : SG} {ρ : Nat → Nat → Nat} (hs : Sh Γ ρ) {this : Nat} {a1 : Int32} (h0 : Γ[this]? = some (0, 11)) {n0 : Nat} {r : Int32} {σr : St} (rec29 : Int32 → Int32 → St → Option (Int32 × St)) (hrec29 : ∀ (x2 : Int32) (x3 : Int32) (σ : St), rec29 x2 x3 σ = some (r, σr) → Go mX11_cover 5 0 0 n0 (Ki Γ ρ r σr) 0 0 29 [some (.ref this), some (.int a1), some (.int x2), some (.int x3)] [] (hp Γ ρ σ)) (x2 : Int32) (x3 : Int32) (σ : St) (hf : b_X11_cover_29 N ρ this a1 rec29 x2 x3 σ = some (r, σr)) : Go mX11_cover 5 0 0 n0 (Ki Γ ρ r σr) 0 0 29 [some (.ref this), some (.int a1), some (.int x2), some (.int x3)] [] (hp Γ ρ σ) := by
  unfold b_X11_cover_29 at hf
  refine go_iload_n 3 dX11_cover_29 rfl rfl ?_
  refine go_iconst 1 dX11_cover_30 (by decide) ?_
  refine go_aload_n 0 dX11_cover_31 rfl rfl ?_
  refine go_fR fl_X11_30 dX11_cover_32 h0 (by decide) rfl ?_
  refine go_fI fl_X11_212 dX11_cover_35 (hs.1 _ 11 2 h0 rfl) (by decide) rfl ?_
  refine go_ishl dX11_cover_38 ?_
  refine go_icmp_ge 69 dX11_cover_39 (by decide) (fun c1 => ?_) (fun c1 => ?_)
  · replace hf := (if_pos c1).symm.trans hf
    refine go_iload_n 1 dX11_cover_69 rfl rfl ?_
    refine go_if_ne 80 dX11_cover_70 (by decide) (fun c2 => ?_) (fun c2 => ?_)
    · replace hf := (if_neg c2).symm.trans hf
      refine go_iload_n 2 dX11_cover_80 rfl rfl ?_
      refine go_msk [false, false, false, false] [none, none, none, none] rfl ?_
      exact w_X11_cover_81 hs h0 x2 σ hf
    · replace hf := (if_pos c2).symm.trans hf
      refine go_iload_n 2 dX11_cover_73 rfl rfl ?_
      obtain ⟨r3, σ4, q5, hf⟩ := bnd_some hf
      refine go_Si (av := [.int x2]) (rest := []) (t_J6_bitCount_0f7a4 hs  q5) ok_J6_bitCount_0f7a4 ml_X11_185 dX11_cover_74 rfl rfl (by decide) (Nat.le_refl _) (Nat.le_refl _) (Nat.le_of_ble_eq_true rfl) ?_
      refine go_goto 81 dX11_cover_77 (by decide) ?_
      refine go_msk [false, false, false, false] [none, none, none, none] rfl ?_
      exact w_X11_cover_81 hs h0 r3 σ4 hf
  · replace hf := (if_neg c1).symm.trans hf
    refine go_iload_n 3 dX11_cover_42 rfl rfl ?_
    obtain ⟨r6, σ7, q8, hf⟩ := bnd_some hf
    refine go_Si (av := [.int x3]) (rest := []) (t_J6_bitCount_0f7a4 hs  q8) ok_J6_bitCount_0f7a4 ml_X11_185 dX11_cover_43 rfl rfl (by decide) (Nat.le_refl _) (Nat.le_refl _) (Nat.le_of_ble_eq_true rfl) ?_
    refine go_iload_n 2 dX11_cover_46 rfl rfl ?_
    obtain ⟨r9, σ10, q11, hf⟩ := bnd_some hf
    refine go_Si (av := [.int x2]) (rest := [.int r6]) (t_J6_bitCount_0f7a4 hs  q11) ok_J6_bitCount_0f7a4 ml_X11_185 dX11_cover_47 rfl rfl (by decide) (Nat.le_refl _) (Nat.le_refl _) (Nat.le_of_ble_eq_true rfl) ?_
    refine go_icmp_ge 63 dX11_cover_50 (by decide) (fun c12 => ?_) (fun c12 => ?_)
    · replace hf := (if_pos c12).symm.trans hf
      exact w_X11_cover_63 hs h0 rec29 hrec29 x2 x3 σ10 hf
    · replace hf := (if_neg c12).symm.trans hf
      refine go_aload_n 0 dX11_cover_53 rfl rfl ?_
      refine go_iload_n 3 dX11_cover_54 rfl rfl ?_
      obtain ⟨r13, σ14, q15, hf⟩ := bnd_some hf
      refine go_Vi (av := [.int x3]) (rest := []) (t_X11_coversAll hs h0 q15) ok_X11_coversAll ml_X11_308 dX11_cover_55 h0 rfl rfl (by decide) (Nat.le_refl _) (Nat.le_refl _) (Nat.le_of_ble_eq_true rfl) ?_
      refine go_if_eq 63 dX11_cover_58 (by decide) (fun c16 => ?_) (fun c16 => ?_)
      · replace hf := (if_pos c16).symm.trans hf
        exact w_X11_cover_63 hs h0 rec29 hrec29 x2 x3 σ14 hf
      · replace hf := (if_neg c16).symm.trans hf
        refine go_iload_n 3 dX11_cover_61 rfl rfl ?_
        refine go_istore_n 2 [some (.ref this), some (.int a1), some (.int x3), some (.int x3)] dX11_cover_62 rfl (by decide) rfl ?_
        exact w_X11_cover_63 hs h0 rec29 hrec29 x3 x3 σ14 hf
theorem w_X11_cover_29 {N : Nat} {Γ : SG} {ρ : Nat → Nat → Nat} (hs : Sh Γ ρ) {this : Nat} {a1 : Int32} (h0 : Γ[this]? = some (0, 11)) {n0 : Nat} {r : Int32} {σr : St} : ∀ (n : Nat) (x2 : Int32) (x3 : Int32) (σ : St), f_X11_cover_29 N ρ this a1 n x2 x3 σ = some (r, σr) → Go mX11_cover 5 0 0 n0 (Ki Γ ρ r σr) 0 0 29 [some (.ref this), some (.int a1), some (.int x2), some (.int x3)] [] (hp Γ ρ σ) := by
  intro n
  induction n with
  | zero => intro x2 x3 σ hf; cases hf
  | succ n ih => intro x2 x3 σ hf; exact v_X11_cover_29 hs h0 _ ih x2 x3 σ hf
set_option maxRecDepth 100000 in
set_option maxHeartbeats 4000000 in
theorem t_X11_cover {N : Nat} {Γ : SG} {ρ : Nat → Nat → Nat} (hs : Sh Γ ρ) {this : Nat} {a1 : Int32} (h0 : Γ[this]? = some (0, 11)) {σ : St} {r : Int32} {σr : St} (hf : f_X11_cover N ρ this a1 σ = some (r, σr)) : Tri mX11_cover 5 0 0 [.ref this, .int a1] (hp Γ ρ σ) (Ki Γ ρ r σr) := by
  unfold f_X11_cover at hf
  refine tri_of [some (.ref this), some (.int a1), none, none] (plainFor_of_name rfl) rfl (Nat.le_of_ble_eq_true rfl) ?_
  refine go_iload_n 1 dX11_cover_0 rfl rfl ?_
  refine go_if_lt 9 dX11_cover_1 (by decide) (fun c17 => ?_) (fun c17 => ?_)
  · replace hf := (if_pos c17).symm.trans hf
    refine go_msk [false, false, false, false] [none, none, none, none] rfl ?_
    exact w_X11_cover_9 hs h0 σ hf
  · replace hf := (if_neg c17).symm.trans hf
    refine go_iload_n 1 dX11_cover_4 rfl rfl ?_
    refine go_iconst 1 dX11_cover_5 (by decide) ?_
    refine go_icmp_le 11 dX11_cover_6 (by decide) (fun c18 => ?_) (fun c18 => ?_)
    · replace hf := (if_pos c18).symm.trans hf
      refine go_aload_n 0 dX11_cover_11 rfl rfl ?_
      obtain ⟨r19, σ20, q21, hf⟩ := bnd_some hf
      refine go_Vv (av := []) (rest := []) (t_X11_findWhereEachCould hs h0 q21) ok_X11_findWhereEachCould ml_X11_305 dX11_cover_12 h0 rfl rfl (by decide) (Nat.le_refl _) (Nat.le_refl _) (Nat.le_of_ble_eq_true rfl) ?_
      refine go_iconst 1 dX11_cover_15 (by decide) ?_
      refine go_aload_n 0 dX11_cover_16 rfl rfl ?_
      refine go_fR fl_X11_30 dX11_cover_17 h0 (by decide) rfl ?_
      refine go_fI fl_X11_212 dX11_cover_20 (hs.1 _ 11 2 h0 rfl) (by decide) rfl ?_
      refine go_ishl dX11_cover_23 ?_
      refine go_iconst 1 dX11_cover_24 (by decide) ?_
      refine go_isub dX11_cover_25 ?_
      obtain ⟨y22, ey22, hf⟩ := nmd_some hf
      refine go_nm ey22 ?_
      refine go_istore_n 2 [some (.ref this), some (.int a1), some (.int y22), none] dX11_cover_26 rfl (by decide) rfl ?_
      refine go_iconst 0 dX11_cover_27 (by decide) ?_
      refine go_istore_n 3 [some (.ref this), some (.int a1), some (.int y22), some (.int 0)] dX11_cover_28 rfl (by decide) rfl ?_
      exact w_X11_cover_29 hs h0 N y22 0 σ20 hf
    · replace hf := (if_neg c18).symm.trans hf
      refine go_msk [false, false, false, false] [none, none, none, none] rfl ?_
      exact w_X11_cover_9 hs h0 σ hf
def f_X11_easiest_81 (N : Nat) (ρ : Nat → Nat → Nat) (this : Nat) (a1 : Int32) (rec20 : Int32 → Int32 → Int32 → St → Option (Int32 × St)) (x2 : Int32) (x3 : Int32) (x4 : Int32) (σ : St) : Option (Int32 × St) :=
  rec20 x2 x3 (x4 + 1) σ
def f_X11_easiest_75 (N : Nat) (ρ : Nat → Nat → Nat) (this : Nat) (a1 : Int32) (rec20 : Int32 → Int32 → Int32 → St → Option (Int32 × St)) (x4 : Int32) (x5 : Int32) (σ : St) : Option (Int32 × St) :=
  f_X11_easiest_81 N ρ this a1 rec20 x4 x5 x4 σ
def b_X11_easiest_20 (N : Nat) (ρ : Nat → Nat → Nat) (this : Nat) (a1 : Int32) (rec20 : Int32 → Int32 → Int32 → St → Option (Int32 × St)) (x2 : Int32) (x3 : Int32) (x4 : Int32) (σ : St) : Option (Int32 × St) :=
  if (σ.1 (ρ this 2) 11) ≤ (x4 : Int32) then
    some (x2, σ)
  else
    bnd (f_X0_loadOf N ρ (ρ this 2) (ρ this 4) a1 x4 1 0 σ) fun r2 σ3 =>
    gd (ib a1 5) <|
    if (σ3.1 (ρ (ρ this 4) 0) a1.toNatClampNeg) < (r2 : Int32) then
      f_X11_easiest_81 N ρ this a1 rec20 x2 x3 x4 σ3
    else
      if (x2 : Int32) = (-1) then
        f_X11_easiest_75 N ρ this a1 rec20 x4 r2 σ3
      else
        if x3 ≤ (r2 : Int32) then
          f_X11_easiest_81 N ρ this a1 rec20 x2 x3 x4 σ3
        else
          f_X11_easiest_75 N ρ this a1 rec20 x4 r2 σ3
def f_X11_easiest_20 (N : Nat) (ρ : Nat → Nat → Nat) (this : Nat) (a1 : Int32) : Nat → Int32 → Int32 → Int32 → St → Option (Int32 × St)
  | 0, _, _, _, _ => none
  | n + 1, x2, x3, x4, σ => b_X11_easiest_20 N ρ this a1 (f_X11_easiest_20 N ρ this a1 n) x2 x3 x4 σ
def f_X11_easiest (N : Nat) (ρ : Nat → Nat → Nat) (this : Nat) (a1 : Int32) (σ : St) : Option (Int32 × St) :=
  bnd (f_X0_hasStool N ρ (ρ this 2) a1 σ) fun r9 σ10 =>
  if (r9 : Int32) = 0 then
    some ((-1), σ10)
  else
    f_X11_easiest_20 N ρ this a1 N (-1) 0 0 σ10
set_option maxRecDepth 100000 in
set_option maxHeartbeats 4000000 in
theorem w_X11_easiest_81 {N : Nat} {Γ : SG} {ρ : Nat → Nat → Nat} (hs : Sh Γ ρ) {this : Nat} {a1 : Int32} (h0 : Γ[this]? = some (0, 11)) {n0 : Nat} {r : Int32} {σr : St} (rec20 : Int32 → Int32 → Int32 → St → Option (Int32 × St)) (hrec20 : ∀ (x2 : Int32) (x3 : Int32) (x4 : Int32) (σ : St), rec20 x2 x3 x4 σ = some (r, σr) → Go mX11_easiest 3 0 0 n0 (Ki Γ ρ r σr) 0 0 20 [some (.ref this), some (.int a1), some (.int x2), some (.int x3), some (.int x4), none] [] (hp Γ ρ σ)) (x2 : Int32) (x3 : Int32) (x4 : Int32) (σ : St) (hf : f_X11_easiest_81 N ρ this a1 rec20 x2 x3 x4 σ = some (r, σr)) : Go mX11_easiest 3 0 0 n0 (Ki Γ ρ r σr) 0 0 81 [some (.ref this), some (.int a1), some (.int x2), some (.int x3), some (.int x4), none] [] (hp Γ ρ σ) := by
  unfold f_X11_easiest_81 at hf
  refine go_iinc (x4 + 1) [some (.ref this), some (.int a1), some (.int x2), some (.int x3), some (.int (x4 + 1)), none] dX11_easiest_81 rfl rfl (by decide) rfl ?_
  refine go_goto 20 dX11_easiest_84 (by decide) ?_
  exact hrec20 x2 x3 (x4 + 1) σ hf
set_option maxRecDepth 100000 in
set_option maxHeartbeats 4000000 in
theorem w_X11_easiest_75 {N : Nat} {Γ : SG} {ρ : Nat → Nat → Nat} (hs : Sh Γ ρ) {this : Nat} {a1 : Int32} (h0 : Γ[this]? = some (0, 11)) {n0 : Nat} {r : Int32} {σr : St} (rec20 : Int32 → Int32 → Int32 → St → Option (Int32 × St)) (hrec20 : ∀ (x2 : Int32) (x3 : Int32) (x4 : Int32) (σ : St), rec20 x2 x3 x4 σ = some (r, σr) → Go mX11_easiest 3 0 0 n0 (Ki Γ ρ r σr) 0 0 20 [some (.ref this), some (.int a1), some (.int x2), some (.int x3), some (.int x4), none] [] (hp Γ ρ σ)) (x4 : Int32) (x5 : Int32) (σ : St) (hf : f_X11_easiest_75 N ρ this a1 rec20 x4 x5 σ = some (r, σr)) : Go mX11_easiest 3 0 0 n0 (Ki Γ ρ r σr) 0 0 75 [some (.ref this), some (.int a1), none, none, some (.int x4), some (.int x5)] [] (hp Γ ρ σ) := by
  unfold f_X11_easiest_75 at hf
  refine go_iload dX11_easiest_75 rfl ?_
  refine go_istore_n 2 [some (.ref this), some (.int a1), some (.int x4), none, some (.int x4), some (.int x5)] dX11_easiest_77 rfl (by decide) rfl ?_
  refine go_iload dX11_easiest_78 rfl ?_
  refine go_istore_n 3 [some (.ref this), some (.int a1), some (.int x4), some (.int x5), some (.int x4), some (.int x5)] dX11_easiest_80 rfl (by decide) rfl ?_
  refine go_msk [true, true, true, true, true, false] [some (.ref this), some (.int a1), some (.int x4), some (.int x5), some (.int x4), none] rfl ?_
  exact w_X11_easiest_81 hs h0 rec20 hrec20 x4 x5 x4 σ hf
set_option maxRecDepth 100000 in
set_option maxHeartbeats 4000000 in
theorem v_X11_easiest_20 {N : Nat} {Γ : SG} {ρ : Nat → Nat → Nat} (hs : Sh Γ ρ) {this : Nat} {a1 : Int32} (h0 : Γ[this]? = some (0, 11)) {n0 : Nat} {r : Int32} {σr : St} (rec20 : Int32 → Int32 → Int32 → St → Option (Int32 × St)) (hrec20 : ∀ (x2 : Int32) (x3 : Int32) (x4 : Int32) (σ : St), rec20 x2 x3 x4 σ = some (r, σr) → Go mX11_easiest 3 0 0 n0 (Ki Γ ρ r σr) 0 0 20 [some (.ref this), some (.int a1), some (.int x2), some (.int x3), some (.int x4), none] [] (hp Γ ρ σ)) (x2 : Int32) (x3 : Int32) (x4 : Int32) (σ : St) (hf : b_X11_easiest_20 N ρ this a1 rec20 x2 x3 x4 σ = some (r, σr)) : Go mX11_easiest 3 0 0 n0 (Ki Γ ρ r σr) 0 0 20 [some (.ref this), some (.int a1), some (.int x2), some (.int x3), some (.int x4), none] [] (hp Γ ρ σ) := by
  unfold b_X11_easiest_20 at hf
  refine go_iload dX11_easiest_20 rfl ?_
  refine go_aload_n 0 dX11_easiest_22 rfl rfl ?_
  refine go_fR fl_X11_30 dX11_easiest_23 h0 (by decide) rfl ?_
  refine go_fI fl_X11_212 dX11_easiest_26 (hs.1 _ 11 2 h0 rfl) (by decide) rfl ?_
  refine go_icmp_ge 87 dX11_easiest_29 (by decide) (fun c1 => ?_) (fun c1 => ?_)
  · replace hf := (if_pos c1).symm.trans hf
    refine go_iload_n 2 dX11_easiest_87 rfl rfl ?_
    cases hf
    exact go_iret rfl dX11_easiest_88 (Nat.le_refl _) ⟨rfl, rfl⟩
  · replace hf := (if_neg c1).symm.trans hf
    refine go_aload_n 0 dX11_easiest_32 rfl rfl ?_
    refine go_fR fl_X11_30 dX11_easiest_33 h0 (by decide) rfl ?_
    refine go_aload_n 0 dX11_easiest_36 rfl rfl ?_
    refine go_fR fl_X11_40 dX11_easiest_37 h0 (by decide) rfl ?_
    refine go_iload_n 1 dX11_easiest_40 rfl rfl ?_
    refine go_iload dX11_easiest_41 rfl ?_
    refine go_iconst 1 dX11_easiest_43 (by decide) ?_
    refine go_iconst 0 dX11_easiest_44 (by decide) ?_
    obtain ⟨r2, σ3, q4, hf⟩ := bnd_some hf
    refine go_Vi (av := [.ref (ρ this 4), .int a1, .int x4, .int 1, .int 0]) (rest := []) (t_X0_loadOf hs (hs.1 _ 11 2 h0 rfl) (hs.1 _ 11 4 h0 rfl) q4) ok_X0_loadOf ml_X11_190 dX11_easiest_45 (hs.1 _ 11 2 h0 rfl) rfl rfl (by decide) (Nat.le_refl _) (Nat.le_refl _) (Nat.le_of_ble_eq_true rfl) ?_
    refine go_istore [some (.ref this), some (.int a1), some (.int x2), some (.int x3), some (.int x4), some (.int r2)] dX11_easiest_48 (by decide) rfl ?_
    refine go_iload dX11_easiest_50 rfl ?_
    refine go_aload_n 0 dX11_easiest_52 rfl rfl ?_
    refine go_fR fl_X11_40 dX11_easiest_53 h0 (by decide) rfl ?_
    refine go_fR fl_X11_163 dX11_easiest_56 (hs.1 _ 11 4 h0 rfl) (by decide) rfl ?_
    refine go_iload_n 1 dX11_easiest_59 rfl rfl ?_
    obtain ⟨g5, hf⟩ := gd_some hf
    refine go_rI dX11_easiest_60 (hs.1 _ 9 0 (hs.1 _ 11 4 h0 rfl) rfl) (ib_in g5) ?_
    refine go_icmp_gt 81 dX11_easiest_61 (by decide) (fun c6 => ?_) (fun c6 => ?_)
    · replace hf := (if_pos c6).symm.trans hf
      refine go_msk [true, true, true, true, true, false] [some (.ref this), some (.int a1), some (.int x2), some (.int x3), some (.int x4), none] rfl ?_
      exact w_X11_easiest_81 hs h0 rec20 hrec20 x2 x3 x4 σ3 hf
    · replace hf := (if_neg c6).symm.trans hf
      refine go_iload_n 2 dX11_easiest_64 rfl rfl ?_
      refine go_iconst (-1) dX11_easiest_65 (by decide) ?_
      refine go_icmp_eq 75 dX11_easiest_66 (by decide) (fun c7 => ?_) (fun c7 => ?_)
      · replace hf := (if_pos c7).symm.trans hf
        refine go_msk [true, true, false, false, true, true] [some (.ref this), some (.int a1), none, none, some (.int x4), some (.int r2)] rfl ?_
        exact w_X11_easiest_75 hs h0 rec20 hrec20 x4 r2 σ3 hf
      · replace hf := (if_neg c7).symm.trans hf
        refine go_iload dX11_easiest_69 rfl ?_
        refine go_iload_n 3 dX11_easiest_71 rfl rfl ?_
        refine go_icmp_ge 81 dX11_easiest_72 (by decide) (fun c8 => ?_) (fun c8 => ?_)
        · replace hf := (if_pos c8).symm.trans hf
          refine go_msk [true, true, true, true, true, false] [some (.ref this), some (.int a1), some (.int x2), some (.int x3), some (.int x4), none] rfl ?_
          exact w_X11_easiest_81 hs h0 rec20 hrec20 x2 x3 x4 σ3 hf
        · replace hf := (if_neg c8).symm.trans hf
          refine go_msk [true, true, false, false, true, true] [some (.ref this), some (.int a1), none, none, some (.int x4), some (.int r2)] rfl ?_
          exact w_X11_easiest_75 hs h0 rec20 hrec20 x4 r2 σ3 hf
theorem w_X11_easiest_20 {N : Nat} {Γ : SG} {ρ : Nat → Nat → Nat} (hs : Sh Γ ρ) {this : Nat} {a1 : Int32} (h0 : Γ[this]? = some (0, 11)) {n0 : Nat} {r : Int32} {σr : St} : ∀ (n : Nat) (x2 : Int32) (x3 : Int32) (x4 : Int32) (σ : St), f_X11_easiest_20 N ρ this a1 n x2 x3 x4 σ = some (r, σr) → Go mX11_easiest 3 0 0 n0 (Ki Γ ρ r σr) 0 0 20 [some (.ref this), some (.int a1), some (.int x2), some (.int x3), some (.int x4), none] [] (hp Γ ρ σ) := by
  intro n
  induction n with
  | zero => intro x2 x3 x4 σ hf; cases hf
  | succ n ih => intro x2 x3 x4 σ hf; exact v_X11_easiest_20 hs h0 _ ih x2 x3 x4 σ hf
set_option maxRecDepth 100000 in
set_option maxHeartbeats 4000000 in
theorem t_X11_easiest {N : Nat} {Γ : SG} {ρ : Nat → Nat → Nat} (hs : Sh Γ ρ) {this : Nat} {a1 : Int32} (h0 : Γ[this]? = some (0, 11)) {σ : St} {r : Int32} {σr : St} (hf : f_X11_easiest N ρ this a1 σ = some (r, σr)) : Tri mX11_easiest 3 0 0 [.ref this, .int a1] (hp Γ ρ σ) (Ki Γ ρ r σr) := by
  unfold f_X11_easiest at hf
  refine tri_of [some (.ref this), some (.int a1), none, none, none, none] (plainFor_of_name rfl) rfl (Nat.le_of_ble_eq_true rfl) ?_
  refine go_aload_n 0 dX11_easiest_0 rfl rfl ?_
  refine go_fR fl_X11_30 dX11_easiest_1 h0 (by decide) rfl ?_
  refine go_iload_n 1 dX11_easiest_4 rfl rfl ?_
  obtain ⟨r9, σ10, q11, hf⟩ := bnd_some hf
  refine go_Vi (av := [.int a1]) (rest := []) (t_X0_hasStool hs (hs.1 _ 11 2 h0 rfl) q11) ok_X0_hasStool ml_X11_157 dX11_easiest_5 (hs.1 _ 11 2 h0 rfl) rfl rfl (by decide) (Nat.le_refl _) (Nat.le_refl _) (Nat.le_of_ble_eq_true rfl) ?_
  refine go_if_ne 13 dX11_easiest_8 (by decide) (fun c12 => ?_) (fun c12 => ?_)
  · replace hf := (if_neg c12).symm.trans hf
    refine go_iconst (-1) dX11_easiest_13 (by decide) ?_
    refine go_istore_n 2 [some (.ref this), some (.int a1), some (.int (-1)), none, none, none] dX11_easiest_14 rfl (by decide) rfl ?_
    refine go_iconst 0 dX11_easiest_15 (by decide) ?_
    refine go_istore_n 3 [some (.ref this), some (.int a1), some (.int (-1)), some (.int 0), none, none] dX11_easiest_16 rfl (by decide) rfl ?_
    refine go_iconst 0 dX11_easiest_17 (by decide) ?_
    refine go_istore [some (.ref this), some (.int a1), some (.int (-1)), some (.int 0), some (.int 0), none] dX11_easiest_18 (by decide) rfl ?_
    exact w_X11_easiest_20 hs h0 N (-1) 0 0 σ10 hf
  · replace hf := (if_pos c12).symm.trans hf
    refine go_iconst (-1) dX11_easiest_11 (by decide) ?_
    cases hf
    exact go_iret rfl dX11_easiest_12 (Nat.le_refl _) ⟨rfl, rfl⟩
def f_X11_forlorn_45 (N : Nat) (ρ : Nat → Nat → Nat) (this : Nat) (rec4 : Int32 → Int32 → St → Option (Int32 × St)) (x1 : Int32) (x2 : Int32) (σ : St) : Option (Int32 × St) :=
  rec4 x1 (x2 + 1) σ
def b_X11_forlorn_4 (N : Nat) (ρ : Nat → Nat → Nat) (this : Nat) (rec4 : Int32 → Int32 → St → Option (Int32 × St)) (x1 : Int32) (x2 : Int32) (σ : St) : Option (Int32 × St) :=
  if (σ.1 (ρ this 2) 11) ≤ (x2 : Int32) then
    some (x1, σ)
  else
    bnd (f_X0_allStools N ρ (ρ this 2) σ) fun r2 σ3 =>
    bnd (f_X0_bearing N ρ (ρ this 2) (ρ this 4) x2 r2 1 0 σ3) fun r5 σ6 =>
    if (r5 : Int32) = 0 then
      nmd (x1 ||| (1 <<< (x2 &&& 31))) fun y9 =>
      f_X11_forlorn_45 N ρ this rec4 y9 x2 σ6
    else
      f_X11_forlorn_45 N ρ this rec4 x1 x2 σ6
def f_X11_forlorn_4 (N : Nat) (ρ : Nat → Nat → Nat) (this : Nat) : Nat → Int32 → Int32 → St → Option (Int32 × St)
  | 0, _, _, _ => none
  | n + 1, x1, x2, σ => b_X11_forlorn_4 N ρ this (f_X11_forlorn_4 N ρ this n) x1 x2 σ
def f_X11_forlorn (N : Nat) (ρ : Nat → Nat → Nat) (this : Nat) (σ : St) : Option (Int32 × St) :=
  f_X11_forlorn_4 N ρ this N 0 0 σ
set_option maxRecDepth 100000 in
set_option maxHeartbeats 4000000 in
theorem w_X11_forlorn_45 {N : Nat} {Γ : SG} {ρ : Nat → Nat → Nat} (hs : Sh Γ ρ) {this : Nat} (h0 : Γ[this]? = some (0, 11)) {n0 : Nat} {r : Int32} {σr : St} (rec4 : Int32 → Int32 → St → Option (Int32 × St)) (hrec4 : ∀ (x1 : Int32) (x2 : Int32) (σ : St), rec4 x1 x2 σ = some (r, σr) → Go mX11_forlorn 4 0 0 n0 (Ki Γ ρ r σr) 0 0 4 [some (.ref this), some (.int x1), some (.int x2)] [] (hp Γ ρ σ)) (x1 : Int32) (x2 : Int32) (σ : St) (hf : f_X11_forlorn_45 N ρ this rec4 x1 x2 σ = some (r, σr)) : Go mX11_forlorn 4 0 0 n0 (Ki Γ ρ r σr) 0 0 45 [some (.ref this), some (.int x1), some (.int x2)] [] (hp Γ ρ σ) := by
  unfold f_X11_forlorn_45 at hf
  refine go_iinc (x2 + 1) [some (.ref this), some (.int x1), some (.int (x2 + 1))] dX11_forlorn_45 rfl rfl (by decide) rfl ?_
  refine go_goto 4 dX11_forlorn_48 (by decide) ?_
  exact hrec4 x1 (x2 + 1) σ hf
set_option maxRecDepth 100000 in
set_option maxHeartbeats 4000000 in
theorem v_X11_forlorn_4 {N : Nat} {Γ : SG} {ρ : Nat → Nat → Nat} (hs : Sh Γ ρ) {this : Nat} (h0 : Γ[this]? = some (0, 11)) {n0 : Nat} {r : Int32} {σr : St} (rec4 : Int32 → Int32 → St → Option (Int32 × St)) (hrec4 : ∀ (x1 : Int32) (x2 : Int32) (σ : St), rec4 x1 x2 σ = some (r, σr) → Go mX11_forlorn 4 0 0 n0 (Ki Γ ρ r σr) 0 0 4 [some (.ref this), some (.int x1), some (.int x2)] [] (hp Γ ρ σ)) (x1 : Int32) (x2 : Int32) (σ : St) (hf : b_X11_forlorn_4 N ρ this rec4 x1 x2 σ = some (r, σr)) : Go mX11_forlorn 4 0 0 n0 (Ki Γ ρ r σr) 0 0 4 [some (.ref this), some (.int x1), some (.int x2)] [] (hp Γ ρ σ) := by
  unfold b_X11_forlorn_4 at hf
  refine go_iload_n 2 dX11_forlorn_4 rfl rfl ?_
  refine go_aload_n 0 dX11_forlorn_5 rfl rfl ?_
  refine go_fR fl_X11_30 dX11_forlorn_6 h0 (by decide) rfl ?_
  refine go_fI fl_X11_212 dX11_forlorn_9 (hs.1 _ 11 2 h0 rfl) (by decide) rfl ?_
  refine go_icmp_ge 51 dX11_forlorn_12 (by decide) (fun c1 => ?_) (fun c1 => ?_)
  · replace hf := (if_pos c1).symm.trans hf
    refine go_iload_n 1 dX11_forlorn_51 rfl rfl ?_
    cases hf
    exact go_iret rfl dX11_forlorn_52 (Nat.le_refl _) ⟨rfl, rfl⟩
  · replace hf := (if_neg c1).symm.trans hf
    refine go_aload_n 0 dX11_forlorn_15 rfl rfl ?_
    refine go_fR fl_X11_30 dX11_forlorn_16 h0 (by decide) rfl ?_
    refine go_aload_n 0 dX11_forlorn_19 rfl rfl ?_
    refine go_fR fl_X11_40 dX11_forlorn_20 h0 (by decide) rfl ?_
    refine go_iload_n 2 dX11_forlorn_23 rfl rfl ?_
    refine go_aload_n 0 dX11_forlorn_24 rfl rfl ?_
    refine go_fR fl_X11_30 dX11_forlorn_25 h0 (by decide) rfl ?_
    obtain ⟨r2, σ3, q4, hf⟩ := bnd_some hf
    refine go_Vi (av := []) (rest := [.int x2, .ref (ρ this 4), .ref (ρ this 2)]) (t_X0_allStools hs (hs.1 _ 11 2 h0 rfl) q4) ok_X0_allStools ml_X11_311 dX11_forlorn_28 (hs.1 _ 11 2 h0 rfl) rfl rfl (by decide) (Nat.le_refl _) (Nat.le_refl _) (Nat.le_of_ble_eq_true rfl) ?_
    refine go_iconst 1 dX11_forlorn_31 (by decide) ?_
    refine go_iconst 0 dX11_forlorn_32 (by decide) ?_
    obtain ⟨r5, σ6, q7, hf⟩ := bnd_some hf
    refine go_Vi (av := [.ref (ρ this 4), .int x2, .int r2, .int 1, .int 0]) (rest := []) (t_X0_bearing hs (hs.1 _ 11 2 h0 rfl) (hs.1 _ 11 4 h0 rfl) q7) ok_X0_bearing ml_X11_315 dX11_forlorn_33 (hs.1 _ 11 2 h0 rfl) rfl rfl (by decide) (Nat.le_refl _) (Nat.le_refl _) (Nat.le_of_ble_eq_true rfl) ?_
    refine go_if_ne 45 dX11_forlorn_36 (by decide) (fun c8 => ?_) (fun c8 => ?_)
    · replace hf := (if_neg c8).symm.trans hf
      exact w_X11_forlorn_45 hs h0 rec4 hrec4 x1 x2 σ6 hf
    · replace hf := (if_pos c8).symm.trans hf
      refine go_iload_n 1 dX11_forlorn_39 rfl rfl ?_
      refine go_iconst 1 dX11_forlorn_40 (by decide) ?_
      refine go_iload_n 2 dX11_forlorn_41 rfl rfl ?_
      refine go_ishl dX11_forlorn_42 ?_
      refine go_ior dX11_forlorn_43 ?_
      obtain ⟨y9, ey9, hf⟩ := nmd_some hf
      refine go_nm ey9 ?_
      refine go_istore_n 1 [some (.ref this), some (.int y9), some (.int x2)] dX11_forlorn_44 rfl (by decide) rfl ?_
      exact w_X11_forlorn_45 hs h0 rec4 hrec4 y9 x2 σ6 hf
theorem w_X11_forlorn_4 {N : Nat} {Γ : SG} {ρ : Nat → Nat → Nat} (hs : Sh Γ ρ) {this : Nat} (h0 : Γ[this]? = some (0, 11)) {n0 : Nat} {r : Int32} {σr : St} : ∀ (n : Nat) (x1 : Int32) (x2 : Int32) (σ : St), f_X11_forlorn_4 N ρ this n x1 x2 σ = some (r, σr) → Go mX11_forlorn 4 0 0 n0 (Ki Γ ρ r σr) 0 0 4 [some (.ref this), some (.int x1), some (.int x2)] [] (hp Γ ρ σ) := by
  intro n
  induction n with
  | zero => intro x1 x2 σ hf; cases hf
  | succ n ih => intro x1 x2 σ hf; exact v_X11_forlorn_4 hs h0 _ ih x1 x2 σ hf
set_option maxRecDepth 100000 in
set_option maxHeartbeats 4000000 in
theorem t_X11_forlorn {N : Nat} {Γ : SG} {ρ : Nat → Nat → Nat} (hs : Sh Γ ρ) {this : Nat} (h0 : Γ[this]? = some (0, 11)) {σ : St} {r : Int32} {σr : St} (hf : f_X11_forlorn N ρ this σ = some (r, σr)) : Tri mX11_forlorn 4 0 0 [.ref this] (hp Γ ρ σ) (Ki Γ ρ r σr) := by
  unfold f_X11_forlorn at hf
  refine tri_of [some (.ref this), none, none] (plainFor_of_name rfl) rfl (Nat.le_of_ble_eq_true rfl) ?_
  refine go_iconst 0 dX11_forlorn_0 (by decide) ?_
  refine go_istore_n 1 [some (.ref this), some (.int 0), none] dX11_forlorn_1 rfl (by decide) rfl ?_
  refine go_iconst 0 dX11_forlorn_2 (by decide) ?_
  refine go_istore_n 2 [some (.ref this), some (.int 0), some (.int 0)] dX11_forlorn_3 rfl (by decide) rfl ?_
  exact w_X11_forlorn_4 hs h0 N 0 0 σ hf
def f_X11_nearest_76 (N : Nat) (ρ : Nat → Nat → Nat) (this : Nat) (a1 : Int32) (rec17 : Int32 → Int32 → St → Option (Int32 × St)) (x2 : Int32) (x3 : Int32) (σ : St) : Option (Int32 × St) :=
  rec17 x2 (x3 + 1) σ
def f_X11_nearest_59 (N : Nat) (ρ : Nat → Nat → Nat) (this : Nat) (a1 : Int32) (rec17 : Int32 → Int32 → St → Option (Int32 × St)) (x2 : Int32) (x3 : Int32) (s0 : Int32) (σ : St) : Option (Int32 × St) :=
  if (s0 : Int32) = 0 then
    f_X11_nearest_76 N ρ this a1 rec17 x2 x3 σ
  else
    bnd (f_X11_hasRoomNow N ρ this x3 σ) fun r2 σ3 =>
    if (r2 : Int32) = 0 then
      f_X11_nearest_76 N ρ this a1 rec17 x2 x3 σ3
    else
      f_X11_nearest_76 N ρ this a1 rec17 x3 x3 σ3
def f_X11_nearest_54 (N : Nat) (ρ : Nat → Nat → Nat) (this : Nat) (a1 : Int32) (rec17 : Int32 → Int32 → St → Option (Int32 × St)) (x2 : Int32) (x3 : Int32) (σ : St) : Option (Int32 × St) :=
  f_X11_nearest_59 N ρ this a1 rec17 x2 x3 1 σ
def b_X11_nearest_17 (N : Nat) (ρ : Nat → Nat → Nat) (this : Nat) (a1 : Int32) (rec17 : Int32 → Int32 → St → Option (Int32 × St)) (x2 : Int32) (x3 : Int32) (σ : St) : Option (Int32 × St) :=
  if (σ.1 (ρ this 2) 11) ≤ (x3 : Int32) then
    some (x2, σ)
  else
    if (x2 : Int32) = (-1) then
      f_X11_nearest_54 N ρ this a1 rec17 x2 x3 σ
    else
      bnd (f_X0_wayOf N ρ (ρ this 2) a1 x3 σ) fun r8 σ9 =>
      bnd (f_X0_wayOf N ρ (ρ this 2) a1 x2 σ9) fun r11 σ12 =>
      if r11 ≤ (r8 : Int32) then
        f_X11_nearest_59 N ρ this a1 rec17 x2 x3 0 σ12
      else
        f_X11_nearest_54 N ρ this a1 rec17 x2 x3 σ12
def f_X11_nearest_17 (N : Nat) (ρ : Nat → Nat → Nat) (this : Nat) (a1 : Int32) : Nat → Int32 → Int32 → St → Option (Int32 × St)
  | 0, _, _, _ => none
  | n + 1, x2, x3, σ => b_X11_nearest_17 N ρ this a1 (f_X11_nearest_17 N ρ this a1 n) x2 x3 σ
def f_X11_nearest (N : Nat) (ρ : Nat → Nat → Nat) (this : Nat) (a1 : Int32) (σ : St) : Option (Int32 × St) :=
  bnd (f_X0_hasStool N ρ (ρ this 2) a1 σ) fun r15 σ16 =>
  if (r15 : Int32) = 0 then
    some ((-1), σ16)
  else
    f_X11_nearest_17 N ρ this a1 N (-1) 0 σ16
set_option maxRecDepth 100000 in
set_option maxHeartbeats 4000000 in
theorem w_X11_nearest_76 {N : Nat} {Γ : SG} {ρ : Nat → Nat → Nat} (hs : Sh Γ ρ) {this : Nat} {a1 : Int32} (h0 : Γ[this]? = some (0, 11)) {n0 : Nat} {r : Int32} {σr : St} (rec17 : Int32 → Int32 → St → Option (Int32 × St)) (hrec17 : ∀ (x2 : Int32) (x3 : Int32) (σ : St), rec17 x2 x3 σ = some (r, σr) → Go mX11_nearest 2 0 0 n0 (Ki Γ ρ r σr) 0 0 17 [some (.ref this), some (.int a1), some (.int x2), some (.int x3), none] [] (hp Γ ρ σ)) (x2 : Int32) (x3 : Int32) (σ : St) (hf : f_X11_nearest_76 N ρ this a1 rec17 x2 x3 σ = some (r, σr)) : Go mX11_nearest 2 0 0 n0 (Ki Γ ρ r σr) 0 0 76 [some (.ref this), some (.int a1), some (.int x2), some (.int x3), none] [] (hp Γ ρ σ) := by
  unfold f_X11_nearest_76 at hf
  refine go_iinc (x3 + 1) [some (.ref this), some (.int a1), some (.int x2), some (.int (x3 + 1)), none] dX11_nearest_76 rfl rfl (by decide) rfl ?_
  refine go_goto 17 dX11_nearest_79 (by decide) ?_
  exact hrec17 x2 (x3 + 1) σ hf
set_option maxRecDepth 100000 in
set_option maxHeartbeats 4000000 in
theorem w_X11_nearest_59 {N : Nat} {Γ : SG} {ρ : Nat → Nat → Nat} (hs : Sh Γ ρ) {this : Nat} {a1 : Int32} (h0 : Γ[this]? = some (0, 11)) {n0 : Nat} {r : Int32} {σr : St} (rec17 : Int32 → Int32 → St → Option (Int32 × St)) (hrec17 : ∀ (x2 : Int32) (x3 : Int32) (σ : St), rec17 x2 x3 σ = some (r, σr) → Go mX11_nearest 2 0 0 n0 (Ki Γ ρ r σr) 0 0 17 [some (.ref this), some (.int a1), some (.int x2), some (.int x3), none] [] (hp Γ ρ σ)) (x2 : Int32) (x3 : Int32) (s0 : Int32) (σ : St) (hf : f_X11_nearest_59 N ρ this a1 rec17 x2 x3 s0 σ = some (r, σr)) : Go mX11_nearest 2 0 0 n0 (Ki Γ ρ r σr) 0 0 59 [some (.ref this), some (.int a1), some (.int x2), some (.int x3), none] [.int s0] (hp Γ ρ σ) := by
  unfold f_X11_nearest_59 at hf
  refine go_istore [some (.ref this), some (.int a1), some (.int x2), some (.int x3), some (.int s0)] dX11_nearest_59 (by decide) rfl ?_
  refine go_iload dX11_nearest_61 rfl ?_
  refine go_if_eq 76 dX11_nearest_63 (by decide) (fun c1 => ?_) (fun c1 => ?_)
  · replace hf := (if_pos c1).symm.trans hf
    refine go_msk [true, true, true, true, false] [some (.ref this), some (.int a1), some (.int x2), some (.int x3), none] rfl ?_
    exact w_X11_nearest_76 hs h0 rec17 hrec17 x2 x3 σ hf
  · replace hf := (if_neg c1).symm.trans hf
    refine go_aload_n 0 dX11_nearest_66 rfl rfl ?_
    refine go_iload_n 3 dX11_nearest_67 rfl rfl ?_
    obtain ⟨r2, σ3, q4, hf⟩ := bnd_some hf
    refine go_Vi (av := [.int x3]) (rest := []) (t_X11_hasRoomNow hs h0 q4) ok_X11_hasRoomNow ml_X11_249 dX11_nearest_68 h0 rfl rfl (by decide) (Nat.le_refl _) (Nat.le_refl _) (Nat.le_of_ble_eq_true rfl) ?_
    refine go_if_eq 76 dX11_nearest_71 (by decide) (fun c5 => ?_) (fun c5 => ?_)
    · replace hf := (if_pos c5).symm.trans hf
      refine go_msk [true, true, true, true, false] [some (.ref this), some (.int a1), some (.int x2), some (.int x3), none] rfl ?_
      exact w_X11_nearest_76 hs h0 rec17 hrec17 x2 x3 σ3 hf
    · replace hf := (if_neg c5).symm.trans hf
      refine go_iload_n 3 dX11_nearest_74 rfl rfl ?_
      refine go_istore_n 2 [some (.ref this), some (.int a1), some (.int x3), some (.int x3), some (.int s0)] dX11_nearest_75 rfl (by decide) rfl ?_
      refine go_msk [true, true, true, true, false] [some (.ref this), some (.int a1), some (.int x3), some (.int x3), none] rfl ?_
      exact w_X11_nearest_76 hs h0 rec17 hrec17 x3 x3 σ3 hf
set_option maxRecDepth 100000 in
set_option maxHeartbeats 4000000 in
theorem w_X11_nearest_54 {N : Nat} {Γ : SG} {ρ : Nat → Nat → Nat} (hs : Sh Γ ρ) {this : Nat} {a1 : Int32} (h0 : Γ[this]? = some (0, 11)) {n0 : Nat} {r : Int32} {σr : St} (rec17 : Int32 → Int32 → St → Option (Int32 × St)) (hrec17 : ∀ (x2 : Int32) (x3 : Int32) (σ : St), rec17 x2 x3 σ = some (r, σr) → Go mX11_nearest 2 0 0 n0 (Ki Γ ρ r σr) 0 0 17 [some (.ref this), some (.int a1), some (.int x2), some (.int x3), none] [] (hp Γ ρ σ)) (x2 : Int32) (x3 : Int32) (σ : St) (hf : f_X11_nearest_54 N ρ this a1 rec17 x2 x3 σ = some (r, σr)) : Go mX11_nearest 2 0 0 n0 (Ki Γ ρ r σr) 0 0 54 [some (.ref this), some (.int a1), some (.int x2), some (.int x3), none] [] (hp Γ ρ σ) := by
  unfold f_X11_nearest_54 at hf
  refine go_iconst 1 dX11_nearest_54 (by decide) ?_
  refine go_goto 59 dX11_nearest_55 (by decide) ?_
  exact w_X11_nearest_59 hs h0 rec17 hrec17 x2 x3 1 σ hf
set_option maxRecDepth 100000 in
set_option maxHeartbeats 4000000 in
theorem v_X11_nearest_17 {N : Nat} {Γ : SG} {ρ : Nat → Nat → Nat} (hs : Sh Γ ρ) {this : Nat} {a1 : Int32} (h0 : Γ[this]? = some (0, 11)) {n0 : Nat} {r : Int32} {σr : St} (rec17 : Int32 → Int32 → St → Option (Int32 × St)) (hrec17 : ∀ (x2 : Int32) (x3 : Int32) (σ : St), rec17 x2 x3 σ = some (r, σr) → Go mX11_nearest 2 0 0 n0 (Ki Γ ρ r σr) 0 0 17 [some (.ref this), some (.int a1), some (.int x2), some (.int x3), none] [] (hp Γ ρ σ)) (x2 : Int32) (x3 : Int32) (σ : St) (hf : b_X11_nearest_17 N ρ this a1 rec17 x2 x3 σ = some (r, σr)) : Go mX11_nearest 2 0 0 n0 (Ki Γ ρ r σr) 0 0 17 [some (.ref this), some (.int a1), some (.int x2), some (.int x3), none] [] (hp Γ ρ σ) := by
  unfold b_X11_nearest_17 at hf
  refine go_iload_n 3 dX11_nearest_17 rfl rfl ?_
  refine go_aload_n 0 dX11_nearest_18 rfl rfl ?_
  refine go_fR fl_X11_30 dX11_nearest_19 h0 (by decide) rfl ?_
  refine go_fI fl_X11_212 dX11_nearest_22 (hs.1 _ 11 2 h0 rfl) (by decide) rfl ?_
  refine go_icmp_ge 82 dX11_nearest_25 (by decide) (fun c6 => ?_) (fun c6 => ?_)
  · replace hf := (if_pos c6).symm.trans hf
    refine go_iload_n 2 dX11_nearest_82 rfl rfl ?_
    cases hf
    exact go_iret rfl dX11_nearest_83 (Nat.le_refl _) ⟨rfl, rfl⟩
  · replace hf := (if_neg c6).symm.trans hf
    refine go_iload_n 2 dX11_nearest_28 rfl rfl ?_
    refine go_iconst (-1) dX11_nearest_29 (by decide) ?_
    refine go_icmp_eq 54 dX11_nearest_30 (by decide) (fun c7 => ?_) (fun c7 => ?_)
    · replace hf := (if_pos c7).symm.trans hf
      exact w_X11_nearest_54 hs h0 rec17 hrec17 x2 x3 σ hf
    · replace hf := (if_neg c7).symm.trans hf
      refine go_aload_n 0 dX11_nearest_33 rfl rfl ?_
      refine go_fR fl_X11_30 dX11_nearest_34 h0 (by decide) rfl ?_
      refine go_iload_n 1 dX11_nearest_37 rfl rfl ?_
      refine go_iload_n 3 dX11_nearest_38 rfl rfl ?_
      obtain ⟨r8, σ9, q10, hf⟩ := bnd_some hf
      refine go_Vi (av := [.int a1, .int x3]) (rest := []) (t_X0_wayOf hs (hs.1 _ 11 2 h0 rfl) q10) ok_X0_wayOf ml_X11_205 dX11_nearest_39 (hs.1 _ 11 2 h0 rfl) rfl rfl (by decide) (Nat.le_refl _) (Nat.le_refl _) (Nat.le_of_ble_eq_true rfl) ?_
      refine go_aload_n 0 dX11_nearest_42 rfl rfl ?_
      refine go_fR fl_X11_30 dX11_nearest_43 h0 (by decide) rfl ?_
      refine go_iload_n 1 dX11_nearest_46 rfl rfl ?_
      refine go_iload_n 2 dX11_nearest_47 rfl rfl ?_
      obtain ⟨r11, σ12, q13, hf⟩ := bnd_some hf
      refine go_Vi (av := [.int a1, .int x2]) (rest := [.int r8]) (t_X0_wayOf hs (hs.1 _ 11 2 h0 rfl) q13) ok_X0_wayOf ml_X11_205 dX11_nearest_48 (hs.1 _ 11 2 h0 rfl) rfl rfl (by decide) (Nat.le_refl _) (Nat.le_refl _) (Nat.le_of_ble_eq_true rfl) ?_
      refine go_icmp_ge 58 dX11_nearest_51 (by decide) (fun c14 => ?_) (fun c14 => ?_)
      · replace hf := (if_pos c14).symm.trans hf
        refine go_iconst 0 dX11_nearest_58 (by decide) ?_
        exact w_X11_nearest_59 hs h0 rec17 hrec17 x2 x3 0 σ12 hf
      · replace hf := (if_neg c14).symm.trans hf
        exact w_X11_nearest_54 hs h0 rec17 hrec17 x2 x3 σ12 hf
theorem w_X11_nearest_17 {N : Nat} {Γ : SG} {ρ : Nat → Nat → Nat} (hs : Sh Γ ρ) {this : Nat} {a1 : Int32} (h0 : Γ[this]? = some (0, 11)) {n0 : Nat} {r : Int32} {σr : St} : ∀ (n : Nat) (x2 : Int32) (x3 : Int32) (σ : St), f_X11_nearest_17 N ρ this a1 n x2 x3 σ = some (r, σr) → Go mX11_nearest 2 0 0 n0 (Ki Γ ρ r σr) 0 0 17 [some (.ref this), some (.int a1), some (.int x2), some (.int x3), none] [] (hp Γ ρ σ) := by
  intro n
  induction n with
  | zero => intro x2 x3 σ hf; cases hf
  | succ n ih => intro x2 x3 σ hf; exact v_X11_nearest_17 hs h0 _ ih x2 x3 σ hf
set_option maxRecDepth 100000 in
set_option maxHeartbeats 4000000 in
theorem t_X11_nearest {N : Nat} {Γ : SG} {ρ : Nat → Nat → Nat} (hs : Sh Γ ρ) {this : Nat} {a1 : Int32} (h0 : Γ[this]? = some (0, 11)) {σ : St} {r : Int32} {σr : St} (hf : f_X11_nearest N ρ this a1 σ = some (r, σr)) : Tri mX11_nearest 2 0 0 [.ref this, .int a1] (hp Γ ρ σ) (Ki Γ ρ r σr) := by
  unfold f_X11_nearest at hf
  refine tri_of [some (.ref this), some (.int a1), none, none, none] (plainFor_of_name rfl) rfl (Nat.le_of_ble_eq_true rfl) ?_
  refine go_aload_n 0 dX11_nearest_0 rfl rfl ?_
  refine go_fR fl_X11_30 dX11_nearest_1 h0 (by decide) rfl ?_
  refine go_iload_n 1 dX11_nearest_4 rfl rfl ?_
  obtain ⟨r15, σ16, q17, hf⟩ := bnd_some hf
  refine go_Vi (av := [.int a1]) (rest := []) (t_X0_hasStool hs (hs.1 _ 11 2 h0 rfl) q17) ok_X0_hasStool ml_X11_157 dX11_nearest_5 (hs.1 _ 11 2 h0 rfl) rfl rfl (by decide) (Nat.le_refl _) (Nat.le_refl _) (Nat.le_of_ble_eq_true rfl) ?_
  refine go_if_ne 13 dX11_nearest_8 (by decide) (fun c18 => ?_) (fun c18 => ?_)
  · replace hf := (if_neg c18).symm.trans hf
    refine go_iconst (-1) dX11_nearest_13 (by decide) ?_
    refine go_istore_n 2 [some (.ref this), some (.int a1), some (.int (-1)), none, none] dX11_nearest_14 rfl (by decide) rfl ?_
    refine go_iconst 0 dX11_nearest_15 (by decide) ?_
    refine go_istore_n 3 [some (.ref this), some (.int a1), some (.int (-1)), some (.int 0), none] dX11_nearest_16 rfl (by decide) rfl ?_
    exact w_X11_nearest_17 hs h0 N (-1) 0 σ16 hf
  · replace hf := (if_pos c18).symm.trans hf
    refine go_iconst (-1) dX11_nearest_11 (by decide) ?_
    cases hf
    exact go_iret rfl dX11_nearest_12 (Nat.le_refl _) ⟨rfl, rfl⟩
def b_X11_pilgrim_48 (N : Nat) (ρ : Nat → Nat → Nat) (this : Nat) (a1 : Int32) (rec48 : Int32 → Int32 → Int32 → St → Option (Int32 × St)) (x2 : Int32) (x3 : Int32) (x4 : Int32) (σ : St) : Option (Int32 × St) :=
  if (σ.1 (ρ this 2) 11) ≤ (x4 : Int32) then
    gd (ib a1 5) <|
    nmd (σ.1 (ρ (ρ this 2) 4) a1.toNatClampNeg) fun y3 =>
    some (((mmin (mabs (y3 - x2)) (mabs (y3 - x3))) + x3) - x2, σ)
  else
    gd (ib x4 6) <|
    nmd (mmin x2 (σ.1 (ρ (ρ this 2) 0) x4.toNatClampNeg)) fun y5 =>
    gd (ib x4 6) <|
    nmd (mmax x3 (σ.1 (ρ (ρ this 2) 0) x4.toNatClampNeg)) fun y7 =>
    rec48 y5 y7 (x4 + 1) σ
def f_X11_pilgrim_48 (N : Nat) (ρ : Nat → Nat → Nat) (this : Nat) (a1 : Int32) : Nat → Int32 → Int32 → Int32 → St → Option (Int32 × St)
  | 0, _, _, _, _ => none
  | n + 1, x2, x3, x4, σ => b_X11_pilgrim_48 N ρ this a1 (f_X11_pilgrim_48 N ρ this a1 n) x2 x3 x4 σ
def f_X11_pilgrim (N : Nat) (ρ : Nat → Nat → Nat) (this : Nat) (a1 : Int32) (σ : St) : Option (Int32 × St) :=
  bnd (f_X0_hasStool N ρ (ρ this 2) a1 σ) fun r8 σ9 =>
  if (r8 : Int32) = 0 then
    some ((-1), σ9)
  else
    if (σ9.1 (ρ this 2) 11 : Int32) = 0 then
      some (0, σ9)
    else
      gd (ib 0 6) <|
      nmd (σ9.1 (ρ (ρ this 2) 0) (0 : Int32).toNatClampNeg) fun y14 =>
      gd (ib 0 6) <|
      nmd (σ9.1 (ρ (ρ this 2) 0) (0 : Int32).toNatClampNeg) fun y16 =>
      f_X11_pilgrim_48 N ρ this a1 N y14 y16 1 σ9
set_option maxRecDepth 100000 in
set_option maxHeartbeats 4000000 in
theorem v_X11_pilgrim_48 {N : Nat} {Γ : SG} {ρ : Nat → Nat → Nat} (hs : Sh Γ ρ) {this : Nat} {a1 : Int32} (h0 : Γ[this]? = some (0, 11)) {n0 : Nat} {r : Int32} {σr : St} (rec48 : Int32 → Int32 → Int32 → St → Option (Int32 × St)) (hrec48 : ∀ (x2 : Int32) (x3 : Int32) (x4 : Int32) (σ : St), rec48 x2 x3 x4 σ = some (r, σr) → Go mX11_pilgrim 1 0 0 n0 (Ki Γ ρ r σr) 0 0 48 [some (.ref this), some (.int a1), some (.int x2), some (.int x3), some (.int x4)] [] (hp Γ ρ σ)) (x2 : Int32) (x3 : Int32) (x4 : Int32) (σ : St) (hf : b_X11_pilgrim_48 N ρ this a1 rec48 x2 x3 x4 σ = some (r, σr)) : Go mX11_pilgrim 1 0 0 n0 (Ki Γ ρ r σr) 0 0 48 [some (.ref this), some (.int a1), some (.int x2), some (.int x3), some (.int x4)] [] (hp Γ ρ σ) := by
  unfold b_X11_pilgrim_48 at hf
  refine go_iload dX11_pilgrim_48 rfl ?_
  refine go_aload_n 0 dX11_pilgrim_50 rfl rfl ?_
  refine go_fR fl_X11_30 dX11_pilgrim_51 h0 (by decide) rfl ?_
  refine go_fI fl_X11_212 dX11_pilgrim_54 (hs.1 _ 11 2 h0 rfl) (by decide) rfl ?_
  refine go_icmp_ge 96 dX11_pilgrim_57 (by decide) (fun c1 => ?_) (fun c1 => ?_)
  · replace hf := (if_pos c1).symm.trans hf
    refine go_aload_n 0 dX11_pilgrim_96 rfl rfl ?_
    refine go_fR fl_X11_30 dX11_pilgrim_97 h0 (by decide) rfl ?_
    refine go_fR fl_X11_160 dX11_pilgrim_100 (hs.1 _ 11 2 h0 rfl) (by decide) rfl ?_
    refine go_iload_n 1 dX11_pilgrim_103 rfl rfl ?_
    obtain ⟨g2, hf⟩ := gd_some hf
    refine go_rI dX11_pilgrim_104 (hs.1 _ 0 4 (hs.1 _ 11 2 h0 rfl) rfl) (ib_in g2) ?_
    obtain ⟨y3, ey3, hf⟩ := nmd_some hf
    refine go_nm ey3 ?_
    refine go_istore [some (.ref this), some (.int a1), some (.int x2), some (.int x3), some (.int y3)] dX11_pilgrim_105 (by decide) rfl ?_
    refine go_iload dX11_pilgrim_107 rfl ?_
    refine go_iload_n 2 dX11_pilgrim_109 rfl rfl ?_
    refine go_isub dX11_pilgrim_110 ?_
    refine go_mabs ml_X11_326 dX11_pilgrim_111 (by decide) (Nat.le_refl _) (Nat.le_refl _) (Nat.le_of_ble_eq_true rfl) ?_
    refine go_iload dX11_pilgrim_114 rfl ?_
    refine go_iload_n 3 dX11_pilgrim_116 rfl rfl ?_
    refine go_isub dX11_pilgrim_117 ?_
    refine go_mabs ml_X11_326 dX11_pilgrim_118 (by decide) (Nat.le_refl _) (Nat.le_refl _) (Nat.le_of_ble_eq_true rfl) ?_
    refine go_mmin ml_X11_318 dX11_pilgrim_121 (by decide) (Nat.le_refl _) (Nat.le_refl _) (Nat.le_of_ble_eq_true rfl) ?_
    refine go_iload_n 3 dX11_pilgrim_124 rfl rfl ?_
    refine go_iadd dX11_pilgrim_125 ?_
    refine go_iload_n 2 dX11_pilgrim_126 rfl rfl ?_
    refine go_isub dX11_pilgrim_127 ?_
    cases hf
    exact go_iret rfl dX11_pilgrim_128 (Nat.le_refl _) ⟨rfl, rfl⟩
  · replace hf := (if_neg c1).symm.trans hf
    refine go_iload_n 2 dX11_pilgrim_60 rfl rfl ?_
    refine go_aload_n 0 dX11_pilgrim_61 rfl rfl ?_
    refine go_fR fl_X11_30 dX11_pilgrim_62 h0 (by decide) rfl ?_
    refine go_fR fl_X11_138 dX11_pilgrim_65 (hs.1 _ 11 2 h0 rfl) (by decide) rfl ?_
    refine go_iload dX11_pilgrim_68 rfl ?_
    obtain ⟨g4, hf⟩ := gd_some hf
    refine go_rI dX11_pilgrim_70 (hs.1 _ 0 0 (hs.1 _ 11 2 h0 rfl) rfl) (ib_in g4) ?_
    refine go_mmin ml_X11_318 dX11_pilgrim_71 (by decide) (Nat.le_refl _) (Nat.le_refl _) (Nat.le_of_ble_eq_true rfl) ?_
    obtain ⟨y5, ey5, hf⟩ := nmd_some hf
    refine go_nm ey5 ?_
    refine go_istore_n 2 [some (.ref this), some (.int a1), some (.int y5), some (.int x3), some (.int x4)] dX11_pilgrim_74 rfl (by decide) rfl ?_
    refine go_iload_n 3 dX11_pilgrim_75 rfl rfl ?_
    refine go_aload_n 0 dX11_pilgrim_76 rfl rfl ?_
    refine go_fR fl_X11_30 dX11_pilgrim_77 h0 (by decide) rfl ?_
    refine go_fR fl_X11_138 dX11_pilgrim_80 (hs.1 _ 11 2 h0 rfl) (by decide) rfl ?_
    refine go_iload dX11_pilgrim_83 rfl ?_
    obtain ⟨g6, hf⟩ := gd_some hf
    refine go_rI dX11_pilgrim_85 (hs.1 _ 0 0 (hs.1 _ 11 2 h0 rfl) rfl) (ib_in g6) ?_
    refine go_mmax ml_X11_323 dX11_pilgrim_86 (by decide) (Nat.le_refl _) (Nat.le_refl _) (Nat.le_of_ble_eq_true rfl) ?_
    obtain ⟨y7, ey7, hf⟩ := nmd_some hf
    refine go_nm ey7 ?_
    refine go_istore_n 3 [some (.ref this), some (.int a1), some (.int y5), some (.int y7), some (.int x4)] dX11_pilgrim_89 rfl (by decide) rfl ?_
    refine go_iinc (x4 + 1) [some (.ref this), some (.int a1), some (.int y5), some (.int y7), some (.int (x4 + 1))] dX11_pilgrim_90 rfl rfl (by decide) rfl ?_
    refine go_goto 48 dX11_pilgrim_93 (by decide) ?_
    exact hrec48 y5 y7 (x4 + 1) σ hf
theorem w_X11_pilgrim_48 {N : Nat} {Γ : SG} {ρ : Nat → Nat → Nat} (hs : Sh Γ ρ) {this : Nat} {a1 : Int32} (h0 : Γ[this]? = some (0, 11)) {n0 : Nat} {r : Int32} {σr : St} : ∀ (n : Nat) (x2 : Int32) (x3 : Int32) (x4 : Int32) (σ : St), f_X11_pilgrim_48 N ρ this a1 n x2 x3 x4 σ = some (r, σr) → Go mX11_pilgrim 1 0 0 n0 (Ki Γ ρ r σr) 0 0 48 [some (.ref this), some (.int a1), some (.int x2), some (.int x3), some (.int x4)] [] (hp Γ ρ σ) := by
  intro n
  induction n with
  | zero => intro x2 x3 x4 σ hf; cases hf
  | succ n ih => intro x2 x3 x4 σ hf; exact v_X11_pilgrim_48 hs h0 _ ih x2 x3 x4 σ hf
set_option maxRecDepth 100000 in
set_option maxHeartbeats 4000000 in
theorem t_X11_pilgrim {N : Nat} {Γ : SG} {ρ : Nat → Nat → Nat} (hs : Sh Γ ρ) {this : Nat} {a1 : Int32} (h0 : Γ[this]? = some (0, 11)) {σ : St} {r : Int32} {σr : St} (hf : f_X11_pilgrim N ρ this a1 σ = some (r, σr)) : Tri mX11_pilgrim 1 0 0 [.ref this, .int a1] (hp Γ ρ σ) (Ki Γ ρ r σr) := by
  unfold f_X11_pilgrim at hf
  refine tri_of [some (.ref this), some (.int a1), none, none, none] (plainFor_of_name rfl) rfl (Nat.le_of_ble_eq_true rfl) ?_
  refine go_aload_n 0 dX11_pilgrim_0 rfl rfl ?_
  refine go_fR fl_X11_30 dX11_pilgrim_1 h0 (by decide) rfl ?_
  refine go_iload_n 1 dX11_pilgrim_4 rfl rfl ?_
  obtain ⟨r8, σ9, q10, hf⟩ := bnd_some hf
  refine go_Vi (av := [.int a1]) (rest := []) (t_X0_hasStool hs (hs.1 _ 11 2 h0 rfl) q10) ok_X0_hasStool ml_X11_157 dX11_pilgrim_5 (hs.1 _ 11 2 h0 rfl) rfl rfl (by decide) (Nat.le_refl _) (Nat.le_refl _) (Nat.le_of_ble_eq_true rfl) ?_
  refine go_if_ne 13 dX11_pilgrim_8 (by decide) (fun c11 => ?_) (fun c11 => ?_)
  · replace hf := (if_neg c11).symm.trans hf
    refine go_aload_n 0 dX11_pilgrim_13 rfl rfl ?_
    refine go_fR fl_X11_30 dX11_pilgrim_14 h0 (by decide) rfl ?_
    refine go_fI fl_X11_212 dX11_pilgrim_17 (hs.1 _ 11 2 h0 rfl) (by decide) rfl ?_
    refine go_if_ne 25 dX11_pilgrim_20 (by decide) (fun c12 => ?_) (fun c12 => ?_)
    · replace hf := (if_neg c12).symm.trans hf
      refine go_aload_n 0 dX11_pilgrim_25 rfl rfl ?_
      refine go_fR fl_X11_30 dX11_pilgrim_26 h0 (by decide) rfl ?_
      refine go_fR fl_X11_138 dX11_pilgrim_29 (hs.1 _ 11 2 h0 rfl) (by decide) rfl ?_
      refine go_iconst 0 dX11_pilgrim_32 (by decide) ?_
      obtain ⟨g13, hf⟩ := gd_some hf
      refine go_rI dX11_pilgrim_33 (hs.1 _ 0 0 (hs.1 _ 11 2 h0 rfl) rfl) (ib_in g13) ?_
      obtain ⟨y14, ey14, hf⟩ := nmd_some hf
      refine go_nm ey14 ?_
      refine go_istore_n 2 [some (.ref this), some (.int a1), some (.int y14), none, none] dX11_pilgrim_34 rfl (by decide) rfl ?_
      refine go_aload_n 0 dX11_pilgrim_35 rfl rfl ?_
      refine go_fR fl_X11_30 dX11_pilgrim_36 h0 (by decide) rfl ?_
      refine go_fR fl_X11_138 dX11_pilgrim_39 (hs.1 _ 11 2 h0 rfl) (by decide) rfl ?_
      refine go_iconst 0 dX11_pilgrim_42 (by decide) ?_
      obtain ⟨g15, hf⟩ := gd_some hf
      refine go_rI dX11_pilgrim_43 (hs.1 _ 0 0 (hs.1 _ 11 2 h0 rfl) rfl) (ib_in g15) ?_
      obtain ⟨y16, ey16, hf⟩ := nmd_some hf
      refine go_nm ey16 ?_
      refine go_istore_n 3 [some (.ref this), some (.int a1), some (.int y14), some (.int y16), none] dX11_pilgrim_44 rfl (by decide) rfl ?_
      refine go_iconst 1 dX11_pilgrim_45 (by decide) ?_
      refine go_istore [some (.ref this), some (.int a1), some (.int y14), some (.int y16), some (.int 1)] dX11_pilgrim_46 (by decide) rfl ?_
      exact w_X11_pilgrim_48 hs h0 N y14 y16 1 σ9 hf
    · replace hf := (if_pos c12).symm.trans hf
      refine go_iconst 0 dX11_pilgrim_23 (by decide) ?_
      cases hf
      exact go_iret rfl dX11_pilgrim_24 (Nat.le_refl _) ⟨rfl, rfl⟩
  · replace hf := (if_pos c11).symm.trans hf
    refine go_iconst (-1) dX11_pilgrim_11 (by decide) ?_
    cases hf
    exact go_iret rfl dX11_pilgrim_12 (Nat.le_refl _) ⟨rfl, rfl⟩
def f_X11_law_12 (N : Nat) (ρ : Nat → Nat → Nat) (this : Nat) (a1 : Int32) (σ : St) : Option (Int32 × St) :=
  some ((-1), σ)
def f_X11_law (N : Nat) (ρ : Nat → Nat → Nat) (this : Nat) (a1 : Int32) (σ : St) : Option (Int32 × St) :=
  if (a1 : Int32) < (-99) then
    f_X11_law_12 N ρ this a1 σ
  else
    if (a1 : Int32) ≤ 99 then
      bnd (f_X9_counting N ρ (ρ this 4) (ρ this 2) a1 σ) fun r3 σ4 =>
      bnd (f_J6_bitCount_0f7a4 N ρ r3 σ4) fun r6 σ7 =>
      some (r6, σ7)
    else
      f_X11_law_12 N ρ this a1 σ
set_option maxRecDepth 100000 in
set_option maxHeartbeats 4000000 in
theorem w_X11_law_12 {N : Nat} {Γ : SG} {ρ : Nat → Nat → Nat} (hs : Sh Γ ρ) {this : Nat} {a1 : Int32} (h0 : Γ[this]? = some (0, 11)) {n0 : Nat} {r : Int32} {σr : St} (σ : St) (hf : f_X11_law_12 N ρ this a1 σ = some (r, σr)) : Go mX11_law 5 0 0 n0 (Ki Γ ρ r σr) 0 0 12 [none, none] [] (hp Γ ρ σ) := by
  unfold f_X11_law_12 at hf
  refine go_iconst (-1) dX11_law_12 (by decide) ?_
  cases hf
  exact go_iret rfl dX11_law_13 (Nat.le_refl _) ⟨rfl, rfl⟩
set_option maxRecDepth 100000 in
set_option maxHeartbeats 4000000 in
theorem t_X11_law {N : Nat} {Γ : SG} {ρ : Nat → Nat → Nat} (hs : Sh Γ ρ) {this : Nat} {a1 : Int32} (h0 : Γ[this]? = some (0, 11)) {σ : St} {r : Int32} {σr : St} (hf : f_X11_law N ρ this a1 σ = some (r, σr)) : Tri mX11_law 5 0 0 [.ref this, .int a1] (hp Γ ρ σ) (Ki Γ ρ r σr) := by
  unfold f_X11_law at hf
  refine tri_of [some (.ref this), some (.int a1)] (plainFor_of_name rfl) rfl (Nat.le_of_ble_eq_true rfl) ?_
  refine go_iload_n 1 dX11_law_0 rfl rfl ?_
  refine go_bipush (-99) dX11_law_1 (by decide) ?_
  refine go_icmp_lt 12 dX11_law_3 (by decide) (fun c1 => ?_) (fun c1 => ?_)
  · replace hf := (if_pos c1).symm.trans hf
    refine go_msk [false, false] [none, none] rfl ?_
    exact w_X11_law_12 hs h0 σ hf
  · replace hf := (if_neg c1).symm.trans hf
    refine go_iload_n 1 dX11_law_6 rfl rfl ?_
    refine go_bipush 99 dX11_law_7 (by decide) ?_
    refine go_icmp_le 14 dX11_law_9 (by decide) (fun c2 => ?_) (fun c2 => ?_)
    · replace hf := (if_pos c2).symm.trans hf
      refine go_aload_n 0 dX11_law_14 rfl rfl ?_
      refine go_fR fl_X11_40 dX11_law_15 h0 (by decide) rfl ?_
      refine go_aload_n 0 dX11_law_18 rfl rfl ?_
      refine go_fR fl_X11_30 dX11_law_19 h0 (by decide) rfl ?_
      refine go_iload_n 1 dX11_law_22 rfl rfl ?_
      obtain ⟨r3, σ4, q5, hf⟩ := bnd_some hf
      refine go_Vi (av := [.ref (ρ this 2), .int a1]) (rest := []) (t_X9_counting hs (hs.1 _ 11 4 h0 rfl) (hs.1 _ 11 2 h0 rfl) q5) ok_X9_counting ml_X11_194 dX11_law_23 (hs.1 _ 11 4 h0 rfl) rfl rfl (by decide) (Nat.le_refl _) (Nat.le_refl _) (Nat.le_of_ble_eq_true rfl) ?_
      obtain ⟨r6, σ7, q8, hf⟩ := bnd_some hf
      refine go_Si (av := [.int r3]) (rest := []) (t_J6_bitCount_0f7a4 hs  q8) ok_J6_bitCount_0f7a4 ml_X11_185 dX11_law_26 rfl rfl (by decide) (Nat.le_refl _) (Nat.le_refl _) (Nat.le_of_ble_eq_true rfl) ?_
      cases hf
      exact go_iret rfl dX11_law_29 (Nat.le_refl _) ⟨rfl, rfl⟩
    · replace hf := (if_neg c2).symm.trans hf
      refine go_msk [false, false] [none, none] rfl ?_
      exact w_X11_law_12 hs h0 σ hf
def f_X11_schisms_54 (N : Nat) (ρ : Nat → Nat → Nat) (this : Nat) (rec4 : Int32 → Int32 → St → Option (Int32 × St)) (rec19 : Int32 → Int32 → Int32 → St → Option (Int32 × St)) (x1 : Int32) (x2 : Int32) (x3 : Int32) (σ : St) : Option (Int32 × St) :=
  rec19 x1 x2 (x3 + 1) σ
def b_X11_schisms_19 (N : Nat) (ρ : Nat → Nat → Nat) (this : Nat) (rec4 : Int32 → Int32 → St → Option (Int32 × St)) (rec19 : Int32 → Int32 → Int32 → St → Option (Int32 × St)) (x1 : Int32) (x2 : Int32) (x3 : Int32) (σ : St) : Option (Int32 × St) :=
  if (σ.1 (ρ this 2) 12) ≤ (x3 : Int32) then
    rec4 x1 (x2 + 1) σ
  else
    gd (ib x2 5) <|
    gd (ib x3 5) <|
    if (σ.1 (ρ (ρ this 2) 6) x2.toNatClampNeg : Int32) = (σ.1 (ρ (ρ this 2) 6) x3.toNatClampNeg) then
      f_X11_schisms_54 N ρ this rec4 rec19 x1 x2 x3 σ
    else
      f_X11_schisms_54 N ρ this rec4 rec19 (x1 + 1) x2 x3 σ
def f_X11_schisms_19 (N : Nat) (ρ : Nat → Nat → Nat) (this : Nat) (rec4 : Int32 → Int32 → St → Option (Int32 × St)) : Nat → Int32 → Int32 → Int32 → St → Option (Int32 × St)
  | 0, _, _, _, _ => none
  | n + 1, x1, x2, x3, σ => b_X11_schisms_19 N ρ this rec4 (f_X11_schisms_19 N ρ this rec4 n) x1 x2 x3 σ
def b_X11_schisms_4 (N : Nat) (ρ : Nat → Nat → Nat) (this : Nat) (rec4 : Int32 → Int32 → St → Option (Int32 × St)) (x1 : Int32) (x2 : Int32) (σ : St) : Option (Int32 × St) :=
  if (σ.1 (ρ this 2) 12) ≤ (x2 : Int32) then
    some (x1, σ)
  else
    nmd (x2 + 1) fun y6 =>
    f_X11_schisms_19 N ρ this rec4 N x1 x2 y6 σ
def f_X11_schisms_4 (N : Nat) (ρ : Nat → Nat → Nat) (this : Nat) : Nat → Int32 → Int32 → St → Option (Int32 × St)
  | 0, _, _, _ => none
  | n + 1, x1, x2, σ => b_X11_schisms_4 N ρ this (f_X11_schisms_4 N ρ this n) x1 x2 σ
def f_X11_schisms (N : Nat) (ρ : Nat → Nat → Nat) (this : Nat) (σ : St) : Option (Int32 × St) :=
  f_X11_schisms_4 N ρ this N 0 0 σ
set_option maxRecDepth 100000 in
set_option maxHeartbeats 4000000 in
theorem w_X11_schisms_54 {N : Nat} {Γ : SG} {ρ : Nat → Nat → Nat} (hs : Sh Γ ρ) {this : Nat} (h0 : Γ[this]? = some (0, 11)) {n0 : Nat} {r : Int32} {σr : St} (rec4 : Int32 → Int32 → St → Option (Int32 × St)) (hrec4 : ∀ (x1 : Int32) (x2 : Int32) (σ : St), rec4 x1 x2 σ = some (r, σr) → Go mX11_schisms 0 0 0 n0 (Ki Γ ρ r σr) 0 0 4 [some (.ref this), some (.int x1), some (.int x2), none] [] (hp Γ ρ σ)) (rec19 : Int32 → Int32 → Int32 → St → Option (Int32 × St)) (hrec19 : ∀ (x1 : Int32) (x2 : Int32) (x3 : Int32) (σ : St), rec19 x1 x2 x3 σ = some (r, σr) → Go mX11_schisms 0 0 0 n0 (Ki Γ ρ r σr) 0 0 19 [some (.ref this), some (.int x1), some (.int x2), some (.int x3)] [] (hp Γ ρ σ)) (x1 : Int32) (x2 : Int32) (x3 : Int32) (σ : St) (hf : f_X11_schisms_54 N ρ this rec4 rec19 x1 x2 x3 σ = some (r, σr)) : Go mX11_schisms 0 0 0 n0 (Ki Γ ρ r σr) 0 0 54 [some (.ref this), some (.int x1), some (.int x2), some (.int x3)] [] (hp Γ ρ σ) := by
  unfold f_X11_schisms_54 at hf
  refine go_iinc (x3 + 1) [some (.ref this), some (.int x1), some (.int x2), some (.int (x3 + 1))] dX11_schisms_54 rfl rfl (by decide) rfl ?_
  refine go_goto 19 dX11_schisms_57 (by decide) ?_
  exact hrec19 x1 x2 (x3 + 1) σ hf
set_option maxRecDepth 100000 in
set_option maxHeartbeats 4000000 in
theorem v_X11_schisms_19 {N : Nat} {Γ : SG} {ρ : Nat → Nat → Nat} (hs : Sh Γ ρ) {this : Nat} (h0 : Γ[this]? = some (0, 11)) {n0 : Nat} {r : Int32} {σr : St} (rec4 : Int32 → Int32 → St → Option (Int32 × St)) (hrec4 : ∀ (x1 : Int32) (x2 : Int32) (σ : St), rec4 x1 x2 σ = some (r, σr) → Go mX11_schisms 0 0 0 n0 (Ki Γ ρ r σr) 0 0 4 [some (.ref this), some (.int x1), some (.int x2), none] [] (hp Γ ρ σ)) (rec19 : Int32 → Int32 → Int32 → St → Option (Int32 × St)) (hrec19 : ∀ (x1 : Int32) (x2 : Int32) (x3 : Int32) (σ : St), rec19 x1 x2 x3 σ = some (r, σr) → Go mX11_schisms 0 0 0 n0 (Ki Γ ρ r σr) 0 0 19 [some (.ref this), some (.int x1), some (.int x2), some (.int x3)] [] (hp Γ ρ σ)) (x1 : Int32) (x2 : Int32) (x3 : Int32) (σ : St) (hf : b_X11_schisms_19 N ρ this rec4 rec19 x1 x2 x3 σ = some (r, σr)) : Go mX11_schisms 0 0 0 n0 (Ki Γ ρ r σr) 0 0 19 [some (.ref this), some (.int x1), some (.int x2), some (.int x3)] [] (hp Γ ρ σ) := by
  unfold b_X11_schisms_19 at hf
  refine go_iload_n 3 dX11_schisms_19 rfl rfl ?_
  refine go_aload_n 0 dX11_schisms_20 rfl rfl ?_
  refine go_fR fl_X11_30 dX11_schisms_21 h0 (by decide) rfl ?_
  refine go_fI fl_X11_132 dX11_schisms_24 (hs.1 _ 11 2 h0 rfl) (by decide) rfl ?_
  refine go_icmp_ge 60 dX11_schisms_27 (by decide) (fun c1 => ?_) (fun c1 => ?_)
  · replace hf := (if_pos c1).symm.trans hf
    refine go_iinc (x2 + 1) [some (.ref this), some (.int x1), some (.int (x2 + 1)), some (.int x3)] dX11_schisms_60 rfl rfl (by decide) rfl ?_
    refine go_goto 4 dX11_schisms_63 (by decide) ?_
    refine go_msk [true, true, true, false] [some (.ref this), some (.int x1), some (.int (x2 + 1)), none] rfl ?_
    exact hrec4 x1 (x2 + 1) σ hf
  · replace hf := (if_neg c1).symm.trans hf
    refine go_aload_n 0 dX11_schisms_30 rfl rfl ?_
    refine go_fR fl_X11_30 dX11_schisms_31 h0 (by decide) rfl ?_
    refine go_fR fl_X11_166 dX11_schisms_34 (hs.1 _ 11 2 h0 rfl) (by decide) rfl ?_
    refine go_iload_n 2 dX11_schisms_37 rfl rfl ?_
    obtain ⟨g2, hf⟩ := gd_some hf
    refine go_rI dX11_schisms_38 (hs.1 _ 0 6 (hs.1 _ 11 2 h0 rfl) rfl) (ib_in g2) ?_
    refine go_aload_n 0 dX11_schisms_39 rfl rfl ?_
    refine go_fR fl_X11_30 dX11_schisms_40 h0 (by decide) rfl ?_
    refine go_fR fl_X11_166 dX11_schisms_43 (hs.1 _ 11 2 h0 rfl) (by decide) rfl ?_
    refine go_iload_n 3 dX11_schisms_46 rfl rfl ?_
    obtain ⟨g3, hf⟩ := gd_some hf
    refine go_rI dX11_schisms_47 (hs.1 _ 0 6 (hs.1 _ 11 2 h0 rfl) rfl) (ib_in g3) ?_
    refine go_icmp_eq 54 dX11_schisms_48 (by decide) (fun c4 => ?_) (fun c4 => ?_)
    · replace hf := (if_pos c4).symm.trans hf
      exact w_X11_schisms_54 hs h0 rec4 hrec4 rec19 hrec19 x1 x2 x3 σ hf
    · replace hf := (if_neg c4).symm.trans hf
      refine go_iinc (x1 + 1) [some (.ref this), some (.int (x1 + 1)), some (.int x2), some (.int x3)] dX11_schisms_51 rfl rfl (by decide) rfl ?_
      exact w_X11_schisms_54 hs h0 rec4 hrec4 rec19 hrec19 (x1 + 1) x2 x3 σ hf
theorem w_X11_schisms_19 {N : Nat} {Γ : SG} {ρ : Nat → Nat → Nat} (hs : Sh Γ ρ) {this : Nat} (h0 : Γ[this]? = some (0, 11)) {n0 : Nat} {r : Int32} {σr : St} (rec4 : Int32 → Int32 → St → Option (Int32 × St)) (hrec4 : ∀ (x1 : Int32) (x2 : Int32) (σ : St), rec4 x1 x2 σ = some (r, σr) → Go mX11_schisms 0 0 0 n0 (Ki Γ ρ r σr) 0 0 4 [some (.ref this), some (.int x1), some (.int x2), none] [] (hp Γ ρ σ)) : ∀ (n : Nat) (x1 : Int32) (x2 : Int32) (x3 : Int32) (σ : St), f_X11_schisms_19 N ρ this rec4 n x1 x2 x3 σ = some (r, σr) → Go mX11_schisms 0 0 0 n0 (Ki Γ ρ r σr) 0 0 19 [some (.ref this), some (.int x1), some (.int x2), some (.int x3)] [] (hp Γ ρ σ) := by
  intro n
  induction n with
  | zero => intro x1 x2 x3 σ hf; cases hf
  | succ n ih => intro x1 x2 x3 σ hf; exact v_X11_schisms_19 hs h0 rec4 hrec4 _ ih x1 x2 x3 σ hf
set_option maxRecDepth 100000 in
set_option maxHeartbeats 4000000 in
theorem v_X11_schisms_4 {N : Nat} {Γ : SG} {ρ : Nat → Nat → Nat} (hs : Sh Γ ρ) {this : Nat} (h0 : Γ[this]? = some (0, 11)) {n0 : Nat} {r : Int32} {σr : St} (rec4 : Int32 → Int32 → St → Option (Int32 × St)) (hrec4 : ∀ (x1 : Int32) (x2 : Int32) (σ : St), rec4 x1 x2 σ = some (r, σr) → Go mX11_schisms 0 0 0 n0 (Ki Γ ρ r σr) 0 0 4 [some (.ref this), some (.int x1), some (.int x2), none] [] (hp Γ ρ σ)) (x1 : Int32) (x2 : Int32) (σ : St) (hf : b_X11_schisms_4 N ρ this rec4 x1 x2 σ = some (r, σr)) : Go mX11_schisms 0 0 0 n0 (Ki Γ ρ r σr) 0 0 4 [some (.ref this), some (.int x1), some (.int x2), none] [] (hp Γ ρ σ) := by
  unfold b_X11_schisms_4 at hf
  refine go_iload_n 2 dX11_schisms_4 rfl rfl ?_
  refine go_aload_n 0 dX11_schisms_5 rfl rfl ?_
  refine go_fR fl_X11_30 dX11_schisms_6 h0 (by decide) rfl ?_
  refine go_fI fl_X11_132 dX11_schisms_9 (hs.1 _ 11 2 h0 rfl) (by decide) rfl ?_
  refine go_icmp_ge 66 dX11_schisms_12 (by decide) (fun c5 => ?_) (fun c5 => ?_)
  · replace hf := (if_pos c5).symm.trans hf
    refine go_iload_n 1 dX11_schisms_66 rfl rfl ?_
    cases hf
    exact go_iret rfl dX11_schisms_67 (Nat.le_refl _) ⟨rfl, rfl⟩
  · replace hf := (if_neg c5).symm.trans hf
    refine go_iload_n 2 dX11_schisms_15 rfl rfl ?_
    refine go_iconst 1 dX11_schisms_16 (by decide) ?_
    refine go_iadd dX11_schisms_17 ?_
    obtain ⟨y6, ey6, hf⟩ := nmd_some hf
    refine go_nm ey6 ?_
    refine go_istore_n 3 [some (.ref this), some (.int x1), some (.int x2), some (.int y6)] dX11_schisms_18 rfl (by decide) rfl ?_
    exact w_X11_schisms_19 hs h0 rec4 hrec4 N x1 x2 y6 σ hf
theorem w_X11_schisms_4 {N : Nat} {Γ : SG} {ρ : Nat → Nat → Nat} (hs : Sh Γ ρ) {this : Nat} (h0 : Γ[this]? = some (0, 11)) {n0 : Nat} {r : Int32} {σr : St} : ∀ (n : Nat) (x1 : Int32) (x2 : Int32) (σ : St), f_X11_schisms_4 N ρ this n x1 x2 σ = some (r, σr) → Go mX11_schisms 0 0 0 n0 (Ki Γ ρ r σr) 0 0 4 [some (.ref this), some (.int x1), some (.int x2), none] [] (hp Γ ρ σ) := by
  intro n
  induction n with
  | zero => intro x1 x2 σ hf; cases hf
  | succ n ih => intro x1 x2 σ hf; exact v_X11_schisms_4 hs h0 _ ih x1 x2 σ hf
set_option maxRecDepth 100000 in
set_option maxHeartbeats 4000000 in
theorem t_X11_schisms {N : Nat} {Γ : SG} {ρ : Nat → Nat → Nat} (hs : Sh Γ ρ) {this : Nat} (h0 : Γ[this]? = some (0, 11)) {σ : St} {r : Int32} {σr : St} (hf : f_X11_schisms N ρ this σ = some (r, σr)) : Tri mX11_schisms 0 0 0 [.ref this] (hp Γ ρ σ) (Ki Γ ρ r σr) := by
  unfold f_X11_schisms at hf
  refine tri_of [some (.ref this), none, none, none] (plainFor_of_name rfl) rfl (Nat.le_of_ble_eq_true rfl) ?_
  refine go_iconst 0 dX11_schisms_0 (by decide) ?_
  refine go_istore_n 1 [some (.ref this), some (.int 0), none, none] dX11_schisms_1 rfl (by decide) rfl ?_
  refine go_iconst 0 dX11_schisms_2 (by decide) ?_
  refine go_istore_n 2 [some (.ref this), some (.int 0), some (.int 0), none] dX11_schisms_3 rfl (by decide) rfl ?_
  exact w_X11_schisms_4 hs h0 N 0 0 σ hf
def f_X11_commonDivisor_34 (N : Nat) (ρ : Nat → Nat → Nat) (a1 : Int32) (a2 : Int32) (x2 : Int32) (σ : St) : Option (Int32 × St) :=
  some (x2, σ)
def b_X11_commonDivisor_7 (N : Nat) (ρ : Nat → Nat → Nat) (a1 : Int32) (a2 : Int32) (rec7 : Int32 → Int32 → Int32 → St → Option (Int32 × St)) (x2 : Int32) (x3 : Int32) (x4 : Int32) (σ : St) : Option (Int32 × St) :=
  if 64 ≤ (x4 : Int32) then
    f_X11_commonDivisor_34 N ρ a1 a2 x2 σ
  else
    if (x3 : Int32) = 0 then
      f_X11_commonDivisor_34 N ρ a1 a2 x2 σ
    else
      gd (nz x3) <|
      nmd (irem x2 x3) fun y4 =>
      rec7 x3 y4 (x4 + 1) σ
def f_X11_commonDivisor_7 (N : Nat) (ρ : Nat → Nat → Nat) (a1 : Int32) (a2 : Int32) : Nat → Int32 → Int32 → Int32 → St → Option (Int32 × St)
  | 0, _, _, _, _ => none
  | n + 1, x2, x3, x4, σ => b_X11_commonDivisor_7 N ρ a1 a2 (f_X11_commonDivisor_7 N ρ a1 a2 n) x2 x3 x4 σ
def f_X11_commonDivisor (N : Nat) (ρ : Nat → Nat → Nat) (a1 : Int32) (a2 : Int32) (σ : St) : Option (Int32 × St) :=
  f_X11_commonDivisor_7 N ρ a1 a2 N a1 a2 0 σ
set_option maxRecDepth 100000 in
set_option maxHeartbeats 4000000 in
theorem w_X11_commonDivisor_34 {N : Nat} {Γ : SG} {ρ : Nat → Nat → Nat} (hs : Sh Γ ρ) {a1 : Int32} {a2 : Int32} {n0 : Nat} {r : Int32} {σr : St} (x2 : Int32) (σ : St) (hf : f_X11_commonDivisor_34 N ρ a1 a2 x2 σ = some (r, σr)) : Go mX11_commonDivisor 0 0 0 n0 (Ki Γ ρ r σr) 0 0 34 [none, none, some (.int x2), none, none, none] [] (hp Γ ρ σ) := by
  unfold f_X11_commonDivisor_34 at hf
  refine go_iload_n 2 dX11_commonDivisor_34 rfl rfl ?_
  cases hf
  exact go_iret rfl dX11_commonDivisor_35 (Nat.le_refl _) ⟨rfl, rfl⟩
set_option maxRecDepth 100000 in
set_option maxHeartbeats 4000000 in
theorem v_X11_commonDivisor_7 {N : Nat} {Γ : SG} {ρ : Nat → Nat → Nat} (hs : Sh Γ ρ) {a1 : Int32} {a2 : Int32} {n0 : Nat} {r : Int32} {σr : St} (rec7 : Int32 → Int32 → Int32 → St → Option (Int32 × St)) (hrec7 : ∀ (x2 : Int32) (x3 : Int32) (x4 : Int32) (σ : St), rec7 x2 x3 x4 σ = some (r, σr) → Go mX11_commonDivisor 0 0 0 n0 (Ki Γ ρ r σr) 0 0 7 [none, none, some (.int x2), some (.int x3), some (.int x4), none] [] (hp Γ ρ σ)) (x2 : Int32) (x3 : Int32) (x4 : Int32) (σ : St) (hf : b_X11_commonDivisor_7 N ρ a1 a2 rec7 x2 x3 x4 σ = some (r, σr)) : Go mX11_commonDivisor 0 0 0 n0 (Ki Γ ρ r σr) 0 0 7 [none, none, some (.int x2), some (.int x3), some (.int x4), none] [] (hp Γ ρ σ) := by
  unfold b_X11_commonDivisor_7 at hf
  refine go_iload dX11_commonDivisor_7 rfl ?_
  refine go_bipush 64 dX11_commonDivisor_9 (by decide) ?_
  refine go_icmp_ge 34 dX11_commonDivisor_11 (by decide) (fun c1 => ?_) (fun c1 => ?_)
  · replace hf := (if_pos c1).symm.trans hf
    refine go_msk [false, false, true, false, false, false] [none, none, some (.int x2), none, none, none] rfl ?_
    exact w_X11_commonDivisor_34 hs x2 σ hf
  · replace hf := (if_neg c1).symm.trans hf
    refine go_iload_n 3 dX11_commonDivisor_14 rfl rfl ?_
    refine go_if_eq 34 dX11_commonDivisor_15 (by decide) (fun c2 => ?_) (fun c2 => ?_)
    · replace hf := (if_pos c2).symm.trans hf
      refine go_msk [false, false, true, false, false, false] [none, none, some (.int x2), none, none, none] rfl ?_
      exact w_X11_commonDivisor_34 hs x2 σ hf
    · replace hf := (if_neg c2).symm.trans hf
      refine go_iload_n 2 dX11_commonDivisor_18 rfl rfl ?_
      refine go_iload_n 3 dX11_commonDivisor_19 rfl rfl ?_
      obtain ⟨g3, hf⟩ := gd_some hf
      refine go_irem dX11_commonDivisor_20 (nz_of g3) ?_
      obtain ⟨y4, ey4, hf⟩ := nmd_some hf
      refine go_nm ey4 ?_
      refine go_istore [none, none, some (.int x2), some (.int x3), some (.int x4), some (.int y4)] dX11_commonDivisor_21 (by decide) rfl ?_
      refine go_iload_n 3 dX11_commonDivisor_23 rfl rfl ?_
      refine go_istore_n 2 [none, none, some (.int x3), some (.int x3), some (.int x4), some (.int y4)] dX11_commonDivisor_24 rfl (by decide) rfl ?_
      refine go_iload dX11_commonDivisor_25 rfl ?_
      refine go_istore_n 3 [none, none, some (.int x3), some (.int y4), some (.int x4), some (.int y4)] dX11_commonDivisor_27 rfl (by decide) rfl ?_
      refine go_iinc (x4 + 1) [none, none, some (.int x3), some (.int y4), some (.int (x4 + 1)), some (.int y4)] dX11_commonDivisor_28 rfl rfl (by decide) rfl ?_
      refine go_goto 7 dX11_commonDivisor_31 (by decide) ?_
      refine go_msk [false, false, true, true, true, false] [none, none, some (.int x3), some (.int y4), some (.int (x4 + 1)), none] rfl ?_
      exact hrec7 x3 y4 (x4 + 1) σ hf
theorem w_X11_commonDivisor_7 {N : Nat} {Γ : SG} {ρ : Nat → Nat → Nat} (hs : Sh Γ ρ) {a1 : Int32} {a2 : Int32} {n0 : Nat} {r : Int32} {σr : St} : ∀ (n : Nat) (x2 : Int32) (x3 : Int32) (x4 : Int32) (σ : St), f_X11_commonDivisor_7 N ρ a1 a2 n x2 x3 x4 σ = some (r, σr) → Go mX11_commonDivisor 0 0 0 n0 (Ki Γ ρ r σr) 0 0 7 [none, none, some (.int x2), some (.int x3), some (.int x4), none] [] (hp Γ ρ σ) := by
  intro n
  induction n with
  | zero => intro x2 x3 x4 σ hf; cases hf
  | succ n ih => intro x2 x3 x4 σ hf; exact v_X11_commonDivisor_7 hs _ ih x2 x3 x4 σ hf
set_option maxRecDepth 100000 in
set_option maxHeartbeats 4000000 in
theorem t_X11_commonDivisor {N : Nat} {Γ : SG} {ρ : Nat → Nat → Nat} (hs : Sh Γ ρ) {a1 : Int32} {a2 : Int32} {σ : St} {r : Int32} {σr : St} (hf : f_X11_commonDivisor N ρ a1 a2 σ = some (r, σr)) : Tri mX11_commonDivisor 0 0 0 [.int a1, .int a2] (hp Γ ρ σ) (Ki Γ ρ r σr) := by
  unfold f_X11_commonDivisor at hf
  refine tri_of [some (.int a1), some (.int a2), none, none, none, none] (plainFor_of_name rfl) rfl (Nat.le_of_ble_eq_true rfl) ?_
  refine go_iload_n 0 dX11_commonDivisor_0 rfl rfl ?_
  refine go_istore_n 2 [some (.int a1), some (.int a2), some (.int a1), none, none, none] dX11_commonDivisor_1 rfl (by decide) rfl ?_
  refine go_iload_n 1 dX11_commonDivisor_2 rfl rfl ?_
  refine go_istore_n 3 [some (.int a1), some (.int a2), some (.int a1), some (.int a2), none, none] dX11_commonDivisor_3 rfl (by decide) rfl ?_
  refine go_iconst 0 dX11_commonDivisor_4 (by decide) ?_
  refine go_istore [some (.int a1), some (.int a2), some (.int a1), some (.int a2), some (.int 0), none] dX11_commonDivisor_5 (by decide) rfl ?_
  refine go_msk [false, false, true, true, true, false] [none, none, some (.int a1), some (.int a2), some (.int 0), none] rfl ?_
  exact w_X11_commonDivisor_7 hs N a1 a2 0 σ hf
def f_X11_odds_18 (N : Nat) (ρ : Nat → Nat → Nat) (this : Nat) (a1 : Int32) (a2 : Int32) (σ : St) : Option (Int32 × St) :=
  some ((-1), σ)
def f_X11_odds_85 (N : Nat) (ρ : Nat → Nat → Nat) (this : Nat) (a1 : Int32) (a2 : Int32) (x5 : Int32) (s0 : Int32) (σ : St) : Option (Int32 × St) :=
  gd (nz x5) <|
  some (s0 / x5, σ)
def b_X11_odds_28 (N : Nat) (ρ : Nat → Nat → Nat) (this : Nat) (a1 : Int32) (a2 : Int32) (rec28 : Int32 → Int32 → Int32 → St → Option (Int32 × St)) (x3 : Int32) (x4 : Int32) (x5 : Int32) (σ : St) : Option (Int32 × St) :=
  if a1 ≤ (x5 : Int32) then
    bnd (f_X11_commonDivisor N ρ x3 x4 σ) fun r3 σ4 =>
    if (r3 : Int32) = 0 then
      some ((-1), σ4)
    else
      if (a2 : Int32) = 0 then
        f_X11_odds_85 N ρ this a1 a2 r3 x3 σ4
      else
        f_X11_odds_85 N ρ this a1 a2 r3 x4 σ4
  else
    nmd (x3 * (100 - (σ.1 (ρ this 2) 14))) fun y8 =>
    nmd (x4 * 100) fun y9 =>
    rec28 y8 y9 (x5 + 1) σ
def f_X11_odds_28 (N : Nat) (ρ : Nat → Nat → Nat) (this : Nat) (a1 : Int32) (a2 : Int32) : Nat → Int32 → Int32 → Int32 → St → Option (Int32 × St)
  | 0, _, _, _, _ => none
  | n + 1, x3, x4, x5, σ => b_X11_odds_28 N ρ this a1 a2 (f_X11_odds_28 N ρ this a1 a2 n) x3 x4 x5 σ
def f_X11_odds (N : Nat) (ρ : Nat → Nat → Nat) (this : Nat) (a1 : Int32) (a2 : Int32) (σ : St) : Option (Int32 × St) :=
  if (a1 : Int32) < 0 then
    f_X11_odds_18 N ρ this a1 a2 σ
  else
    if 4 < (a1 : Int32) then
      f_X11_odds_18 N ρ this a1 a2 σ
    else
      if (a2 : Int32) < 0 then
        f_X11_odds_18 N ρ this a1 a2 σ
      else
        if (a2 : Int32) ≤ 1 then
          f_X11_odds_28 N ρ this a1 a2 N 1 1 0 σ
        else
          f_X11_odds_18 N ρ this a1 a2 σ
set_option maxRecDepth 100000 in
set_option maxHeartbeats 4000000 in
theorem w_X11_odds_18 {N : Nat} {Γ : SG} {ρ : Nat → Nat → Nat} (hs : Sh Γ ρ) {this : Nat} {a1 : Int32} {a2 : Int32} (h0 : Γ[this]? = some (0, 11)) {n0 : Nat} {r : Int32} {σr : St} (σ : St) (hf : f_X11_odds_18 N ρ this a1 a2 σ = some (r, σr)) : Go mX11_odds 1 0 0 n0 (Ki Γ ρ r σr) 0 0 18 [none, none, none, none, none, none] [] (hp Γ ρ σ) := by
  unfold f_X11_odds_18 at hf
  refine go_iconst (-1) dX11_odds_18 (by decide) ?_
  cases hf
  exact go_iret rfl dX11_odds_19 (Nat.le_refl _) ⟨rfl, rfl⟩
set_option maxRecDepth 100000 in
set_option maxHeartbeats 4000000 in
theorem w_X11_odds_85 {N : Nat} {Γ : SG} {ρ : Nat → Nat → Nat} (hs : Sh Γ ρ) {this : Nat} {a1 : Int32} {a2 : Int32} (h0 : Γ[this]? = some (0, 11)) {n0 : Nat} {r : Int32} {σr : St} (x5 : Int32) (s0 : Int32) (σ : St) (hf : f_X11_odds_85 N ρ this a1 a2 x5 s0 σ = some (r, σr)) : Go mX11_odds 1 0 0 n0 (Ki Γ ρ r σr) 0 0 85 [none, none, none, none, none, some (.int x5)] [.int s0] (hp Γ ρ σ) := by
  unfold f_X11_odds_85 at hf
  refine go_iload dX11_odds_85 rfl ?_
  obtain ⟨g1, hf⟩ := gd_some hf
  refine go_idiv dX11_odds_87 (nz_of g1) ?_
  cases hf
  exact go_iret rfl dX11_odds_88 (Nat.le_refl _) ⟨rfl, rfl⟩
set_option maxRecDepth 100000 in
set_option maxHeartbeats 4000000 in
theorem v_X11_odds_28 {N : Nat} {Γ : SG} {ρ : Nat → Nat → Nat} (hs : Sh Γ ρ) {this : Nat} {a1 : Int32} {a2 : Int32} (h0 : Γ[this]? = some (0, 11)) {n0 : Nat} {r : Int32} {σr : St} (rec28 : Int32 → Int32 → Int32 → St → Option (Int32 × St)) (hrec28 : ∀ (x3 : Int32) (x4 : Int32) (x5 : Int32) (σ : St), rec28 x3 x4 x5 σ = some (r, σr) → Go mX11_odds 1 0 0 n0 (Ki Γ ρ r σr) 0 0 28 [some (.ref this), some (.int a1), some (.int a2), some (.int x3), some (.int x4), some (.int x5)] [] (hp Γ ρ σ)) (x3 : Int32) (x4 : Int32) (x5 : Int32) (σ : St) (hf : b_X11_odds_28 N ρ this a1 a2 rec28 x3 x4 x5 σ = some (r, σr)) : Go mX11_odds 1 0 0 n0 (Ki Γ ρ r σr) 0 0 28 [some (.ref this), some (.int a1), some (.int a2), some (.int x3), some (.int x4), some (.int x5)] [] (hp Γ ρ σ) := by
  unfold b_X11_odds_28 at hf
  refine go_iload dX11_odds_28 rfl ?_
  refine go_iload_n 1 dX11_odds_30 rfl rfl ?_
  refine go_icmp_ge 60 dX11_odds_31 (by decide) (fun c2 => ?_) (fun c2 => ?_)
  · replace hf := (if_pos c2).symm.trans hf
    refine go_iload_n 3 dX11_odds_60 rfl rfl ?_
    refine go_iload dX11_odds_61 rfl ?_
    obtain ⟨r3, σ4, q5, hf⟩ := bnd_some hf
    refine go_Si (av := [.int x3, .int x4]) (rest := []) (t_X11_commonDivisor hs  q5) ok_X11_commonDivisor ml_X11_329 dX11_odds_63 rfl rfl (by decide) (Nat.le_refl _) (Nat.le_refl _) (Nat.le_of_ble_eq_true rfl) ?_
    refine go_istore [some (.ref this), some (.int a1), some (.int a2), some (.int x3), some (.int x4), some (.int r3)] dX11_odds_66 (by decide) rfl ?_
    refine go_iload dX11_odds_68 rfl ?_
    refine go_if_ne 75 dX11_odds_70 (by decide) (fun c6 => ?_) (fun c6 => ?_)
    · replace hf := (if_neg c6).symm.trans hf
      refine go_iload_n 2 dX11_odds_75 rfl rfl ?_
      refine go_if_ne 83 dX11_odds_76 (by decide) (fun c7 => ?_) (fun c7 => ?_)
      · replace hf := (if_neg c7).symm.trans hf
        refine go_iload dX11_odds_83 rfl ?_
        refine go_msk [false, false, false, false, false, true] [none, none, none, none, none, some (.int r3)] rfl ?_
        exact w_X11_odds_85 hs h0 r3 x4 σ4 hf
      · replace hf := (if_pos c7).symm.trans hf
        refine go_iload_n 3 dX11_odds_79 rfl rfl ?_
        refine go_goto 85 dX11_odds_80 (by decide) ?_
        refine go_msk [false, false, false, false, false, true] [none, none, none, none, none, some (.int r3)] rfl ?_
        exact w_X11_odds_85 hs h0 r3 x3 σ4 hf
    · replace hf := (if_pos c6).symm.trans hf
      refine go_iconst (-1) dX11_odds_73 (by decide) ?_
      cases hf
      exact go_iret rfl dX11_odds_74 (Nat.le_refl _) ⟨rfl, rfl⟩
  · replace hf := (if_neg c2).symm.trans hf
    refine go_iload_n 3 dX11_odds_34 rfl rfl ?_
    refine go_bipush 100 dX11_odds_35 (by decide) ?_
    refine go_aload_n 0 dX11_odds_37 rfl rfl ?_
    refine go_fR fl_X11_30 dX11_odds_38 h0 (by decide) rfl ?_
    refine go_fI fl_X11_218 dX11_odds_41 (hs.1 _ 11 2 h0 rfl) (by decide) rfl ?_
    refine go_isub dX11_odds_44 ?_
    refine go_imul dX11_odds_45 ?_
    obtain ⟨y8, ey8, hf⟩ := nmd_some hf
    refine go_nm ey8 ?_
    refine go_istore_n 3 [some (.ref this), some (.int a1), some (.int a2), some (.int y8), some (.int x4), some (.int x5)] dX11_odds_46 rfl (by decide) rfl ?_
    refine go_iload dX11_odds_47 rfl ?_
    refine go_bipush 100 dX11_odds_49 (by decide) ?_
    refine go_imul dX11_odds_51 ?_
    obtain ⟨y9, ey9, hf⟩ := nmd_some hf
    refine go_nm ey9 ?_
    refine go_istore [some (.ref this), some (.int a1), some (.int a2), some (.int y8), some (.int y9), some (.int x5)] dX11_odds_52 (by decide) rfl ?_
    refine go_iinc (x5 + 1) [some (.ref this), some (.int a1), some (.int a2), some (.int y8), some (.int y9), some (.int (x5 + 1))] dX11_odds_54 rfl rfl (by decide) rfl ?_
    refine go_goto 28 dX11_odds_57 (by decide) ?_
    exact hrec28 y8 y9 (x5 + 1) σ hf
theorem w_X11_odds_28 {N : Nat} {Γ : SG} {ρ : Nat → Nat → Nat} (hs : Sh Γ ρ) {this : Nat} {a1 : Int32} {a2 : Int32} (h0 : Γ[this]? = some (0, 11)) {n0 : Nat} {r : Int32} {σr : St} : ∀ (n : Nat) (x3 : Int32) (x4 : Int32) (x5 : Int32) (σ : St), f_X11_odds_28 N ρ this a1 a2 n x3 x4 x5 σ = some (r, σr) → Go mX11_odds 1 0 0 n0 (Ki Γ ρ r σr) 0 0 28 [some (.ref this), some (.int a1), some (.int a2), some (.int x3), some (.int x4), some (.int x5)] [] (hp Γ ρ σ) := by
  intro n
  induction n with
  | zero => intro x3 x4 x5 σ hf; cases hf
  | succ n ih => intro x3 x4 x5 σ hf; exact v_X11_odds_28 hs h0 _ ih x3 x4 x5 σ hf
set_option maxRecDepth 100000 in
set_option maxHeartbeats 4000000 in
theorem t_X11_odds {N : Nat} {Γ : SG} {ρ : Nat → Nat → Nat} (hs : Sh Γ ρ) {this : Nat} {a1 : Int32} {a2 : Int32} (h0 : Γ[this]? = some (0, 11)) {σ : St} {r : Int32} {σr : St} (hf : f_X11_odds N ρ this a1 a2 σ = some (r, σr)) : Tri mX11_odds 1 0 0 [.ref this, .int a1, .int a2] (hp Γ ρ σ) (Ki Γ ρ r σr) := by
  unfold f_X11_odds at hf
  refine tri_of [some (.ref this), some (.int a1), some (.int a2), none, none, none] (plainFor_of_name rfl) rfl (Nat.le_of_ble_eq_true rfl) ?_
  refine go_iload_n 1 dX11_odds_0 rfl rfl ?_
  refine go_if_lt 18 dX11_odds_1 (by decide) (fun c10 => ?_) (fun c10 => ?_)
  · replace hf := (if_pos c10).symm.trans hf
    refine go_msk [false, false, false, false, false, false] [none, none, none, none, none, none] rfl ?_
    exact w_X11_odds_18 hs h0 σ hf
  · replace hf := (if_neg c10).symm.trans hf
    refine go_iload_n 1 dX11_odds_4 rfl rfl ?_
    refine go_iconst 4 dX11_odds_5 (by decide) ?_
    refine go_icmp_gt 18 dX11_odds_6 (by decide) (fun c11 => ?_) (fun c11 => ?_)
    · replace hf := (if_pos c11).symm.trans hf
      refine go_msk [false, false, false, false, false, false] [none, none, none, none, none, none] rfl ?_
      exact w_X11_odds_18 hs h0 σ hf
    · replace hf := (if_neg c11).symm.trans hf
      refine go_iload_n 2 dX11_odds_9 rfl rfl ?_
      refine go_if_lt 18 dX11_odds_10 (by decide) (fun c12 => ?_) (fun c12 => ?_)
      · replace hf := (if_pos c12).symm.trans hf
        refine go_msk [false, false, false, false, false, false] [none, none, none, none, none, none] rfl ?_
        exact w_X11_odds_18 hs h0 σ hf
      · replace hf := (if_neg c12).symm.trans hf
        refine go_iload_n 2 dX11_odds_13 rfl rfl ?_
        refine go_iconst 1 dX11_odds_14 (by decide) ?_
        refine go_icmp_le 20 dX11_odds_15 (by decide) (fun c13 => ?_) (fun c13 => ?_)
        · replace hf := (if_pos c13).symm.trans hf
          refine go_iconst 1 dX11_odds_20 (by decide) ?_
          refine go_istore_n 3 [some (.ref this), some (.int a1), some (.int a2), some (.int 1), none, none] dX11_odds_21 rfl (by decide) rfl ?_
          refine go_iconst 1 dX11_odds_22 (by decide) ?_
          refine go_istore [some (.ref this), some (.int a1), some (.int a2), some (.int 1), some (.int 1), none] dX11_odds_23 (by decide) rfl ?_
          refine go_iconst 0 dX11_odds_25 (by decide) ?_
          refine go_istore [some (.ref this), some (.int a1), some (.int a2), some (.int 1), some (.int 1), some (.int 0)] dX11_odds_26 (by decide) rfl ?_
          exact w_X11_odds_28 hs h0 N 1 1 0 σ hf
        · replace hf := (if_neg c13).symm.trans hf
          refine go_msk [false, false, false, false, false, false] [none, none, none, none, none, none] rfl ?_
          exact w_X11_odds_18 hs h0 σ hf
def f_X11_lasts_22 (N : Nat) (ρ : Nat → Nat → Nat) (this : Nat) (a1 : Int32) (a2 : Int32) (σ : St) : Option (Int32 × St) :=
  some ((-1), σ)
def b_X11_lasts_37 (N : Nat) (ρ : Nat → Nat → Nat) (this : Nat) (a1 : Int32) (a2 : Int32) (rec37 : Int32 → St → Option (Int32 × St)) (x3 : Int32) (σ : St) : Option (Int32 × St) :=
  if 60 < (x3 : Int32) then
    some ((-1), σ)
  else
    bnd (f_X9_kneel N ρ (ρ this 5) (ρ this 2) a1 a2 1 σ) fun r2 σ3 =>
    if (r2 : Int32) = 0 then
      some (x3, σ3)
    else
      nmd (sI σ3 (ρ this 5) 4 ((σ3.1 (ρ this 5) 4) + 1)) fun σ6 =>
      rec37 (x3 + 1) σ6
def f_X11_lasts_37 (N : Nat) (ρ : Nat → Nat → Nat) (this : Nat) (a1 : Int32) (a2 : Int32) : Nat → Int32 → St → Option (Int32 × St)
  | 0, _, _ => none
  | n + 1, x3, σ => b_X11_lasts_37 N ρ this a1 a2 (f_X11_lasts_37 N ρ this a1 a2 n) x3 σ
def f_X11_lasts (N : Nat) (ρ : Nat → Nat → Nat) (this : Nat) (a1 : Int32) (a2 : Int32) (σ : St) : Option (Int32 × St) :=
  bnd (f_X0_hasStool N ρ (ρ this 2) a1 σ) fun r7 σ8 =>
  if (r7 : Int32) = 0 then
    f_X11_lasts_22 N ρ this a1 a2 σ8
  else
    bnd (f_X0_hasHearth N ρ (ρ this 2) a2 σ8) fun r11 σ12 =>
    if (r11 : Int32) = 0 then
      f_X11_lasts_22 N ρ this a1 a2 σ12
    else
      bnd (f_X9_copy N ρ (ρ this 5) (ρ this 4) σ12) fun _ σ16 =>
      f_X11_lasts_37 N ρ this a1 a2 N 0 σ16
set_option maxRecDepth 100000 in
set_option maxHeartbeats 4000000 in
theorem w_X11_lasts_22 {N : Nat} {Γ : SG} {ρ : Nat → Nat → Nat} (hs : Sh Γ ρ) {this : Nat} {a1 : Int32} {a2 : Int32} (h0 : Γ[this]? = some (0, 11)) {n0 : Nat} {r : Int32} {σr : St} (σ : St) (hf : f_X11_lasts_22 N ρ this a1 a2 σ = some (r, σr)) : Go mX11_lasts 4 0 0 n0 (Ki Γ ρ r σr) 0 0 22 [none, none, none, none] [] (hp Γ ρ σ) := by
  unfold f_X11_lasts_22 at hf
  refine go_iconst (-1) dX11_lasts_22 (by decide) ?_
  cases hf
  exact go_iret rfl dX11_lasts_23 (Nat.le_refl _) ⟨rfl, rfl⟩
set_option maxRecDepth 100000 in
set_option maxHeartbeats 4000000 in
theorem v_X11_lasts_37 {N : Nat} {Γ : SG} {ρ : Nat → Nat → Nat} (hs : Sh Γ ρ) {this : Nat} {a1 : Int32} {a2 : Int32} (h0 : Γ[this]? = some (0, 11)) {n0 : Nat} {r : Int32} {σr : St} (rec37 : Int32 → St → Option (Int32 × St)) (hrec37 : ∀ (x3 : Int32) (σ : St), rec37 x3 σ = some (r, σr) → Go mX11_lasts 4 0 0 n0 (Ki Γ ρ r σr) 0 0 37 [some (.ref this), some (.int a1), some (.int a2), some (.int x3)] [] (hp Γ ρ σ)) (x3 : Int32) (σ : St) (hf : b_X11_lasts_37 N ρ this a1 a2 rec37 x3 σ = some (r, σr)) : Go mX11_lasts 4 0 0 n0 (Ki Γ ρ r σr) 0 0 37 [some (.ref this), some (.int a1), some (.int a2), some (.int x3)] [] (hp Γ ρ σ) := by
  unfold b_X11_lasts_37 at hf
  refine go_iload_n 3 dX11_lasts_37 rfl rfl ?_
  refine go_bipush 60 dX11_lasts_38 (by decide) ?_
  refine go_icmp_gt 81 dX11_lasts_40 (by decide) (fun c1 => ?_) (fun c1 => ?_)
  · replace hf := (if_pos c1).symm.trans hf
    refine go_iconst (-1) dX11_lasts_81 (by decide) ?_
    cases hf
    exact go_iret rfl dX11_lasts_82 (Nat.le_refl _) ⟨rfl, rfl⟩
  · replace hf := (if_neg c1).symm.trans hf
    refine go_aload_n 0 dX11_lasts_43 rfl rfl ?_
    refine go_fR fl_X11_44 dX11_lasts_44 h0 (by decide) rfl ?_
    refine go_aload_n 0 dX11_lasts_47 rfl rfl ?_
    refine go_fR fl_X11_30 dX11_lasts_48 h0 (by decide) rfl ?_
    refine go_iload_n 1 dX11_lasts_51 rfl rfl ?_
    refine go_iload_n 2 dX11_lasts_52 rfl rfl ?_
    refine go_iconst 1 dX11_lasts_53 (by decide) ?_
    obtain ⟨r2, σ3, q4, hf⟩ := bnd_some hf
    refine go_Vi (av := [.ref (ρ this 2), .int a1, .int a2, .int 1]) (rest := []) (t_X9_kneel hs (hs.1 _ 11 5 h0 rfl) (hs.1 _ 11 2 h0 rfl) q4) ok_X9_kneel ml_X11_335 dX11_lasts_54 (hs.1 _ 11 5 h0 rfl) rfl rfl (by decide) (Nat.le_refl _) (Nat.le_refl _) (Nat.le_of_ble_eq_true rfl) ?_
    refine go_if_ne 62 dX11_lasts_57 (by decide) (fun c5 => ?_) (fun c5 => ?_)
    · replace hf := (if_neg c5).symm.trans hf
      refine go_aload_n 0 dX11_lasts_62 rfl rfl ?_
      refine go_fR fl_X11_44 dX11_lasts_63 h0 (by decide) rfl ?_
      refine go_dup dX11_lasts_66 rfl ?_
      refine go_fI fl_X11_221 dX11_lasts_67 (hs.1 _ 11 5 h0 rfl) (by decide) rfl ?_
      refine go_iconst 1 dX11_lasts_70 (by decide) ?_
      refine go_iadd dX11_lasts_71 ?_
      obtain ⟨σ6, eσ6, hf⟩ := nmd_some hf
      refine go_pI fl_X11_221 ft_9_4 (okv_i _) dX11_lasts_72 (hs.1 _ 11 5 h0 rfl) (by decide) rfl ?_
      rw [eσ6]
      refine go_iinc (x3 + 1) [some (.ref this), some (.int a1), some (.int a2), some (.int (x3 + 1))] dX11_lasts_75 rfl rfl (by decide) rfl ?_
      refine go_goto 37 dX11_lasts_78 (by decide) ?_
      exact hrec37 (x3 + 1) σ6 hf
    · replace hf := (if_pos c5).symm.trans hf
      refine go_iload_n 3 dX11_lasts_60 rfl rfl ?_
      cases hf
      exact go_iret rfl dX11_lasts_61 (Nat.le_refl _) ⟨rfl, rfl⟩
theorem w_X11_lasts_37 {N : Nat} {Γ : SG} {ρ : Nat → Nat → Nat} (hs : Sh Γ ρ) {this : Nat} {a1 : Int32} {a2 : Int32} (h0 : Γ[this]? = some (0, 11)) {n0 : Nat} {r : Int32} {σr : St} : ∀ (n : Nat) (x3 : Int32) (σ : St), f_X11_lasts_37 N ρ this a1 a2 n x3 σ = some (r, σr) → Go mX11_lasts 4 0 0 n0 (Ki Γ ρ r σr) 0 0 37 [some (.ref this), some (.int a1), some (.int a2), some (.int x3)] [] (hp Γ ρ σ) := by
  intro n
  induction n with
  | zero => intro x3 σ hf; cases hf
  | succ n ih => intro x3 σ hf; exact v_X11_lasts_37 hs h0 _ ih x3 σ hf
set_option maxRecDepth 100000 in
set_option maxHeartbeats 4000000 in
theorem t_X11_lasts {N : Nat} {Γ : SG} {ρ : Nat → Nat → Nat} (hs : Sh Γ ρ) {this : Nat} {a1 : Int32} {a2 : Int32} (h0 : Γ[this]? = some (0, 11)) {σ : St} {r : Int32} {σr : St} (hf : f_X11_lasts N ρ this a1 a2 σ = some (r, σr)) : Tri mX11_lasts 4 0 0 [.ref this, .int a1, .int a2] (hp Γ ρ σ) (Ki Γ ρ r σr) := by
  unfold f_X11_lasts at hf
  refine tri_of [some (.ref this), some (.int a1), some (.int a2), none] (plainFor_of_name rfl) rfl (Nat.le_of_ble_eq_true rfl) ?_
  refine go_aload_n 0 dX11_lasts_0 rfl rfl ?_
  refine go_fR fl_X11_30 dX11_lasts_1 h0 (by decide) rfl ?_
  refine go_iload_n 1 dX11_lasts_4 rfl rfl ?_
  obtain ⟨r7, σ8, q9, hf⟩ := bnd_some hf
  refine go_Vi (av := [.int a1]) (rest := []) (t_X0_hasStool hs (hs.1 _ 11 2 h0 rfl) q9) ok_X0_hasStool ml_X11_157 dX11_lasts_5 (hs.1 _ 11 2 h0 rfl) rfl rfl (by decide) (Nat.le_refl _) (Nat.le_refl _) (Nat.le_of_ble_eq_true rfl) ?_
  refine go_if_eq 22 dX11_lasts_8 (by decide) (fun c10 => ?_) (fun c10 => ?_)
  · replace hf := (if_pos c10).symm.trans hf
    refine go_msk [false, false, false, false] [none, none, none, none] rfl ?_
    exact w_X11_lasts_22 hs h0 σ8 hf
  · replace hf := (if_neg c10).symm.trans hf
    refine go_aload_n 0 dX11_lasts_11 rfl rfl ?_
    refine go_fR fl_X11_30 dX11_lasts_12 h0 (by decide) rfl ?_
    refine go_iload_n 2 dX11_lasts_15 rfl rfl ?_
    obtain ⟨r11, σ12, q13, hf⟩ := bnd_some hf
    refine go_Vi (av := [.int a2]) (rest := []) (t_X0_hasHearth hs (hs.1 _ 11 2 h0 rfl) q13) ok_X0_hasHearth ml_X11_135 dX11_lasts_16 (hs.1 _ 11 2 h0 rfl) rfl rfl (by decide) (Nat.le_refl _) (Nat.le_refl _) (Nat.le_of_ble_eq_true rfl) ?_
    refine go_if_ne 24 dX11_lasts_19 (by decide) (fun c14 => ?_) (fun c14 => ?_)
    · replace hf := (if_neg c14).symm.trans hf
      refine go_aload_n 0 dX11_lasts_24 rfl rfl ?_
      refine go_fR fl_X11_44 dX11_lasts_25 h0 (by decide) rfl ?_
      refine go_aload_n 0 dX11_lasts_28 rfl rfl ?_
      refine go_fR fl_X11_40 dX11_lasts_29 h0 (by decide) rfl ?_
      obtain ⟨r15, σ16, q17, hf⟩ := bnd_some hf
      refine go_Vv (av := [.ref (ρ this 4)]) (rest := []) (t_X9_copy hs (hs.1 _ 11 5 h0 rfl) (hs.1 _ 11 4 h0 rfl) q17) ok_X9_copy ml_X11_332 dX11_lasts_32 (hs.1 _ 11 5 h0 rfl) rfl rfl (by decide) (Nat.le_refl _) (Nat.le_refl _) (Nat.le_of_ble_eq_true rfl) ?_
      refine go_iconst 0 dX11_lasts_35 (by decide) ?_
      refine go_istore_n 3 [some (.ref this), some (.int a1), some (.int a2), some (.int 0)] dX11_lasts_36 rfl (by decide) rfl ?_
      exact w_X11_lasts_37 hs h0 N 0 σ16 hf
    · replace hf := (if_pos c14).symm.trans hf
      refine go_msk [false, false, false, false] [none, none, none, none] rfl ?_
      exact w_X11_lasts_22 hs h0 σ12 hf
def f_X11_soon_22 (N : Nat) (ρ : Nat → Nat → Nat) (this : Nat) (a1 : Int32) (a2 : Int32) (σ : St) : Option (Int32 × St) :=
  some ((-1), σ)
def b_X11_soon_37 (N : Nat) (ρ : Nat → Nat → Nat) (this : Nat) (a1 : Int32) (a2 : Int32) (rec37 : Int32 → St → Option (Int32 × St)) (x3 : Int32) (σ : St) : Option (Int32 × St) :=
  if 60 < (x3 : Int32) then
    some ((-1), σ)
  else
    bnd (f_X9_isSaved N ρ (ρ this 5) (ρ this 2) a1 σ) fun r2 σ3 =>
    if (r2 : Int32) = 0 then
      bnd (f_X9_kneel N ρ (ρ this 5) (ρ this 2) a1 a2 1 σ3) fun r6 σ7 =>
      nmd (sI σ7 (ρ this 5) 4 ((σ7.1 (ρ this 5) 4) + 1)) fun σ9 =>
      rec37 (x3 + 1) σ9
    else
      some (x3, σ3)
def f_X11_soon_37 (N : Nat) (ρ : Nat → Nat → Nat) (this : Nat) (a1 : Int32) (a2 : Int32) : Nat → Int32 → St → Option (Int32 × St)
  | 0, _, _ => none
  | n + 1, x3, σ => b_X11_soon_37 N ρ this a1 a2 (f_X11_soon_37 N ρ this a1 a2 n) x3 σ
def f_X11_soon (N : Nat) (ρ : Nat → Nat → Nat) (this : Nat) (a1 : Int32) (a2 : Int32) (σ : St) : Option (Int32 × St) :=
  bnd (f_X0_hasStool N ρ (ρ this 2) a1 σ) fun r10 σ11 =>
  if (r10 : Int32) = 0 then
    f_X11_soon_22 N ρ this a1 a2 σ11
  else
    bnd (f_X0_hasHearth N ρ (ρ this 2) a2 σ11) fun r14 σ15 =>
    if (r14 : Int32) = 0 then
      f_X11_soon_22 N ρ this a1 a2 σ15
    else
      bnd (f_X9_copy N ρ (ρ this 5) (ρ this 4) σ15) fun _ σ19 =>
      f_X11_soon_37 N ρ this a1 a2 N 0 σ19
set_option maxRecDepth 100000 in
set_option maxHeartbeats 4000000 in
theorem w_X11_soon_22 {N : Nat} {Γ : SG} {ρ : Nat → Nat → Nat} (hs : Sh Γ ρ) {this : Nat} {a1 : Int32} {a2 : Int32} (h0 : Γ[this]? = some (0, 11)) {n0 : Nat} {r : Int32} {σr : St} (σ : St) (hf : f_X11_soon_22 N ρ this a1 a2 σ = some (r, σr)) : Go mX11_soon 4 0 0 n0 (Ki Γ ρ r σr) 0 0 22 [none, none, none, none] [] (hp Γ ρ σ) := by
  unfold f_X11_soon_22 at hf
  refine go_iconst (-1) dX11_soon_22 (by decide) ?_
  cases hf
  exact go_iret rfl dX11_soon_23 (Nat.le_refl _) ⟨rfl, rfl⟩
set_option maxRecDepth 100000 in
set_option maxHeartbeats 4000000 in
theorem v_X11_soon_37 {N : Nat} {Γ : SG} {ρ : Nat → Nat → Nat} (hs : Sh Γ ρ) {this : Nat} {a1 : Int32} {a2 : Int32} (h0 : Γ[this]? = some (0, 11)) {n0 : Nat} {r : Int32} {σr : St} (rec37 : Int32 → St → Option (Int32 × St)) (hrec37 : ∀ (x3 : Int32) (σ : St), rec37 x3 σ = some (r, σr) → Go mX11_soon 4 0 0 n0 (Ki Γ ρ r σr) 0 0 37 [some (.ref this), some (.int a1), some (.int a2), some (.int x3)] [] (hp Γ ρ σ)) (x3 : Int32) (σ : St) (hf : b_X11_soon_37 N ρ this a1 a2 rec37 x3 σ = some (r, σr)) : Go mX11_soon 4 0 0 n0 (Ki Γ ρ r σr) 0 0 37 [some (.ref this), some (.int a1), some (.int a2), some (.int x3)] [] (hp Γ ρ σ) := by
  unfold b_X11_soon_37 at hf
  refine go_iload_n 3 dX11_soon_37 rfl rfl ?_
  refine go_bipush 60 dX11_soon_38 (by decide) ?_
  refine go_icmp_gt 94 dX11_soon_40 (by decide) (fun c1 => ?_) (fun c1 => ?_)
  · replace hf := (if_pos c1).symm.trans hf
    refine go_iconst (-1) dX11_soon_94 (by decide) ?_
    cases hf
    exact go_iret rfl dX11_soon_95 (Nat.le_refl _) ⟨rfl, rfl⟩
  · replace hf := (if_neg c1).symm.trans hf
    refine go_aload_n 0 dX11_soon_43 rfl rfl ?_
    refine go_fR fl_X11_44 dX11_soon_44 h0 (by decide) rfl ?_
    refine go_aload_n 0 dX11_soon_47 rfl rfl ?_
    refine go_fR fl_X11_30 dX11_soon_48 h0 (by decide) rfl ?_
    refine go_iload_n 1 dX11_soon_51 rfl rfl ?_
    obtain ⟨r2, σ3, q4, hf⟩ := bnd_some hf
    refine go_Vi (av := [.ref (ρ this 2), .int a1]) (rest := []) (t_X9_isSaved hs (hs.1 _ 11 5 h0 rfl) (hs.1 _ 11 2 h0 rfl) q4) ok_X9_isSaved ml_X11_178 dX11_soon_52 (hs.1 _ 11 5 h0 rfl) rfl rfl (by decide) (Nat.le_refl _) (Nat.le_refl _) (Nat.le_of_ble_eq_true rfl) ?_
    refine go_if_eq 60 dX11_soon_55 (by decide) (fun c5 => ?_) (fun c5 => ?_)
    · replace hf := (if_pos c5).symm.trans hf
      refine go_aload_n 0 dX11_soon_60 rfl rfl ?_
      refine go_fR fl_X11_44 dX11_soon_61 h0 (by decide) rfl ?_
      refine go_aload_n 0 dX11_soon_64 rfl rfl ?_
      refine go_fR fl_X11_30 dX11_soon_65 h0 (by decide) rfl ?_
      refine go_iload_n 1 dX11_soon_68 rfl rfl ?_
      refine go_iload_n 2 dX11_soon_69 rfl rfl ?_
      refine go_iconst 1 dX11_soon_70 (by decide) ?_
      obtain ⟨r6, σ7, q8, hf⟩ := bnd_some hf
      refine go_Vi (av := [.ref (ρ this 2), .int a1, .int a2, .int 1]) (rest := []) (t_X9_kneel hs (hs.1 _ 11 5 h0 rfl) (hs.1 _ 11 2 h0 rfl) q8) ok_X9_kneel ml_X11_335 dX11_soon_71 (hs.1 _ 11 5 h0 rfl) rfl rfl (by decide) (Nat.le_refl _) (Nat.le_refl _) (Nat.le_of_ble_eq_true rfl) ?_
      refine go_pop dX11_soon_74 rfl ?_
      refine go_aload_n 0 dX11_soon_75 rfl rfl ?_
      refine go_fR fl_X11_44 dX11_soon_76 h0 (by decide) rfl ?_
      refine go_dup dX11_soon_79 rfl ?_
      refine go_fI fl_X11_221 dX11_soon_80 (hs.1 _ 11 5 h0 rfl) (by decide) rfl ?_
      refine go_iconst 1 dX11_soon_83 (by decide) ?_
      refine go_iadd dX11_soon_84 ?_
      obtain ⟨σ9, eσ9, hf⟩ := nmd_some hf
      refine go_pI fl_X11_221 ft_9_4 (okv_i _) dX11_soon_85 (hs.1 _ 11 5 h0 rfl) (by decide) rfl ?_
      rw [eσ9]
      refine go_iinc (x3 + 1) [some (.ref this), some (.int a1), some (.int a2), some (.int (x3 + 1))] dX11_soon_88 rfl rfl (by decide) rfl ?_
      refine go_goto 37 dX11_soon_91 (by decide) ?_
      exact hrec37 (x3 + 1) σ9 hf
    · replace hf := (if_neg c5).symm.trans hf
      refine go_iload_n 3 dX11_soon_58 rfl rfl ?_
      cases hf
      exact go_iret rfl dX11_soon_59 (Nat.le_refl _) ⟨rfl, rfl⟩
theorem w_X11_soon_37 {N : Nat} {Γ : SG} {ρ : Nat → Nat → Nat} (hs : Sh Γ ρ) {this : Nat} {a1 : Int32} {a2 : Int32} (h0 : Γ[this]? = some (0, 11)) {n0 : Nat} {r : Int32} {σr : St} : ∀ (n : Nat) (x3 : Int32) (σ : St), f_X11_soon_37 N ρ this a1 a2 n x3 σ = some (r, σr) → Go mX11_soon 4 0 0 n0 (Ki Γ ρ r σr) 0 0 37 [some (.ref this), some (.int a1), some (.int a2), some (.int x3)] [] (hp Γ ρ σ) := by
  intro n
  induction n with
  | zero => intro x3 σ hf; cases hf
  | succ n ih => intro x3 σ hf; exact v_X11_soon_37 hs h0 _ ih x3 σ hf
set_option maxRecDepth 100000 in
set_option maxHeartbeats 4000000 in
theorem t_X11_soon {N : Nat} {Γ : SG} {ρ : Nat → Nat → Nat} (hs : Sh Γ ρ) {this : Nat} {a1 : Int32} {a2 : Int32} (h0 : Γ[this]? = some (0, 11)) {σ : St} {r : Int32} {σr : St} (hf : f_X11_soon N ρ this a1 a2 σ = some (r, σr)) : Tri mX11_soon 4 0 0 [.ref this, .int a1, .int a2] (hp Γ ρ σ) (Ki Γ ρ r σr) := by
  unfold f_X11_soon at hf
  refine tri_of [some (.ref this), some (.int a1), some (.int a2), none] (plainFor_of_name rfl) rfl (Nat.le_of_ble_eq_true rfl) ?_
  refine go_aload_n 0 dX11_soon_0 rfl rfl ?_
  refine go_fR fl_X11_30 dX11_soon_1 h0 (by decide) rfl ?_
  refine go_iload_n 1 dX11_soon_4 rfl rfl ?_
  obtain ⟨r10, σ11, q12, hf⟩ := bnd_some hf
  refine go_Vi (av := [.int a1]) (rest := []) (t_X0_hasStool hs (hs.1 _ 11 2 h0 rfl) q12) ok_X0_hasStool ml_X11_157 dX11_soon_5 (hs.1 _ 11 2 h0 rfl) rfl rfl (by decide) (Nat.le_refl _) (Nat.le_refl _) (Nat.le_of_ble_eq_true rfl) ?_
  refine go_if_eq 22 dX11_soon_8 (by decide) (fun c13 => ?_) (fun c13 => ?_)
  · replace hf := (if_pos c13).symm.trans hf
    refine go_msk [false, false, false, false] [none, none, none, none] rfl ?_
    exact w_X11_soon_22 hs h0 σ11 hf
  · replace hf := (if_neg c13).symm.trans hf
    refine go_aload_n 0 dX11_soon_11 rfl rfl ?_
    refine go_fR fl_X11_30 dX11_soon_12 h0 (by decide) rfl ?_
    refine go_iload_n 2 dX11_soon_15 rfl rfl ?_
    obtain ⟨r14, σ15, q16, hf⟩ := bnd_some hf
    refine go_Vi (av := [.int a2]) (rest := []) (t_X0_hasHearth hs (hs.1 _ 11 2 h0 rfl) q16) ok_X0_hasHearth ml_X11_135 dX11_soon_16 (hs.1 _ 11 2 h0 rfl) rfl rfl (by decide) (Nat.le_refl _) (Nat.le_refl _) (Nat.le_of_ble_eq_true rfl) ?_
    refine go_if_ne 24 dX11_soon_19 (by decide) (fun c17 => ?_) (fun c17 => ?_)
    · replace hf := (if_neg c17).symm.trans hf
      refine go_aload_n 0 dX11_soon_24 rfl rfl ?_
      refine go_fR fl_X11_44 dX11_soon_25 h0 (by decide) rfl ?_
      refine go_aload_n 0 dX11_soon_28 rfl rfl ?_
      refine go_fR fl_X11_40 dX11_soon_29 h0 (by decide) rfl ?_
      obtain ⟨r18, σ19, q20, hf⟩ := bnd_some hf
      refine go_Vv (av := [.ref (ρ this 4)]) (rest := []) (t_X9_copy hs (hs.1 _ 11 5 h0 rfl) (hs.1 _ 11 4 h0 rfl) q20) ok_X9_copy ml_X11_332 dX11_soon_32 (hs.1 _ 11 5 h0 rfl) rfl rfl (by decide) (Nat.le_refl _) (Nat.le_refl _) (Nat.le_of_ble_eq_true rfl) ?_
      refine go_iconst 0 dX11_soon_35 (by decide) ?_
      refine go_istore_n 3 [some (.ref this), some (.int a1), some (.int a2), some (.int 0)] dX11_soon_36 rfl (by decide) rfl ?_
      exact w_X11_soon_37 hs h0 N 0 σ19 hf
    · replace hf := (if_pos c17).symm.trans hf
      refine go_msk [false, false, false, false] [none, none, none, none] rfl ?_
      exact w_X11_soon_22 hs h0 σ15 hf
def f_X11_isAhead_15 (N : Nat) (ρ : Nat → Nat → Nat) (this : Nat) (a1 : Int32) (s0 : Int32) (σ : St) : Option (Int32 × St) :=
  gd (bb s0) <|
  some (s0, σ)
def f_X11_isAhead_14 (N : Nat) (ρ : Nat → Nat → Nat) (this : Nat) (a1 : Int32) (σ : St) : Option (Int32 × St) :=
  f_X11_isAhead_15 N ρ this a1 0 σ
def f_X11_isAhead (N : Nat) (ρ : Nat → Nat → Nat) (this : Nat) (a1 : Int32) (σ : St) : Option (Int32 × St) :=
  if (a1 : Int32) < 0 then
    f_X11_isAhead_14 N ρ this a1 σ
  else
    if 60 < (a1 : Int32) then
      f_X11_isAhead_14 N ρ this a1 σ
    else
      f_X11_isAhead_15 N ρ this a1 1 σ
set_option maxRecDepth 100000 in
set_option maxHeartbeats 4000000 in
theorem w_X11_isAhead_15 {N : Nat} {Γ : SG} {ρ : Nat → Nat → Nat} (hs : Sh Γ ρ) {this : Nat} {a1 : Int32} (h0 : Γ[this]? = some (0, 11)) {n0 : Nat} {r : Int32} {σr : St} (s0 : Int32) (σ : St) (hf : f_X11_isAhead_15 N ρ this a1 s0 σ = some (r, σr)) : Go mX11_isAhead 0 0 0 n0 (Ki Γ ρ r σr) 0 0 15 [none, none] [.int s0] (hp Γ ρ σ) := by
  unfold f_X11_isAhead_15 at hf
  obtain ⟨g1, hf⟩ := gd_some hf
  cases hf
  exact go_zret rfl (bb_of g1) dX11_isAhead_15 (Nat.le_refl _) ⟨rfl, rfl⟩
set_option maxRecDepth 100000 in
set_option maxHeartbeats 4000000 in
theorem w_X11_isAhead_14 {N : Nat} {Γ : SG} {ρ : Nat → Nat → Nat} (hs : Sh Γ ρ) {this : Nat} {a1 : Int32} (h0 : Γ[this]? = some (0, 11)) {n0 : Nat} {r : Int32} {σr : St} (σ : St) (hf : f_X11_isAhead_14 N ρ this a1 σ = some (r, σr)) : Go mX11_isAhead 0 0 0 n0 (Ki Γ ρ r σr) 0 0 14 [none, none] [] (hp Γ ρ σ) := by
  unfold f_X11_isAhead_14 at hf
  refine go_iconst 0 dX11_isAhead_14 (by decide) ?_
  exact w_X11_isAhead_15 hs h0 0 σ hf
set_option maxRecDepth 100000 in
set_option maxHeartbeats 4000000 in
theorem t_X11_isAhead {N : Nat} {Γ : SG} {ρ : Nat → Nat → Nat} (hs : Sh Γ ρ) {this : Nat} {a1 : Int32} (h0 : Γ[this]? = some (0, 11)) {σ : St} {r : Int32} {σr : St} (hf : f_X11_isAhead N ρ this a1 σ = some (r, σr)) : Tri mX11_isAhead 0 0 0 [.ref this, .int a1] (hp Γ ρ σ) (Ki Γ ρ r σr) := by
  unfold f_X11_isAhead at hf
  refine tri_of [some (.ref this), some (.int a1)] (plainFor_of_name rfl) rfl (Nat.le_of_ble_eq_true rfl) ?_
  refine go_iload_n 1 dX11_isAhead_0 rfl rfl ?_
  refine go_if_lt 14 dX11_isAhead_1 (by decide) (fun c2 => ?_) (fun c2 => ?_)
  · replace hf := (if_pos c2).symm.trans hf
    refine go_msk [false, false] [none, none] rfl ?_
    exact w_X11_isAhead_14 hs h0 σ hf
  · replace hf := (if_neg c2).symm.trans hf
    refine go_iload_n 1 dX11_isAhead_4 rfl rfl ?_
    refine go_bipush 60 dX11_isAhead_5 (by decide) ?_
    refine go_icmp_gt 14 dX11_isAhead_7 (by decide) (fun c3 => ?_) (fun c3 => ?_)
    · replace hf := (if_pos c3).symm.trans hf
      refine go_msk [false, false] [none, none] rfl ?_
      exact w_X11_isAhead_14 hs h0 σ hf
    · replace hf := (if_neg c3).symm.trans hf
      refine go_iconst 1 dX11_isAhead_10 (by decide) ?_
      refine go_goto 15 dX11_isAhead_11 (by decide) ?_
      refine go_msk [false, false] [none, none] rfl ?_
      exact w_X11_isAhead_15 hs h0 1 σ hf
def f_X11_will_19 (N : Nat) (ρ : Nat → Nat → Nat) (this : Nat) (a1 : Int32) (a2 : Int32) (σ : St) : Option (Int32 × St) :=
  some ((-1), σ)
def b_X11_will_34 (N : Nat) (ρ : Nat → Nat → Nat) (this : Nat) (a1 : Int32) (a2 : Int32) (rec34 : Int32 → St → Option (Int32 × St)) (x3 : Int32) (σ : St) : Option (Int32 × St) :=
  if a2 ≤ (x3 : Int32) then
    gd (ib a1 5) <|
    some (σ.1 (ρ (ρ this 5) 2) a1.toNatClampNeg, σ)
  else
    bnd (f_X9_drawCold N ρ (ρ this 5) (ρ this 2) σ) fun r3 σ4 =>
    bnd (f_X9_passEvening N ρ (ρ this 5) (ρ this 2) r3 σ4) fun _ σ7 =>
    rec34 (x3 + 1) σ7
def f_X11_will_34 (N : Nat) (ρ : Nat → Nat → Nat) (this : Nat) (a1 : Int32) (a2 : Int32) : Nat → Int32 → St → Option (Int32 × St)
  | 0, _, _ => none
  | n + 1, x3, σ => b_X11_will_34 N ρ this a1 a2 (f_X11_will_34 N ρ this a1 a2 n) x3 σ
def f_X11_will (N : Nat) (ρ : Nat → Nat → Nat) (this : Nat) (a1 : Int32) (a2 : Int32) (σ : St) : Option (Int32 × St) :=
  bnd (f_X0_hasStool N ρ (ρ this 2) a1 σ) fun r9 σ10 =>
  if (r9 : Int32) = 0 then
    f_X11_will_19 N ρ this a1 a2 σ10
  else
    bnd (f_X11_isAhead N ρ this a2 σ10) fun r13 σ14 =>
    if (r13 : Int32) = 0 then
      f_X11_will_19 N ρ this a1 a2 σ14
    else
      bnd (f_X9_copy N ρ (ρ this 5) (ρ this 4) σ14) fun _ σ18 =>
      f_X11_will_34 N ρ this a1 a2 N 0 σ18
set_option maxRecDepth 100000 in
set_option maxHeartbeats 4000000 in
theorem w_X11_will_19 {N : Nat} {Γ : SG} {ρ : Nat → Nat → Nat} (hs : Sh Γ ρ) {this : Nat} {a1 : Int32} {a2 : Int32} (h0 : Γ[this]? = some (0, 11)) {n0 : Nat} {r : Int32} {σr : St} (σ : St) (hf : f_X11_will_19 N ρ this a1 a2 σ = some (r, σr)) : Go mX11_will 5 0 0 n0 (Ki Γ ρ r σr) 0 0 19 [none, none, none, none, none] [] (hp Γ ρ σ) := by
  unfold f_X11_will_19 at hf
  refine go_iconst (-1) dX11_will_19 (by decide) ?_
  cases hf
  exact go_iret rfl dX11_will_20 (Nat.le_refl _) ⟨rfl, rfl⟩
set_option maxRecDepth 100000 in
set_option maxHeartbeats 4000000 in
theorem v_X11_will_34 {N : Nat} {Γ : SG} {ρ : Nat → Nat → Nat} (hs : Sh Γ ρ) {this : Nat} {a1 : Int32} {a2 : Int32} (h0 : Γ[this]? = some (0, 11)) {n0 : Nat} {r : Int32} {σr : St} (rec34 : Int32 → St → Option (Int32 × St)) (hrec34 : ∀ (x3 : Int32) (σ : St), rec34 x3 σ = some (r, σr) → Go mX11_will 5 0 0 n0 (Ki Γ ρ r σr) 0 0 34 [some (.ref this), some (.int a1), some (.int a2), some (.int x3), none] [] (hp Γ ρ σ)) (x3 : Int32) (σ : St) (hf : b_X11_will_34 N ρ this a1 a2 rec34 x3 σ = some (r, σr)) : Go mX11_will 5 0 0 n0 (Ki Γ ρ r σr) 0 0 34 [some (.ref this), some (.int a1), some (.int a2), some (.int x3), none] [] (hp Γ ρ σ) := by
  unfold b_X11_will_34 at hf
  refine go_iload_n 3 dX11_will_34 rfl rfl ?_
  refine go_iload_n 2 dX11_will_35 rfl rfl ?_
  refine go_icmp_ge 71 dX11_will_36 (by decide) (fun c1 => ?_) (fun c1 => ?_)
  · replace hf := (if_pos c1).symm.trans hf
    refine go_aload_n 0 dX11_will_71 rfl rfl ?_
    refine go_fR fl_X11_44 dX11_will_72 h0 (by decide) rfl ?_
    refine go_fR fl_X11_172 dX11_will_75 (hs.1 _ 11 5 h0 rfl) (by decide) rfl ?_
    refine go_iload_n 1 dX11_will_78 rfl rfl ?_
    obtain ⟨g2, hf⟩ := gd_some hf
    refine go_rI dX11_will_79 (hs.1 _ 9 2 (hs.1 _ 11 5 h0 rfl) rfl) (ib_in g2) ?_
    cases hf
    exact go_iret rfl dX11_will_80 (Nat.le_refl _) ⟨rfl, rfl⟩
  · replace hf := (if_neg c1).symm.trans hf
    refine go_aload_n 0 dX11_will_39 rfl rfl ?_
    refine go_fR fl_X11_44 dX11_will_40 h0 (by decide) rfl ?_
    refine go_aload_n 0 dX11_will_43 rfl rfl ?_
    refine go_fR fl_X11_30 dX11_will_44 h0 (by decide) rfl ?_
    obtain ⟨r3, σ4, q5, hf⟩ := bnd_some hf
    refine go_Vi (av := [.ref (ρ this 2)]) (rest := []) (t_X9_drawCold hs (hs.1 _ 11 5 h0 rfl) (hs.1 _ 11 2 h0 rfl) q5) ok_X9_drawCold ml_X11_255 dX11_will_47 (hs.1 _ 11 5 h0 rfl) rfl rfl (by decide) (Nat.le_refl _) (Nat.le_refl _) (Nat.le_of_ble_eq_true rfl) ?_
    refine go_istore [some (.ref this), some (.int a1), some (.int a2), some (.int x3), some (.int r3)] dX11_will_50 (by decide) rfl ?_
    refine go_aload_n 0 dX11_will_52 rfl rfl ?_
    refine go_fR fl_X11_44 dX11_will_53 h0 (by decide) rfl ?_
    refine go_aload_n 0 dX11_will_56 rfl rfl ?_
    refine go_fR fl_X11_30 dX11_will_57 h0 (by decide) rfl ?_
    refine go_iload dX11_will_60 rfl ?_
    obtain ⟨r6, σ7, q8, hf⟩ := bnd_some hf
    refine go_Vv (av := [.ref (ρ this 2), .int r3]) (rest := []) (t_X9_passEvening hs (hs.1 _ 11 5 h0 rfl) (hs.1 _ 11 2 h0 rfl) q8) ok_X9_passEvening ml_X11_258 dX11_will_62 (hs.1 _ 11 5 h0 rfl) rfl rfl (by decide) (Nat.le_refl _) (Nat.le_refl _) (Nat.le_of_ble_eq_true rfl) ?_
    refine go_iinc (x3 + 1) [some (.ref this), some (.int a1), some (.int a2), some (.int (x3 + 1)), some (.int r3)] dX11_will_65 rfl rfl (by decide) rfl ?_
    refine go_goto 34 dX11_will_68 (by decide) ?_
    refine go_msk [true, true, true, true, false] [some (.ref this), some (.int a1), some (.int a2), some (.int (x3 + 1)), none] rfl ?_
    exact hrec34 (x3 + 1) σ7 hf
theorem w_X11_will_34 {N : Nat} {Γ : SG} {ρ : Nat → Nat → Nat} (hs : Sh Γ ρ) {this : Nat} {a1 : Int32} {a2 : Int32} (h0 : Γ[this]? = some (0, 11)) {n0 : Nat} {r : Int32} {σr : St} : ∀ (n : Nat) (x3 : Int32) (σ : St), f_X11_will_34 N ρ this a1 a2 n x3 σ = some (r, σr) → Go mX11_will 5 0 0 n0 (Ki Γ ρ r σr) 0 0 34 [some (.ref this), some (.int a1), some (.int a2), some (.int x3), none] [] (hp Γ ρ σ) := by
  intro n
  induction n with
  | zero => intro x3 σ hf; cases hf
  | succ n ih => intro x3 σ hf; exact v_X11_will_34 hs h0 _ ih x3 σ hf
set_option maxRecDepth 100000 in
set_option maxHeartbeats 4000000 in
theorem t_X11_will {N : Nat} {Γ : SG} {ρ : Nat → Nat → Nat} (hs : Sh Γ ρ) {this : Nat} {a1 : Int32} {a2 : Int32} (h0 : Γ[this]? = some (0, 11)) {σ : St} {r : Int32} {σr : St} (hf : f_X11_will N ρ this a1 a2 σ = some (r, σr)) : Tri mX11_will 5 0 0 [.ref this, .int a1, .int a2] (hp Γ ρ σ) (Ki Γ ρ r σr) := by
  unfold f_X11_will at hf
  refine tri_of [some (.ref this), some (.int a1), some (.int a2), none, none] (plainFor_of_name rfl) rfl (Nat.le_of_ble_eq_true rfl) ?_
  refine go_aload_n 0 dX11_will_0 rfl rfl ?_
  refine go_fR fl_X11_30 dX11_will_1 h0 (by decide) rfl ?_
  refine go_iload_n 1 dX11_will_4 rfl rfl ?_
  obtain ⟨r9, σ10, q11, hf⟩ := bnd_some hf
  refine go_Vi (av := [.int a1]) (rest := []) (t_X0_hasStool hs (hs.1 _ 11 2 h0 rfl) q11) ok_X0_hasStool ml_X11_157 dX11_will_5 (hs.1 _ 11 2 h0 rfl) rfl rfl (by decide) (Nat.le_refl _) (Nat.le_refl _) (Nat.le_of_ble_eq_true rfl) ?_
  refine go_if_eq 19 dX11_will_8 (by decide) (fun c12 => ?_) (fun c12 => ?_)
  · replace hf := (if_pos c12).symm.trans hf
    refine go_msk [false, false, false, false, false] [none, none, none, none, none] rfl ?_
    exact w_X11_will_19 hs h0 σ10 hf
  · replace hf := (if_neg c12).symm.trans hf
    refine go_aload_n 0 dX11_will_11 rfl rfl ?_
    refine go_iload_n 2 dX11_will_12 rfl rfl ?_
    obtain ⟨r13, σ14, q15, hf⟩ := bnd_some hf
    refine go_Vi (av := [.int a2]) (rest := []) (t_X11_isAhead hs h0 q15) ok_X11_isAhead ml_X11_339 dX11_will_13 h0 rfl rfl (by decide) (Nat.le_refl _) (Nat.le_refl _) (Nat.le_of_ble_eq_true rfl) ?_
    refine go_if_ne 21 dX11_will_16 (by decide) (fun c16 => ?_) (fun c16 => ?_)
    · replace hf := (if_neg c16).symm.trans hf
      refine go_aload_n 0 dX11_will_21 rfl rfl ?_
      refine go_fR fl_X11_44 dX11_will_22 h0 (by decide) rfl ?_
      refine go_aload_n 0 dX11_will_25 rfl rfl ?_
      refine go_fR fl_X11_40 dX11_will_26 h0 (by decide) rfl ?_
      obtain ⟨r17, σ18, q19, hf⟩ := bnd_some hf
      refine go_Vv (av := [.ref (ρ this 4)]) (rest := []) (t_X9_copy hs (hs.1 _ 11 5 h0 rfl) (hs.1 _ 11 4 h0 rfl) q19) ok_X9_copy ml_X11_332 dX11_will_29 (hs.1 _ 11 5 h0 rfl) rfl rfl (by decide) (Nat.le_refl _) (Nat.le_refl _) (Nat.le_of_ble_eq_true rfl) ?_
      refine go_iconst 0 dX11_will_32 (by decide) ?_
      refine go_istore_n 3 [some (.ref this), some (.int a1), some (.int a2), some (.int 0), none] dX11_will_33 rfl (by decide) rfl ?_
      exact w_X11_will_34 hs h0 N 0 σ18 hf
    · replace hf := (if_pos c16).symm.trans hf
      refine go_msk [false, false, false, false, false] [none, none, none, none, none] rfl ?_
      exact w_X11_will_19 hs h0 σ14 hf
def f_X11_strength_19 (N : Nat) (ρ : Nat → Nat → Nat) (this : Nat) (a1 : Int32) (a2 : Int32) (σ : St) : Option (Int32 × St) :=
  some ((-1), σ)
def b_X11_strength_34 (N : Nat) (ρ : Nat → Nat → Nat) (this : Nat) (a1 : Int32) (a2 : Int32) (rec34 : Int32 → St → Option (Int32 × St)) (x3 : Int32) (σ : St) : Option (Int32 × St) :=
  if a2 ≤ (x3 : Int32) then
    gd (ib a1 5) <|
    some (σ.1 (ρ (ρ this 5) 0) a1.toNatClampNeg, σ)
  else
    bnd (f_X9_passEvening N ρ (ρ this 5) (ρ this 2) 0 σ) fun _ σ4 =>
    rec34 (x3 + 1) σ4
def f_X11_strength_34 (N : Nat) (ρ : Nat → Nat → Nat) (this : Nat) (a1 : Int32) (a2 : Int32) : Nat → Int32 → St → Option (Int32 × St)
  | 0, _, _ => none
  | n + 1, x3, σ => b_X11_strength_34 N ρ this a1 a2 (f_X11_strength_34 N ρ this a1 a2 n) x3 σ
def f_X11_strength (N : Nat) (ρ : Nat → Nat → Nat) (this : Nat) (a1 : Int32) (a2 : Int32) (σ : St) : Option (Int32 × St) :=
  bnd (f_X0_hasStool N ρ (ρ this 2) a1 σ) fun r6 σ7 =>
  if (r6 : Int32) = 0 then
    f_X11_strength_19 N ρ this a1 a2 σ7
  else
    bnd (f_X11_isAhead N ρ this a2 σ7) fun r10 σ11 =>
    if (r10 : Int32) = 0 then
      f_X11_strength_19 N ρ this a1 a2 σ11
    else
      bnd (f_X9_copy N ρ (ρ this 5) (ρ this 4) σ11) fun _ σ15 =>
      f_X11_strength_34 N ρ this a1 a2 N 0 σ15
set_option maxRecDepth 100000 in
set_option maxHeartbeats 4000000 in
theorem w_X11_strength_19 {N : Nat} {Γ : SG} {ρ : Nat → Nat → Nat} (hs : Sh Γ ρ) {this : Nat} {a1 : Int32} {a2 : Int32} (h0 : Γ[this]? = some (0, 11)) {n0 : Nat} {r : Int32} {σr : St} (σ : St) (hf : f_X11_strength_19 N ρ this a1 a2 σ = some (r, σr)) : Go mX11_strength 5 0 0 n0 (Ki Γ ρ r σr) 0 0 19 [none, none, none, none] [] (hp Γ ρ σ) := by
  unfold f_X11_strength_19 at hf
  refine go_iconst (-1) dX11_strength_19 (by decide) ?_
  cases hf
  exact go_iret rfl dX11_strength_20 (Nat.le_refl _) ⟨rfl, rfl⟩
set_option maxRecDepth 100000 in
set_option maxHeartbeats 4000000 in
theorem v_X11_strength_34 {N : Nat} {Γ : SG} {ρ : Nat → Nat → Nat} (hs : Sh Γ ρ) {this : Nat} {a1 : Int32} {a2 : Int32} (h0 : Γ[this]? = some (0, 11)) {n0 : Nat} {r : Int32} {σr : St} (rec34 : Int32 → St → Option (Int32 × St)) (hrec34 : ∀ (x3 : Int32) (σ : St), rec34 x3 σ = some (r, σr) → Go mX11_strength 5 0 0 n0 (Ki Γ ρ r σr) 0 0 34 [some (.ref this), some (.int a1), some (.int a2), some (.int x3)] [] (hp Γ ρ σ)) (x3 : Int32) (σ : St) (hf : b_X11_strength_34 N ρ this a1 a2 rec34 x3 σ = some (r, σr)) : Go mX11_strength 5 0 0 n0 (Ki Γ ρ r σr) 0 0 34 [some (.ref this), some (.int a1), some (.int a2), some (.int x3)] [] (hp Γ ρ σ) := by
  unfold b_X11_strength_34 at hf
  refine go_iload_n 3 dX11_strength_34 rfl rfl ?_
  refine go_iload_n 2 dX11_strength_35 rfl rfl ?_
  refine go_icmp_ge 57 dX11_strength_36 (by decide) (fun c1 => ?_) (fun c1 => ?_)
  · replace hf := (if_pos c1).symm.trans hf
    refine go_aload_n 0 dX11_strength_57 rfl rfl ?_
    refine go_fR fl_X11_44 dX11_strength_58 h0 (by decide) rfl ?_
    refine go_fR fl_X11_163 dX11_strength_61 (hs.1 _ 11 5 h0 rfl) (by decide) rfl ?_
    refine go_iload_n 1 dX11_strength_64 rfl rfl ?_
    obtain ⟨g2, hf⟩ := gd_some hf
    refine go_rI dX11_strength_65 (hs.1 _ 9 0 (hs.1 _ 11 5 h0 rfl) rfl) (ib_in g2) ?_
    cases hf
    exact go_iret rfl dX11_strength_66 (Nat.le_refl _) ⟨rfl, rfl⟩
  · replace hf := (if_neg c1).symm.trans hf
    refine go_aload_n 0 dX11_strength_39 rfl rfl ?_
    refine go_fR fl_X11_44 dX11_strength_40 h0 (by decide) rfl ?_
    refine go_aload_n 0 dX11_strength_43 rfl rfl ?_
    refine go_fR fl_X11_30 dX11_strength_44 h0 (by decide) rfl ?_
    refine go_iconst 0 dX11_strength_47 (by decide) ?_
    obtain ⟨r3, σ4, q5, hf⟩ := bnd_some hf
    refine go_Vv (av := [.ref (ρ this 2), .int 0]) (rest := []) (t_X9_passEvening hs (hs.1 _ 11 5 h0 rfl) (hs.1 _ 11 2 h0 rfl) q5) ok_X9_passEvening ml_X11_258 dX11_strength_48 (hs.1 _ 11 5 h0 rfl) rfl rfl (by decide) (Nat.le_refl _) (Nat.le_refl _) (Nat.le_of_ble_eq_true rfl) ?_
    refine go_iinc (x3 + 1) [some (.ref this), some (.int a1), some (.int a2), some (.int (x3 + 1))] dX11_strength_51 rfl rfl (by decide) rfl ?_
    refine go_goto 34 dX11_strength_54 (by decide) ?_
    exact hrec34 (x3 + 1) σ4 hf
theorem w_X11_strength_34 {N : Nat} {Γ : SG} {ρ : Nat → Nat → Nat} (hs : Sh Γ ρ) {this : Nat} {a1 : Int32} {a2 : Int32} (h0 : Γ[this]? = some (0, 11)) {n0 : Nat} {r : Int32} {σr : St} : ∀ (n : Nat) (x3 : Int32) (σ : St), f_X11_strength_34 N ρ this a1 a2 n x3 σ = some (r, σr) → Go mX11_strength 5 0 0 n0 (Ki Γ ρ r σr) 0 0 34 [some (.ref this), some (.int a1), some (.int a2), some (.int x3)] [] (hp Γ ρ σ) := by
  intro n
  induction n with
  | zero => intro x3 σ hf; cases hf
  | succ n ih => intro x3 σ hf; exact v_X11_strength_34 hs h0 _ ih x3 σ hf
set_option maxRecDepth 100000 in
set_option maxHeartbeats 4000000 in
theorem t_X11_strength {N : Nat} {Γ : SG} {ρ : Nat → Nat → Nat} (hs : Sh Γ ρ) {this : Nat} {a1 : Int32} {a2 : Int32} (h0 : Γ[this]? = some (0, 11)) {σ : St} {r : Int32} {σr : St} (hf : f_X11_strength N ρ this a1 a2 σ = some (r, σr)) : Tri mX11_strength 5 0 0 [.ref this, .int a1, .int a2] (hp Γ ρ σ) (Ki Γ ρ r σr) := by
  unfold f_X11_strength at hf
  refine tri_of [some (.ref this), some (.int a1), some (.int a2), none] (plainFor_of_name rfl) rfl (Nat.le_of_ble_eq_true rfl) ?_
  refine go_aload_n 0 dX11_strength_0 rfl rfl ?_
  refine go_fR fl_X11_30 dX11_strength_1 h0 (by decide) rfl ?_
  refine go_iload_n 1 dX11_strength_4 rfl rfl ?_
  obtain ⟨r6, σ7, q8, hf⟩ := bnd_some hf
  refine go_Vi (av := [.int a1]) (rest := []) (t_X0_hasStool hs (hs.1 _ 11 2 h0 rfl) q8) ok_X0_hasStool ml_X11_157 dX11_strength_5 (hs.1 _ 11 2 h0 rfl) rfl rfl (by decide) (Nat.le_refl _) (Nat.le_refl _) (Nat.le_of_ble_eq_true rfl) ?_
  refine go_if_eq 19 dX11_strength_8 (by decide) (fun c9 => ?_) (fun c9 => ?_)
  · replace hf := (if_pos c9).symm.trans hf
    refine go_msk [false, false, false, false] [none, none, none, none] rfl ?_
    exact w_X11_strength_19 hs h0 σ7 hf
  · replace hf := (if_neg c9).symm.trans hf
    refine go_aload_n 0 dX11_strength_11 rfl rfl ?_
    refine go_iload_n 2 dX11_strength_12 rfl rfl ?_
    obtain ⟨r10, σ11, q12, hf⟩ := bnd_some hf
    refine go_Vi (av := [.int a2]) (rest := []) (t_X11_isAhead hs h0 q12) ok_X11_isAhead ml_X11_339 dX11_strength_13 h0 rfl rfl (by decide) (Nat.le_refl _) (Nat.le_refl _) (Nat.le_of_ble_eq_true rfl) ?_
    refine go_if_ne 21 dX11_strength_16 (by decide) (fun c13 => ?_) (fun c13 => ?_)
    · replace hf := (if_neg c13).symm.trans hf
      refine go_aload_n 0 dX11_strength_21 rfl rfl ?_
      refine go_fR fl_X11_44 dX11_strength_22 h0 (by decide) rfl ?_
      refine go_aload_n 0 dX11_strength_25 rfl rfl ?_
      refine go_fR fl_X11_40 dX11_strength_26 h0 (by decide) rfl ?_
      obtain ⟨r14, σ15, q16, hf⟩ := bnd_some hf
      refine go_Vv (av := [.ref (ρ this 4)]) (rest := []) (t_X9_copy hs (hs.1 _ 11 5 h0 rfl) (hs.1 _ 11 4 h0 rfl) q16) ok_X9_copy ml_X11_332 dX11_strength_29 (hs.1 _ 11 5 h0 rfl) rfl rfl (by decide) (Nat.le_refl _) (Nat.le_refl _) (Nat.le_of_ble_eq_true rfl) ?_
      refine go_iconst 0 dX11_strength_32 (by decide) ?_
      refine go_istore_n 3 [some (.ref this), some (.int a1), some (.int a2), some (.int 0)] dX11_strength_33 rfl (by decide) rfl ?_
      exact w_X11_strength_34 hs h0 N 0 σ15 hf
    · replace hf := (if_pos c13).symm.trans hf
      refine go_msk [false, false, false, false] [none, none, none, none] rfl ?_
      exact w_X11_strength_19 hs h0 σ11 hf
def b_X11_grace_13 (N : Nat) (ρ : Nat → Nat → Nat) (this : Nat) (rec13 : Int32 → St → Option (Int32 × St)) (x1 : Int32) (σ : St) : Option (Int32 × St) :=
  if 60 < (x1 : Int32) then
    some ((-1), σ)
  else
    bnd (f_X9_savedBits N ρ (ρ this 5) (ρ this 2) σ) fun r2 σ3 =>
    bnd (f_X0_allStools N ρ (ρ this 2) σ3) fun r5 σ6 =>
    if (r2 : Int32) = r5 then
      some (x1, σ6)
    else
      bnd (f_X9_passEvening N ρ (ρ this 5) (ρ this 2) 0 σ6) fun _ σ10 =>
      rec13 (x1 + 1) σ10
def f_X11_grace_13 (N : Nat) (ρ : Nat → Nat → Nat) (this : Nat) : Nat → Int32 → St → Option (Int32 × St)
  | 0, _, _ => none
  | n + 1, x1, σ => b_X11_grace_13 N ρ this (f_X11_grace_13 N ρ this n) x1 σ
def f_X11_grace (N : Nat) (ρ : Nat → Nat → Nat) (this : Nat) (σ : St) : Option (Int32 × St) :=
  bnd (f_X9_copy N ρ (ρ this 5) (ρ this 4) σ) fun _ σ13 =>
  f_X11_grace_13 N ρ this N 0 σ13
set_option maxRecDepth 100000 in
set_option maxHeartbeats 4000000 in
theorem v_X11_grace_13 {N : Nat} {Γ : SG} {ρ : Nat → Nat → Nat} (hs : Sh Γ ρ) {this : Nat} (h0 : Γ[this]? = some (0, 11)) {n0 : Nat} {r : Int32} {σr : St} (rec13 : Int32 → St → Option (Int32 × St)) (hrec13 : ∀ (x1 : Int32) (σ : St), rec13 x1 σ = some (r, σr) → Go mX11_grace 5 0 0 n0 (Ki Γ ρ r σr) 0 0 13 [some (.ref this), some (.int x1)] [] (hp Γ ρ σ)) (x1 : Int32) (σ : St) (hf : b_X11_grace_13 N ρ this rec13 x1 σ = some (r, σr)) : Go mX11_grace 5 0 0 n0 (Ki Γ ρ r σr) 0 0 13 [some (.ref this), some (.int x1)] [] (hp Γ ρ σ) := by
  unfold b_X11_grace_13 at hf
  refine go_iload_n 1 dX11_grace_13 rfl rfl ?_
  refine go_bipush 60 dX11_grace_14 (by decide) ?_
  refine go_icmp_gt 60 dX11_grace_16 (by decide) (fun c1 => ?_) (fun c1 => ?_)
  · replace hf := (if_pos c1).symm.trans hf
    refine go_iconst (-1) dX11_grace_60 (by decide) ?_
    cases hf
    exact go_iret rfl dX11_grace_61 (Nat.le_refl _) ⟨rfl, rfl⟩
  · replace hf := (if_neg c1).symm.trans hf
    refine go_aload_n 0 dX11_grace_19 rfl rfl ?_
    refine go_fR fl_X11_44 dX11_grace_20 h0 (by decide) rfl ?_
    refine go_aload_n 0 dX11_grace_23 rfl rfl ?_
    refine go_fR fl_X11_30 dX11_grace_24 h0 (by decide) rfl ?_
    obtain ⟨r2, σ3, q4, hf⟩ := bnd_some hf
    refine go_Vi (av := [.ref (ρ this 2)]) (rest := []) (t_X9_savedBits hs (hs.1 _ 11 5 h0 rfl) (hs.1 _ 11 2 h0 rfl) q4) ok_X9_savedBits ml_X11_209 dX11_grace_27 (hs.1 _ 11 5 h0 rfl) rfl rfl (by decide) (Nat.le_refl _) (Nat.le_refl _) (Nat.le_of_ble_eq_true rfl) ?_
    refine go_aload_n 0 dX11_grace_30 rfl rfl ?_
    refine go_fR fl_X11_30 dX11_grace_31 h0 (by decide) rfl ?_
    obtain ⟨r5, σ6, q7, hf⟩ := bnd_some hf
    refine go_Vi (av := []) (rest := [.int r2]) (t_X0_allStools hs (hs.1 _ 11 2 h0 rfl) q7) ok_X0_allStools ml_X11_311 dX11_grace_34 (hs.1 _ 11 2 h0 rfl) rfl rfl (by decide) (Nat.le_refl _) (Nat.le_refl _) (Nat.le_of_ble_eq_true rfl) ?_
    refine go_icmp_ne 42 dX11_grace_37 (by decide) (fun c8 => ?_) (fun c8 => ?_)
    · replace hf := (if_neg c8).symm.trans hf
      refine go_aload_n 0 dX11_grace_42 rfl rfl ?_
      refine go_fR fl_X11_44 dX11_grace_43 h0 (by decide) rfl ?_
      refine go_aload_n 0 dX11_grace_46 rfl rfl ?_
      refine go_fR fl_X11_30 dX11_grace_47 h0 (by decide) rfl ?_
      refine go_iconst 0 dX11_grace_50 (by decide) ?_
      obtain ⟨r9, σ10, q11, hf⟩ := bnd_some hf
      refine go_Vv (av := [.ref (ρ this 2), .int 0]) (rest := []) (t_X9_passEvening hs (hs.1 _ 11 5 h0 rfl) (hs.1 _ 11 2 h0 rfl) q11) ok_X9_passEvening ml_X11_258 dX11_grace_51 (hs.1 _ 11 5 h0 rfl) rfl rfl (by decide) (Nat.le_refl _) (Nat.le_refl _) (Nat.le_of_ble_eq_true rfl) ?_
      refine go_iinc (x1 + 1) [some (.ref this), some (.int (x1 + 1))] dX11_grace_54 rfl rfl (by decide) rfl ?_
      refine go_goto 13 dX11_grace_57 (by decide) ?_
      exact hrec13 (x1 + 1) σ10 hf
    · replace hf := (if_pos c8).symm.trans hf
      refine go_iload_n 1 dX11_grace_40 rfl rfl ?_
      cases hf
      exact go_iret rfl dX11_grace_41 (Nat.le_refl _) ⟨rfl, rfl⟩
theorem w_X11_grace_13 {N : Nat} {Γ : SG} {ρ : Nat → Nat → Nat} (hs : Sh Γ ρ) {this : Nat} (h0 : Γ[this]? = some (0, 11)) {n0 : Nat} {r : Int32} {σr : St} : ∀ (n : Nat) (x1 : Int32) (σ : St), f_X11_grace_13 N ρ this n x1 σ = some (r, σr) → Go mX11_grace 5 0 0 n0 (Ki Γ ρ r σr) 0 0 13 [some (.ref this), some (.int x1)] [] (hp Γ ρ σ) := by
  intro n
  induction n with
  | zero => intro x1 σ hf; cases hf
  | succ n ih => intro x1 σ hf; exact v_X11_grace_13 hs h0 _ ih x1 σ hf
set_option maxRecDepth 100000 in
set_option maxHeartbeats 4000000 in
theorem t_X11_grace {N : Nat} {Γ : SG} {ρ : Nat → Nat → Nat} (hs : Sh Γ ρ) {this : Nat} (h0 : Γ[this]? = some (0, 11)) {σ : St} {r : Int32} {σr : St} (hf : f_X11_grace N ρ this σ = some (r, σr)) : Tri mX11_grace 5 0 0 [.ref this] (hp Γ ρ σ) (Ki Γ ρ r σr) := by
  unfold f_X11_grace at hf
  refine tri_of [some (.ref this), none] (plainFor_of_name rfl) rfl (Nat.le_of_ble_eq_true rfl) ?_
  refine go_aload_n 0 dX11_grace_0 rfl rfl ?_
  refine go_fR fl_X11_44 dX11_grace_1 h0 (by decide) rfl ?_
  refine go_aload_n 0 dX11_grace_4 rfl rfl ?_
  refine go_fR fl_X11_40 dX11_grace_5 h0 (by decide) rfl ?_
  obtain ⟨r12, σ13, q14, hf⟩ := bnd_some hf
  refine go_Vv (av := [.ref (ρ this 4)]) (rest := []) (t_X9_copy hs (hs.1 _ 11 5 h0 rfl) (hs.1 _ 11 4 h0 rfl) q14) ok_X9_copy ml_X11_332 dX11_grace_8 (hs.1 _ 11 5 h0 rfl) rfl rfl (by decide) (Nat.le_refl _) (Nat.le_refl _) (Nat.le_of_ble_eq_true rfl) ?_
  refine go_iconst 0 dX11_grace_11 (by decide) ?_
  refine go_istore_n 1 [some (.ref this), some (.int 0)] dX11_grace_12 rfl (by decide) rfl ?_
  exact w_X11_grace_13 hs h0 N 0 σ13 hf
def f_X11_dented_25 (N : Nat) (ρ : Nat → Nat → Nat) (this : Nat) (a1 : Int32) (a2 : Int32) (a3 : Int32) (s0 : Int32) (σ : St) : Option (Int32 × St) :=
  some (s0, σ)
def f_X11_dented (N : Nat) (ρ : Nat → Nat → Nat) (this : Nat) (a1 : Int32) (a2 : Int32) (a3 : Int32) (σ : St) : Option (Int32 × St) :=
  if (σ.1 (ρ this 2) 12 : Int32) = 0 then
    f_X11_dented_25 N ρ this a1 a2 a3 (-1) σ
  else
    bnd (f_X6_tell N ρ (ρ this 11) a1 1 a2 a3 σ) fun r2 σ3 =>
    f_X11_dented_25 N ρ this a1 a2 a3 r2 σ3
set_option maxRecDepth 100000 in
set_option maxHeartbeats 4000000 in
theorem w_X11_dented_25 {N : Nat} {Γ : SG} {ρ : Nat → Nat → Nat} (hs : Sh Γ ρ) {this : Nat} {a1 : Int32} {a2 : Int32} {a3 : Int32} (h0 : Γ[this]? = some (0, 11)) {n0 : Nat} {r : Int32} {σr : St} (s0 : Int32) (σ : St) (hf : f_X11_dented_25 N ρ this a1 a2 a3 s0 σ = some (r, σr)) : Go mX11_dented 1 0 0 n0 (Ki Γ ρ r σr) 0 0 25 [none, none, none, none] [.int s0] (hp Γ ρ σ) := by
  unfold f_X11_dented_25 at hf
  cases hf
  exact go_iret rfl dX11_dented_25 (Nat.le_refl _) ⟨rfl, rfl⟩
set_option maxRecDepth 100000 in
set_option maxHeartbeats 4000000 in
theorem t_X11_dented {N : Nat} {Γ : SG} {ρ : Nat → Nat → Nat} (hs : Sh Γ ρ) {this : Nat} {a1 : Int32} {a2 : Int32} {a3 : Int32} (h0 : Γ[this]? = some (0, 11)) {σ : St} {r : Int32} {σr : St} (hf : f_X11_dented N ρ this a1 a2 a3 σ = some (r, σr)) : Tri mX11_dented 1 0 0 [.ref this, .int a1, .int a2, .int a3] (hp Γ ρ σ) (Ki Γ ρ r σr) := by
  unfold f_X11_dented at hf
  refine tri_of [some (.ref this), some (.int a1), some (.int a2), some (.int a3)] (plainFor_of_name rfl) rfl (Nat.le_of_ble_eq_true rfl) ?_
  refine go_aload_n 0 dX11_dented_0 rfl rfl ?_
  refine go_fR fl_X11_30 dX11_dented_1 h0 (by decide) rfl ?_
  refine go_fI fl_X11_132 dX11_dented_4 (hs.1 _ 11 2 h0 rfl) (by decide) rfl ?_
  refine go_if_ne 14 dX11_dented_7 (by decide) (fun c1 => ?_) (fun c1 => ?_)
  · replace hf := (if_neg c1).symm.trans hf
    refine go_aload_n 0 dX11_dented_14 rfl rfl ?_
    refine go_fR fl_X11_79 dX11_dented_15 h0 (by decide) rfl ?_
    refine go_iload_n 1 dX11_dented_18 rfl rfl ?_
    refine go_iconst 1 dX11_dented_19 (by decide) ?_
    refine go_iload_n 2 dX11_dented_20 rfl rfl ?_
    refine go_iload_n 3 dX11_dented_21 rfl rfl ?_
    obtain ⟨r2, σ3, q4, hf⟩ := bnd_some hf
    refine go_Vi (av := [.int a1, .int 1, .int a2, .int a3]) (rest := []) (t_X6_tell hs (hs.1 _ 11 11 h0 rfl) q4) ok_X6_tell ml_X11_342 dX11_dented_22 (hs.1 _ 11 11 h0 rfl) rfl rfl (by decide) (Nat.le_refl _) (Nat.le_refl _) (Nat.le_of_ble_eq_true rfl) ?_
    refine go_msk [false, false, false, false] [none, none, none, none] rfl ?_
    exact w_X11_dented_25 hs h0 r2 σ3 hf
  · replace hf := (if_pos c1).symm.trans hf
    refine go_iconst (-1) dX11_dented_10 (by decide) ?_
    refine go_goto 25 dX11_dented_11 (by decide) ?_
    refine go_msk [false, false, false, false] [none, none, none, none] rfl ?_
    exact w_X11_dented_25 hs h0 (-1) σ hf
def f_X11_held_25 (N : Nat) (ρ : Nat → Nat → Nat) (this : Nat) (a1 : Int32) (a2 : Int32) (a3 : Int32) (s0 : Int32) (σ : St) : Option (Int32 × St) :=
  some (s0, σ)
def f_X11_held (N : Nat) (ρ : Nat → Nat → Nat) (this : Nat) (a1 : Int32) (a2 : Int32) (a3 : Int32) (σ : St) : Option (Int32 × St) :=
  if (σ.1 (ρ this 2) 12 : Int32) = 0 then
    f_X11_held_25 N ρ this a1 a2 a3 (-1) σ
  else
    bnd (f_X6_tell N ρ (ρ this 11) a1 0 a2 a3 σ) fun r2 σ3 =>
    f_X11_held_25 N ρ this a1 a2 a3 r2 σ3
set_option maxRecDepth 100000 in
set_option maxHeartbeats 4000000 in
theorem w_X11_held_25 {N : Nat} {Γ : SG} {ρ : Nat → Nat → Nat} (hs : Sh Γ ρ) {this : Nat} {a1 : Int32} {a2 : Int32} {a3 : Int32} (h0 : Γ[this]? = some (0, 11)) {n0 : Nat} {r : Int32} {σr : St} (s0 : Int32) (σ : St) (hf : f_X11_held_25 N ρ this a1 a2 a3 s0 σ = some (r, σr)) : Go mX11_held 1 0 0 n0 (Ki Γ ρ r σr) 0 0 25 [none, none, none, none] [.int s0] (hp Γ ρ σ) := by
  unfold f_X11_held_25 at hf
  cases hf
  exact go_iret rfl dX11_held_25 (Nat.le_refl _) ⟨rfl, rfl⟩
set_option maxRecDepth 100000 in
set_option maxHeartbeats 4000000 in
theorem t_X11_held {N : Nat} {Γ : SG} {ρ : Nat → Nat → Nat} (hs : Sh Γ ρ) {this : Nat} {a1 : Int32} {a2 : Int32} {a3 : Int32} (h0 : Γ[this]? = some (0, 11)) {σ : St} {r : Int32} {σr : St} (hf : f_X11_held N ρ this a1 a2 a3 σ = some (r, σr)) : Tri mX11_held 1 0 0 [.ref this, .int a1, .int a2, .int a3] (hp Γ ρ σ) (Ki Γ ρ r σr) := by
  unfold f_X11_held at hf
  refine tri_of [some (.ref this), some (.int a1), some (.int a2), some (.int a3)] (plainFor_of_name rfl) rfl (Nat.le_of_ble_eq_true rfl) ?_
  refine go_aload_n 0 dX11_held_0 rfl rfl ?_
  refine go_fR fl_X11_30 dX11_held_1 h0 (by decide) rfl ?_
  refine go_fI fl_X11_132 dX11_held_4 (hs.1 _ 11 2 h0 rfl) (by decide) rfl ?_
  refine go_if_ne 14 dX11_held_7 (by decide) (fun c1 => ?_) (fun c1 => ?_)
  · replace hf := (if_neg c1).symm.trans hf
    refine go_aload_n 0 dX11_held_14 rfl rfl ?_
    refine go_fR fl_X11_79 dX11_held_15 h0 (by decide) rfl ?_
    refine go_iload_n 1 dX11_held_18 rfl rfl ?_
    refine go_iconst 0 dX11_held_19 (by decide) ?_
    refine go_iload_n 2 dX11_held_20 rfl rfl ?_
    refine go_iload_n 3 dX11_held_21 rfl rfl ?_
    obtain ⟨r2, σ3, q4, hf⟩ := bnd_some hf
    refine go_Vi (av := [.int a1, .int 0, .int a2, .int a3]) (rest := []) (t_X6_tell hs (hs.1 _ 11 11 h0 rfl) q4) ok_X6_tell ml_X11_342 dX11_held_22 (hs.1 _ 11 11 h0 rfl) rfl rfl (by decide) (Nat.le_refl _) (Nat.le_refl _) (Nat.le_of_ble_eq_true rfl) ?_
    refine go_msk [false, false, false, false] [none, none, none, none] rfl ?_
    exact w_X11_held_25 hs h0 r2 σ3 hf
  · replace hf := (if_pos c1).symm.trans hf
    refine go_iconst (-1) dX11_held_10 (by decide) ?_
    refine go_goto 25 dX11_held_11 (by decide) ?_
    refine go_msk [false, false, false, false] [none, none, none, none] rfl ?_
    exact w_X11_held_25 hs h0 (-1) σ hf
def f_X11_untell (N : Nat) (ρ : Nat → Nat → Nat) (this : Nat) (a1 : Int32) (σ : St) : Option (Int32 × St) :=
  bnd (f_X6_takeBack N ρ (ρ this 11) a1 σ) fun r1 σ2 =>
  gd (bb r1) <|
  some (r1, σ2)
set_option maxRecDepth 100000 in
set_option maxHeartbeats 4000000 in
theorem t_X11_untell {N : Nat} {Γ : SG} {ρ : Nat → Nat → Nat} (hs : Sh Γ ρ) {this : Nat} {a1 : Int32} (h0 : Γ[this]? = some (0, 11)) {σ : St} {r : Int32} {σr : St} (hf : f_X11_untell N ρ this a1 σ = some (r, σr)) : Tri mX11_untell 1 0 0 [.ref this, .int a1] (hp Γ ρ σ) (Ki Γ ρ r σr) := by
  unfold f_X11_untell at hf
  refine tri_of [some (.ref this), some (.int a1)] (plainFor_of_name rfl) rfl (Nat.le_of_ble_eq_true rfl) ?_
  refine go_aload_n 0 dX11_untell_0 rfl rfl ?_
  refine go_fR fl_X11_79 dX11_untell_1 h0 (by decide) rfl ?_
  refine go_iload_n 1 dX11_untell_4 rfl rfl ?_
  obtain ⟨r1, σ2, q3, hf⟩ := bnd_some hf
  refine go_Vi (av := [.int a1]) (rest := []) (t_X6_takeBack hs (hs.1 _ 11 11 h0 rfl) q3) ok_X6_takeBack ml_X11_346 dX11_untell_5 (hs.1 _ 11 11 h0 rfl) rfl rfl (by decide) (Nat.le_refl _) (Nat.le_refl _) (Nat.le_of_ble_eq_true rfl) ?_
  obtain ⟨g4, hf⟩ := gd_some hf
  cases hf
  exact go_zret rfl (bb_of g4) dX11_untell_8 (Nat.le_refl _) ⟨rfl, rfl⟩
def f_X11_later (N : Nat) (ρ : Nat → Nat → Nat) (this : Nat) (a1 : Int32) (σ : St) : Option (Int32 × St) :=
  bnd (f_X6_goOn N ρ (ρ this 11) a1 σ) fun r1 σ2 =>
  some (r1, σ2)
set_option maxRecDepth 100000 in
set_option maxHeartbeats 4000000 in
theorem t_X11_later {N : Nat} {Γ : SG} {ρ : Nat → Nat → Nat} (hs : Sh Γ ρ) {this : Nat} {a1 : Int32} (h0 : Γ[this]? = some (0, 11)) {σ : St} {r : Int32} {σr : St} (hf : f_X11_later N ρ this a1 σ = some (r, σr)) : Tri mX11_later 1 0 0 [.ref this, .int a1] (hp Γ ρ σ) (Ki Γ ρ r σr) := by
  unfold f_X11_later at hf
  refine tri_of [some (.ref this), some (.int a1)] (plainFor_of_name rfl) rfl (Nat.le_of_ble_eq_true rfl) ?_
  refine go_aload_n 0 dX11_later_0 rfl rfl ?_
  refine go_fR fl_X11_79 dX11_later_1 h0 (by decide) rfl ?_
  refine go_iload_n 1 dX11_later_4 rfl rfl ?_
  obtain ⟨r1, σ2, q3, hf⟩ := bnd_some hf
  refine go_Vi (av := [.int a1]) (rest := []) (t_X6_goOn hs (hs.1 _ 11 11 h0 rfl) q3) ok_X6_goOn ml_X11_349 dX11_later_5 (hs.1 _ 11 11 h0 rfl) rfl rfl (by decide) (Nat.le_refl _) (Nat.le_refl _) (Nat.le_of_ble_eq_true rfl) ?_
  cases hf
  exact go_iret rfl dX11_later_8 (Nat.le_refl _) ⟨rfl, rfl⟩
def f_X11_rows (N : Nat) (ρ : Nat → Nat → Nat) (this : Nat) (a1 : Int32) (σ : St) : Option (Int32 × St) :=
  bnd (f_X6_tallyRows N ρ (ρ this 11) (ρ this 2) a1 σ) fun r1 σ2 =>
  some (r1, σ2)
set_option maxRecDepth 100000 in
set_option maxHeartbeats 4000000 in
theorem t_X11_rows {N : Nat} {Γ : SG} {ρ : Nat → Nat → Nat} (hs : Sh Γ ρ) {this : Nat} {a1 : Int32} (h0 : Γ[this]? = some (0, 11)) {σ : St} {r : Int32} {σr : St} (hf : f_X11_rows N ρ this a1 σ = some (r, σr)) : Tri mX11_rows 50 0 0 [.ref this, .int a1] (hp Γ ρ σ) (Ki Γ ρ r σr) := by
  unfold f_X11_rows at hf
  refine tri_of [some (.ref this), some (.int a1)] (plainFor_of_name rfl) rfl (Nat.le_of_ble_eq_true rfl) ?_
  refine go_aload_n 0 dX11_rows_0 rfl rfl ?_
  refine go_fR fl_X11_79 dX11_rows_1 h0 (by decide) rfl ?_
  refine go_aload_n 0 dX11_rows_4 rfl rfl ?_
  refine go_fR fl_X11_30 dX11_rows_5 h0 (by decide) rfl ?_
  refine go_iload_n 1 dX11_rows_8 rfl rfl ?_
  obtain ⟨r1, σ2, q3, hf⟩ := bnd_some hf
  refine go_Vi (av := [.ref (ρ this 2), .int a1]) (rest := []) (t_X6_tallyRows hs (hs.1 _ 11 11 h0 rfl) (hs.1 _ 11 2 h0 rfl) q3) ok_X6_tallyRows ml_X11_352 dX11_rows_9 (hs.1 _ 11 11 h0 rfl) rfl rfl (by decide) (Nat.le_refl _) (Nat.le_refl _) (Nat.le_of_ble_eq_true rfl) ?_
  cases hf
  exact go_iret rfl dX11_rows_12 (Nat.le_refl _) ⟨rfl, rfl⟩
def f_X11_sure_10 (N : Nat) (ρ : Nat → Nat → Nat) (this : Nat) (a1 : Int32) (a2 : Int32) (σ : St) : Option (Int32 × St) :=
  some ((-3), σ)
def f_X11_sure_84 (N : Nat) (ρ : Nat → Nat → Nat) (this : Nat) (a1 : Int32) (a2 : Int32) (s0 : Int32) (σ : St) : Option (Int32 × St) :=
  some (s0, σ)
def b_X11_sure_36 (N : Nat) (ρ : Nat → Nat → Nat) (this : Nat) (a1 : Int32) (a2 : Int32) (rec36 : Int32 → Int32 → St → Option (Int32 × St)) (x3 : Int32) (x4 : Int32) (σ : St) : Option (Int32 × St) :=
  if (σ.1 (ρ this 2) 11) < (x4 : Int32) then
    some ((-2), σ)
  else
    gd (ib (a1 - 1) 3) <|
    gd (ib x4 7) <|
    if (σ.1 (ρ (ρ (ρ this 11) 12) (a1 - 1).toNatClampNeg) x4.toNatClampNeg : Int32) = x3 then
      if (x4 : Int32) = (σ.1 (ρ this 2) 11) then
        f_X11_sure_84 N ρ this a1 a2 (-1) σ
      else
        f_X11_sure_84 N ρ this a1 a2 x4 σ
    else
      rec36 x3 (x4 + 1) σ
def f_X11_sure_36 (N : Nat) (ρ : Nat → Nat → Nat) (this : Nat) (a1 : Int32) (a2 : Int32) : Nat → Int32 → Int32 → St → Option (Int32 × St)
  | 0, _, _, _ => none
  | n + 1, x3, x4, σ => b_X11_sure_36 N ρ this a1 a2 (f_X11_sure_36 N ρ this a1 a2 n) x3 x4 σ
def f_X11_sure (N : Nat) (ρ : Nat → Nat → Nat) (this : Nat) (a1 : Int32) (a2 : Int32) (σ : St) : Option (Int32 × St) :=
  if (a1 : Int32) < 1 then
    f_X11_sure_10 N ρ this a1 a2 σ
  else
    if (a1 : Int32) ≤ 3 then
      bnd (f_X6_tallyRows N ρ (ρ this 11) (ρ this 2) a2 σ) fun r8 σ9 =>
      if (r8 : Int32) = 0 then
        some ((-3), σ9)
      else
        f_X11_sure_36 N ρ this a1 a2 N r8 0 σ9
    else
      f_X11_sure_10 N ρ this a1 a2 σ
set_option maxRecDepth 100000 in
set_option maxHeartbeats 4000000 in
theorem w_X11_sure_10 {N : Nat} {Γ : SG} {ρ : Nat → Nat → Nat} (hs : Sh Γ ρ) {this : Nat} {a1 : Int32} {a2 : Int32} (h0 : Γ[this]? = some (0, 11)) {n0 : Nat} {r : Int32} {σr : St} (σ : St) (hf : f_X11_sure_10 N ρ this a1 a2 σ = some (r, σr)) : Go mX11_sure 50 0 0 n0 (Ki Γ ρ r σr) 0 0 10 [none, none, none, none, none] [] (hp Γ ρ σ) := by
  unfold f_X11_sure_10 at hf
  refine go_bipush (-3) dX11_sure_10 (by decide) ?_
  cases hf
  exact go_iret rfl dX11_sure_12 (Nat.le_refl _) ⟨rfl, rfl⟩
set_option maxRecDepth 100000 in
set_option maxHeartbeats 4000000 in
theorem w_X11_sure_84 {N : Nat} {Γ : SG} {ρ : Nat → Nat → Nat} (hs : Sh Γ ρ) {this : Nat} {a1 : Int32} {a2 : Int32} (h0 : Γ[this]? = some (0, 11)) {n0 : Nat} {r : Int32} {σr : St} (s0 : Int32) (σ : St) (hf : f_X11_sure_84 N ρ this a1 a2 s0 σ = some (r, σr)) : Go mX11_sure 50 0 0 n0 (Ki Γ ρ r σr) 0 0 84 [none, none, none, none, none] [.int s0] (hp Γ ρ σ) := by
  unfold f_X11_sure_84 at hf
  cases hf
  exact go_iret rfl dX11_sure_84 (Nat.le_refl _) ⟨rfl, rfl⟩
set_option maxRecDepth 100000 in
set_option maxHeartbeats 4000000 in
theorem v_X11_sure_36 {N : Nat} {Γ : SG} {ρ : Nat → Nat → Nat} (hs : Sh Γ ρ) {this : Nat} {a1 : Int32} {a2 : Int32} (h0 : Γ[this]? = some (0, 11)) {n0 : Nat} {r : Int32} {σr : St} (rec36 : Int32 → Int32 → St → Option (Int32 × St)) (hrec36 : ∀ (x3 : Int32) (x4 : Int32) (σ : St), rec36 x3 x4 σ = some (r, σr) → Go mX11_sure 50 0 0 n0 (Ki Γ ρ r σr) 0 0 36 [some (.ref this), some (.int a1), none, some (.int x3), some (.int x4)] [] (hp Γ ρ σ)) (x3 : Int32) (x4 : Int32) (σ : St) (hf : b_X11_sure_36 N ρ this a1 a2 rec36 x3 x4 σ = some (r, σr)) : Go mX11_sure 50 0 0 n0 (Ki Γ ρ r σr) 0 0 36 [some (.ref this), some (.int a1), none, some (.int x3), some (.int x4)] [] (hp Γ ρ σ) := by
  unfold b_X11_sure_36 at hf
  refine go_iload dX11_sure_36 rfl ?_
  refine go_aload_n 0 dX11_sure_38 rfl rfl ?_
  refine go_fR fl_X11_30 dX11_sure_39 h0 (by decide) rfl ?_
  refine go_fI fl_X11_212 dX11_sure_42 (hs.1 _ 11 2 h0 rfl) (by decide) rfl ?_
  refine go_icmp_gt 91 dX11_sure_45 (by decide) (fun c1 => ?_) (fun c1 => ?_)
  · replace hf := (if_pos c1).symm.trans hf
    refine go_bipush (-2) dX11_sure_91 (by decide) ?_
    cases hf
    exact go_iret rfl dX11_sure_93 (Nat.le_refl _) ⟨rfl, rfl⟩
  · replace hf := (if_neg c1).symm.trans hf
    refine go_aload_n 0 dX11_sure_48 rfl rfl ?_
    refine go_fR fl_X11_79 dX11_sure_49 h0 (by decide) rfl ?_
    refine go_fR fl_X11_355 dX11_sure_52 (hs.1 _ 11 11 h0 rfl) (by decide) rfl ?_
    refine go_iload_n 1 dX11_sure_55 rfl rfl ?_
    refine go_iconst 1 dX11_sure_56 (by decide) ?_
    refine go_isub dX11_sure_57 ?_
    obtain ⟨g2, hf⟩ := gd_some hf
    refine go_rR dX11_sure_58 (hs.1 _ 6 12 (hs.1 _ 11 11 h0 rfl) rfl) (ib_in g2) ?_
    refine go_iload dX11_sure_59 rfl ?_
    obtain ⟨g3, hf⟩ := gd_some hf
    refine go_rI dX11_sure_61 (sh_in hs (hs.1 _ 6 12 (hs.1 _ 11 11 h0 rfl) rfl) g2) (ib_in g3) ?_
    refine go_iload_n 3 dX11_sure_62 rfl rfl ?_
    refine go_icmp_ne 85 dX11_sure_63 (by decide) (fun c4 => ?_) (fun c4 => ?_)
    · replace hf := (if_neg c4).symm.trans hf
      refine go_iinc (x4 + 1) [some (.ref this), some (.int a1), none, some (.int x3), some (.int (x4 + 1))] dX11_sure_85 rfl rfl (by decide) rfl ?_
      refine go_goto 36 dX11_sure_88 (by decide) ?_
      exact hrec36 x3 (x4 + 1) σ hf
    · replace hf := (if_pos c4).symm.trans hf
      refine go_iload dX11_sure_66 rfl ?_
      refine go_aload_n 0 dX11_sure_68 rfl rfl ?_
      refine go_fR fl_X11_30 dX11_sure_69 h0 (by decide) rfl ?_
      refine go_fI fl_X11_212 dX11_sure_72 (hs.1 _ 11 2 h0 rfl) (by decide) rfl ?_
      refine go_icmp_ne 82 dX11_sure_75 (by decide) (fun c5 => ?_) (fun c5 => ?_)
      · replace hf := (if_neg c5).symm.trans hf
        refine go_iload dX11_sure_82 rfl ?_
        refine go_msk [false, false, false, false, false] [none, none, none, none, none] rfl ?_
        exact w_X11_sure_84 hs h0 x4 σ hf
      · replace hf := (if_pos c5).symm.trans hf
        refine go_iconst (-1) dX11_sure_78 (by decide) ?_
        refine go_goto 84 dX11_sure_79 (by decide) ?_
        refine go_msk [false, false, false, false, false] [none, none, none, none, none] rfl ?_
        exact w_X11_sure_84 hs h0 (-1) σ hf
theorem w_X11_sure_36 {N : Nat} {Γ : SG} {ρ : Nat → Nat → Nat} (hs : Sh Γ ρ) {this : Nat} {a1 : Int32} {a2 : Int32} (h0 : Γ[this]? = some (0, 11)) {n0 : Nat} {r : Int32} {σr : St} : ∀ (n : Nat) (x3 : Int32) (x4 : Int32) (σ : St), f_X11_sure_36 N ρ this a1 a2 n x3 x4 σ = some (r, σr) → Go mX11_sure 50 0 0 n0 (Ki Γ ρ r σr) 0 0 36 [some (.ref this), some (.int a1), none, some (.int x3), some (.int x4)] [] (hp Γ ρ σ) := by
  intro n
  induction n with
  | zero => intro x3 x4 σ hf; cases hf
  | succ n ih => intro x3 x4 σ hf; exact v_X11_sure_36 hs h0 _ ih x3 x4 σ hf
set_option maxRecDepth 100000 in
set_option maxHeartbeats 4000000 in
theorem t_X11_sure {N : Nat} {Γ : SG} {ρ : Nat → Nat → Nat} (hs : Sh Γ ρ) {this : Nat} {a1 : Int32} {a2 : Int32} (h0 : Γ[this]? = some (0, 11)) {σ : St} {r : Int32} {σr : St} (hf : f_X11_sure N ρ this a1 a2 σ = some (r, σr)) : Tri mX11_sure 50 0 0 [.ref this, .int a1, .int a2] (hp Γ ρ σ) (Ki Γ ρ r σr) := by
  unfold f_X11_sure at hf
  refine tri_of [some (.ref this), some (.int a1), some (.int a2), none, none] (plainFor_of_name rfl) rfl (Nat.le_of_ble_eq_true rfl) ?_
  refine go_iload_n 1 dX11_sure_0 rfl rfl ?_
  refine go_iconst 1 dX11_sure_1 (by decide) ?_
  refine go_icmp_lt 10 dX11_sure_2 (by decide) (fun c6 => ?_) (fun c6 => ?_)
  · replace hf := (if_pos c6).symm.trans hf
    refine go_msk [false, false, false, false, false] [none, none, none, none, none] rfl ?_
    exact w_X11_sure_10 hs h0 σ hf
  · replace hf := (if_neg c6).symm.trans hf
    refine go_iload_n 1 dX11_sure_5 rfl rfl ?_
    refine go_iconst 3 dX11_sure_6 (by decide) ?_
    refine go_icmp_le 13 dX11_sure_7 (by decide) (fun c7 => ?_) (fun c7 => ?_)
    · replace hf := (if_pos c7).symm.trans hf
      refine go_aload_n 0 dX11_sure_13 rfl rfl ?_
      refine go_fR fl_X11_79 dX11_sure_14 h0 (by decide) rfl ?_
      refine go_aload_n 0 dX11_sure_17 rfl rfl ?_
      refine go_fR fl_X11_30 dX11_sure_18 h0 (by decide) rfl ?_
      refine go_iload_n 2 dX11_sure_21 rfl rfl ?_
      obtain ⟨r8, σ9, q10, hf⟩ := bnd_some hf
      refine go_Vi (av := [.ref (ρ this 2), .int a2]) (rest := []) (t_X6_tallyRows hs (hs.1 _ 11 11 h0 rfl) (hs.1 _ 11 2 h0 rfl) q10) ok_X6_tallyRows ml_X11_352 dX11_sure_22 (hs.1 _ 11 11 h0 rfl) rfl rfl (by decide) (Nat.le_refl _) (Nat.le_refl _) (Nat.le_of_ble_eq_true rfl) ?_
      refine go_istore_n 3 [some (.ref this), some (.int a1), some (.int a2), some (.int r8), none] dX11_sure_25 rfl (by decide) rfl ?_
      refine go_iload_n 3 dX11_sure_26 rfl rfl ?_
      refine go_if_ne 33 dX11_sure_27 (by decide) (fun c11 => ?_) (fun c11 => ?_)
      · replace hf := (if_neg c11).symm.trans hf
        refine go_iconst 0 dX11_sure_33 (by decide) ?_
        refine go_istore [some (.ref this), some (.int a1), some (.int a2), some (.int r8), some (.int 0)] dX11_sure_34 (by decide) rfl ?_
        refine go_msk [true, true, false, true, true] [some (.ref this), some (.int a1), none, some (.int r8), some (.int 0)] rfl ?_
        exact w_X11_sure_36 hs h0 N r8 0 σ9 hf
      · replace hf := (if_pos c11).symm.trans hf
        refine go_bipush (-3) dX11_sure_30 (by decide) ?_
        cases hf
        exact go_iret rfl dX11_sure_32 (Nat.le_refl _) ⟨rfl, rfl⟩
    · replace hf := (if_neg c7).symm.trans hf
      refine go_msk [false, false, false, false, false] [none, none, none, none, none] rfl ?_
      exact w_X11_sure_10 hs h0 σ hf
def f_X11_ask_24 (N : Nat) (ρ : Nat → Nat → Nat) (this : Nat) (a1 : Int32) (a2 : Int32) (σ : St) : Option (Int32 × St) :=
  some ((-1), σ)
def f_X11_ask_60 (N : Nat) (ρ : Nat → Nat → Nat) (this : Nat) (a1 : Int32) (a2 : Int32) (rec31 : Int32 → Int32 → St → Option (Int32 × St)) (x3 : Int32) (x4 : Int32) (σ : St) : Option (Int32 × St) :=
  rec31 x3 (x4 + 1) σ
def f_X11_ask_82 (N : Nat) (ρ : Nat → Nat → Nat) (this : Nat) (a1 : Int32) (a2 : Int32) (s0 : Int32) (σ : St) : Option (Int32 × St) :=
  some (s0, σ)
def b_X11_ask_31 (N : Nat) (ρ : Nat → Nat → Nat) (this : Nat) (a1 : Int32) (a2 : Int32) (rec31 : Int32 → Int32 → St → Option (Int32 × St)) (x3 : Int32) (x4 : Int32) (σ : St) : Option (Int32 × St) :=
  if 3 < (x4 : Int32) then
    if (a1 : Int32) = 0 then
      f_X11_ask_82 N ρ this a1 a2 x3 σ
    else
      bnd (f_X6_mostLeft N ρ (ρ this 11) x3 σ) fun r3 σ4 =>
      f_X11_ask_82 N ρ this a1 a2 r3 σ4
  else
    bnd (f_X6_mostLeft N ρ (ρ this 11) x4 σ) fun r6 σ7 =>
    bnd (f_X6_mostLeft N ρ (ρ this 11) x3 σ7) fun r9 σ10 =>
    if r9 ≤ (r6 : Int32) then
      f_X11_ask_60 N ρ this a1 a2 rec31 x3 x4 σ10
    else
      f_X11_ask_60 N ρ this a1 a2 rec31 x4 x4 σ10
def f_X11_ask_31 (N : Nat) (ρ : Nat → Nat → Nat) (this : Nat) (a1 : Int32) (a2 : Int32) : Nat → Int32 → Int32 → St → Option (Int32 × St)
  | 0, _, _, _ => none
  | n + 1, x3, x4, σ => b_X11_ask_31 N ρ this a1 a2 (f_X11_ask_31 N ρ this a1 a2 n) x3 x4 σ
def f_X11_ask (N : Nat) (ρ : Nat → Nat → Nat) (this : Nat) (a1 : Int32) (a2 : Int32) (σ : St) : Option (Int32 × St) :=
  if (a1 : Int32) < 0 then
    f_X11_ask_24 N ρ this a1 a2 σ
  else
    if 1 < (a1 : Int32) then
      f_X11_ask_24 N ρ this a1 a2 σ
    else
      bnd (f_X6_tallyRows N ρ (ρ this 11) (ρ this 2) a2 σ) fun r15 σ16 =>
      if (r15 : Int32) = 0 then
        f_X11_ask_24 N ρ this a1 a2 σ16
      else
        f_X11_ask_31 N ρ this a1 a2 N 1 2 σ16
set_option maxRecDepth 100000 in
set_option maxHeartbeats 4000000 in
theorem w_X11_ask_24 {N : Nat} {Γ : SG} {ρ : Nat → Nat → Nat} (hs : Sh Γ ρ) {this : Nat} {a1 : Int32} {a2 : Int32} (h0 : Γ[this]? = some (0, 11)) {n0 : Nat} {r : Int32} {σr : St} (σ : St) (hf : f_X11_ask_24 N ρ this a1 a2 σ = some (r, σr)) : Go mX11_ask 50 0 0 n0 (Ki Γ ρ r σr) 0 0 24 [none, none, none, none, none] [] (hp Γ ρ σ) := by
  unfold f_X11_ask_24 at hf
  refine go_iconst (-1) dX11_ask_24 (by decide) ?_
  cases hf
  exact go_iret rfl dX11_ask_25 (Nat.le_refl _) ⟨rfl, rfl⟩
set_option maxRecDepth 100000 in
set_option maxHeartbeats 4000000 in
theorem w_X11_ask_60 {N : Nat} {Γ : SG} {ρ : Nat → Nat → Nat} (hs : Sh Γ ρ) {this : Nat} {a1 : Int32} {a2 : Int32} (h0 : Γ[this]? = some (0, 11)) {n0 : Nat} {r : Int32} {σr : St} (rec31 : Int32 → Int32 → St → Option (Int32 × St)) (hrec31 : ∀ (x3 : Int32) (x4 : Int32) (σ : St), rec31 x3 x4 σ = some (r, σr) → Go mX11_ask 50 0 0 n0 (Ki Γ ρ r σr) 0 0 31 [some (.ref this), some (.int a1), none, some (.int x3), some (.int x4)] [] (hp Γ ρ σ)) (x3 : Int32) (x4 : Int32) (σ : St) (hf : f_X11_ask_60 N ρ this a1 a2 rec31 x3 x4 σ = some (r, σr)) : Go mX11_ask 50 0 0 n0 (Ki Γ ρ r σr) 0 0 60 [some (.ref this), some (.int a1), none, some (.int x3), some (.int x4)] [] (hp Γ ρ σ) := by
  unfold f_X11_ask_60 at hf
  refine go_iinc (x4 + 1) [some (.ref this), some (.int a1), none, some (.int x3), some (.int (x4 + 1))] dX11_ask_60 rfl rfl (by decide) rfl ?_
  refine go_goto 31 dX11_ask_63 (by decide) ?_
  exact hrec31 x3 (x4 + 1) σ hf
set_option maxRecDepth 100000 in
set_option maxHeartbeats 4000000 in
theorem w_X11_ask_82 {N : Nat} {Γ : SG} {ρ : Nat → Nat → Nat} (hs : Sh Γ ρ) {this : Nat} {a1 : Int32} {a2 : Int32} (h0 : Γ[this]? = some (0, 11)) {n0 : Nat} {r : Int32} {σr : St} (s0 : Int32) (σ : St) (hf : f_X11_ask_82 N ρ this a1 a2 s0 σ = some (r, σr)) : Go mX11_ask 50 0 0 n0 (Ki Γ ρ r σr) 0 0 82 [none, none, none, none, none] [.int s0] (hp Γ ρ σ) := by
  unfold f_X11_ask_82 at hf
  cases hf
  exact go_iret rfl dX11_ask_82 (Nat.le_refl _) ⟨rfl, rfl⟩
set_option maxRecDepth 100000 in
set_option maxHeartbeats 4000000 in
theorem v_X11_ask_31 {N : Nat} {Γ : SG} {ρ : Nat → Nat → Nat} (hs : Sh Γ ρ) {this : Nat} {a1 : Int32} {a2 : Int32} (h0 : Γ[this]? = some (0, 11)) {n0 : Nat} {r : Int32} {σr : St} (rec31 : Int32 → Int32 → St → Option (Int32 × St)) (hrec31 : ∀ (x3 : Int32) (x4 : Int32) (σ : St), rec31 x3 x4 σ = some (r, σr) → Go mX11_ask 50 0 0 n0 (Ki Γ ρ r σr) 0 0 31 [some (.ref this), some (.int a1), none, some (.int x3), some (.int x4)] [] (hp Γ ρ σ)) (x3 : Int32) (x4 : Int32) (σ : St) (hf : b_X11_ask_31 N ρ this a1 a2 rec31 x3 x4 σ = some (r, σr)) : Go mX11_ask 50 0 0 n0 (Ki Γ ρ r σr) 0 0 31 [some (.ref this), some (.int a1), none, some (.int x3), some (.int x4)] [] (hp Γ ρ σ) := by
  unfold b_X11_ask_31 at hf
  refine go_iload dX11_ask_31 rfl ?_
  refine go_iconst 3 dX11_ask_33 (by decide) ?_
  refine go_icmp_gt 66 dX11_ask_34 (by decide) (fun c1 => ?_) (fun c1 => ?_)
  · replace hf := (if_pos c1).symm.trans hf
    refine go_iload_n 1 dX11_ask_66 rfl rfl ?_
    refine go_if_ne 74 dX11_ask_67 (by decide) (fun c2 => ?_) (fun c2 => ?_)
    · replace hf := (if_neg c2).symm.trans hf
      refine go_aload_n 0 dX11_ask_74 rfl rfl ?_
      refine go_fR fl_X11_79 dX11_ask_75 h0 (by decide) rfl ?_
      refine go_iload_n 3 dX11_ask_78 rfl rfl ?_
      obtain ⟨r3, σ4, q5, hf⟩ := bnd_some hf
      refine go_Vi (av := [.int x3]) (rest := []) (t_X6_mostLeft hs (hs.1 _ 11 11 h0 rfl) q5) ok_X6_mostLeft ml_X11_359 dX11_ask_79 (hs.1 _ 11 11 h0 rfl) rfl rfl (by decide) (Nat.le_refl _) (Nat.le_refl _) (Nat.le_of_ble_eq_true rfl) ?_
      refine go_msk [false, false, false, false, false] [none, none, none, none, none] rfl ?_
      exact w_X11_ask_82 hs h0 r3 σ4 hf
    · replace hf := (if_pos c2).symm.trans hf
      refine go_iload_n 3 dX11_ask_70 rfl rfl ?_
      refine go_goto 82 dX11_ask_71 (by decide) ?_
      refine go_msk [false, false, false, false, false] [none, none, none, none, none] rfl ?_
      exact w_X11_ask_82 hs h0 x3 σ hf
  · replace hf := (if_neg c1).symm.trans hf
    refine go_aload_n 0 dX11_ask_37 rfl rfl ?_
    refine go_fR fl_X11_79 dX11_ask_38 h0 (by decide) rfl ?_
    refine go_iload dX11_ask_41 rfl ?_
    obtain ⟨r6, σ7, q8, hf⟩ := bnd_some hf
    refine go_Vi (av := [.int x4]) (rest := []) (t_X6_mostLeft hs (hs.1 _ 11 11 h0 rfl) q8) ok_X6_mostLeft ml_X11_359 dX11_ask_43 (hs.1 _ 11 11 h0 rfl) rfl rfl (by decide) (Nat.le_refl _) (Nat.le_refl _) (Nat.le_of_ble_eq_true rfl) ?_
    refine go_aload_n 0 dX11_ask_46 rfl rfl ?_
    refine go_fR fl_X11_79 dX11_ask_47 h0 (by decide) rfl ?_
    refine go_iload_n 3 dX11_ask_50 rfl rfl ?_
    obtain ⟨r9, σ10, q11, hf⟩ := bnd_some hf
    refine go_Vi (av := [.int x3]) (rest := [.int r6]) (t_X6_mostLeft hs (hs.1 _ 11 11 h0 rfl) q11) ok_X6_mostLeft ml_X11_359 dX11_ask_51 (hs.1 _ 11 11 h0 rfl) rfl rfl (by decide) (Nat.le_refl _) (Nat.le_refl _) (Nat.le_of_ble_eq_true rfl) ?_
    refine go_icmp_ge 60 dX11_ask_54 (by decide) (fun c12 => ?_) (fun c12 => ?_)
    · replace hf := (if_pos c12).symm.trans hf
      exact w_X11_ask_60 hs h0 rec31 hrec31 x3 x4 σ10 hf
    · replace hf := (if_neg c12).symm.trans hf
      refine go_iload dX11_ask_57 rfl ?_
      refine go_istore_n 3 [some (.ref this), some (.int a1), none, some (.int x4), some (.int x4)] dX11_ask_59 rfl (by decide) rfl ?_
      exact w_X11_ask_60 hs h0 rec31 hrec31 x4 x4 σ10 hf
theorem w_X11_ask_31 {N : Nat} {Γ : SG} {ρ : Nat → Nat → Nat} (hs : Sh Γ ρ) {this : Nat} {a1 : Int32} {a2 : Int32} (h0 : Γ[this]? = some (0, 11)) {n0 : Nat} {r : Int32} {σr : St} : ∀ (n : Nat) (x3 : Int32) (x4 : Int32) (σ : St), f_X11_ask_31 N ρ this a1 a2 n x3 x4 σ = some (r, σr) → Go mX11_ask 50 0 0 n0 (Ki Γ ρ r σr) 0 0 31 [some (.ref this), some (.int a1), none, some (.int x3), some (.int x4)] [] (hp Γ ρ σ) := by
  intro n
  induction n with
  | zero => intro x3 x4 σ hf; cases hf
  | succ n ih => intro x3 x4 σ hf; exact v_X11_ask_31 hs h0 _ ih x3 x4 σ hf
set_option maxRecDepth 100000 in
set_option maxHeartbeats 4000000 in
theorem t_X11_ask {N : Nat} {Γ : SG} {ρ : Nat → Nat → Nat} (hs : Sh Γ ρ) {this : Nat} {a1 : Int32} {a2 : Int32} (h0 : Γ[this]? = some (0, 11)) {σ : St} {r : Int32} {σr : St} (hf : f_X11_ask N ρ this a1 a2 σ = some (r, σr)) : Tri mX11_ask 50 0 0 [.ref this, .int a1, .int a2] (hp Γ ρ σ) (Ki Γ ρ r σr) := by
  unfold f_X11_ask at hf
  refine tri_of [some (.ref this), some (.int a1), some (.int a2), none, none] (plainFor_of_name rfl) rfl (Nat.le_of_ble_eq_true rfl) ?_
  refine go_iload_n 1 dX11_ask_0 rfl rfl ?_
  refine go_if_lt 24 dX11_ask_1 (by decide) (fun c13 => ?_) (fun c13 => ?_)
  · replace hf := (if_pos c13).symm.trans hf
    refine go_msk [false, false, false, false, false] [none, none, none, none, none] rfl ?_
    exact w_X11_ask_24 hs h0 σ hf
  · replace hf := (if_neg c13).symm.trans hf
    refine go_iload_n 1 dX11_ask_4 rfl rfl ?_
    refine go_iconst 1 dX11_ask_5 (by decide) ?_
    refine go_icmp_gt 24 dX11_ask_6 (by decide) (fun c14 => ?_) (fun c14 => ?_)
    · replace hf := (if_pos c14).symm.trans hf
      refine go_msk [false, false, false, false, false] [none, none, none, none, none] rfl ?_
      exact w_X11_ask_24 hs h0 σ hf
    · replace hf := (if_neg c14).symm.trans hf
      refine go_aload_n 0 dX11_ask_9 rfl rfl ?_
      refine go_fR fl_X11_79 dX11_ask_10 h0 (by decide) rfl ?_
      refine go_aload_n 0 dX11_ask_13 rfl rfl ?_
      refine go_fR fl_X11_30 dX11_ask_14 h0 (by decide) rfl ?_
      refine go_iload_n 2 dX11_ask_17 rfl rfl ?_
      obtain ⟨r15, σ16, q17, hf⟩ := bnd_some hf
      refine go_Vi (av := [.ref (ρ this 2), .int a2]) (rest := []) (t_X6_tallyRows hs (hs.1 _ 11 11 h0 rfl) (hs.1 _ 11 2 h0 rfl) q17) ok_X6_tallyRows ml_X11_352 dX11_ask_18 (hs.1 _ 11 11 h0 rfl) rfl rfl (by decide) (Nat.le_refl _) (Nat.le_refl _) (Nat.le_of_ble_eq_true rfl) ?_
      refine go_if_ne 26 dX11_ask_21 (by decide) (fun c18 => ?_) (fun c18 => ?_)
      · replace hf := (if_neg c18).symm.trans hf
        refine go_iconst 1 dX11_ask_26 (by decide) ?_
        refine go_istore_n 3 [some (.ref this), some (.int a1), some (.int a2), some (.int 1), none] dX11_ask_27 rfl (by decide) rfl ?_
        refine go_iconst 2 dX11_ask_28 (by decide) ?_
        refine go_istore [some (.ref this), some (.int a1), some (.int a2), some (.int 1), some (.int 2)] dX11_ask_29 (by decide) rfl ?_
        refine go_msk [true, true, false, true, true] [some (.ref this), some (.int a1), none, some (.int 1), some (.int 2)] rfl ?_
        exact w_X11_ask_31 hs h0 N 1 2 σ16 hf
      · replace hf := (if_pos c18).symm.trans hf
        refine go_msk [false, false, false, false, false] [none, none, none, none, none] rfl ?_
        exact w_X11_ask_24 hs h0 σ16 hf
