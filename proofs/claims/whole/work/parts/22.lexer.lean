def f_X5_takeNumber_129 (N : Nat) (ρ : Nat → Nat → Nat) (this : Nat) (s0 : Int32) (σ : St) : Option (Int32 × St) :=
  nmd (sI σ this 4 s0) fun σ1 =>
  some (0, σ1)
def f_X5_takeNumber_122 (N : Nat) (ρ : Nat → Nat → Nat) (this : Nat) (σ : St) : Option (Int32 × St) :=
  f_X5_takeNumber_129 N ρ this 103 σ
def f_X5_takeNumber_106 (N : Nat) (ρ : Nat → Nat → Nat) (this : Nat) (x2 : Int32) (s0 : Int32) (σ : St) : Option (Int32 × St) :=
  if (s0 : Int32) = 0 then
    if (x2 - (σ.1 this 3) : Int32) ≤ 4 then
      f_X5_takeNumber_129 N ρ this 100 σ
    else
      f_X5_takeNumber_122 N ρ this σ
  else
    f_X5_takeNumber_122 N ρ this σ
def f_X5_takeNumber_105 (N : Nat) (ρ : Nat → Nat → Nat) (this : Nat) (x2 : Int32) (σ : St) : Option (Int32 × St) :=
  f_X5_takeNumber_106 N ρ this x2 0 σ
def f_X5_takeNumber_69 (N : Nat) (ρ : Nat → Nat → Nat) (this : Nat) (x2 : Int32) (σ : St) : Option (Int32 × St) :=
  nmd (sI σ this 2 x2) fun σ4 =>
  if (σ4.1 (ρ this 0) 1) ≤ (x2 : Int32) then
    f_X5_takeNumber_105 N ρ this x2 σ4
  else
    gd (ib x2 1600) <|
    if (σ4.1 (ρ (ρ this 0) 0) x2.toNatClampNeg : Int32) < 97 then
      f_X5_takeNumber_105 N ρ this x2 σ4
    else
      gd (ib x2 1600) <|
      if 122 < (σ4.1 (ρ (ρ this 0) 0) x2.toNatClampNeg : Int32) then
        f_X5_takeNumber_105 N ρ this x2 σ4
      else
        f_X5_takeNumber_106 N ρ this x2 1 σ4
def b_X5_takeNumber_18 (N : Nat) (ρ : Nat → Nat → Nat) (this : Nat) (rec18 : Int32 → St → Option (Int32 × St)) (x2 : Int32) (σ : St) : Option (Int32 × St) :=
  if (σ.1 (ρ this 0) 1) ≤ (x2 : Int32) then
    f_X5_takeNumber_69 N ρ this x2 σ
  else
    gd (ib x2 1600) <|
    if (σ.1 (ρ (ρ this 0) 0) x2.toNatClampNeg : Int32) < 48 then
      f_X5_takeNumber_69 N ρ this x2 σ
    else
      gd (ib x2 1600) <|
      if 57 < (σ.1 (ρ (ρ this 0) 0) x2.toNatClampNeg : Int32) then
        f_X5_takeNumber_69 N ρ this x2 σ
      else
        gd (ib x2 1600) <|
        nmd (sI σ this 5 (((σ.1 this 5) * 10) + ((σ.1 (ρ (ρ this 0) 0) x2.toNatClampNeg) - 48))) fun σ16 =>
        rec18 (x2 + 1) σ16
def f_X5_takeNumber_18 (N : Nat) (ρ : Nat → Nat → Nat) (this : Nat) : Nat → Int32 → St → Option (Int32 × St)
  | 0, _, _ => none
  | n + 1, x2, σ => b_X5_takeNumber_18 N ρ this (f_X5_takeNumber_18 N ρ this n) x2 σ
def f_X5_takeNumber (N : Nat) (ρ : Nat → Nat → Nat) (this : Nat) (σ : St) : Option (Int32 × St) :=
  nmd (σ.1 this 3) fun y17 =>
  nmd (sI σ this 5 0) fun σ18 =>
  f_X5_takeNumber_18 N ρ this N y17 σ18
set_option maxRecDepth 100000 in
set_option maxHeartbeats 4000000 in
theorem w_X5_takeNumber_129 {N : Nat} {Γ : SG} {ρ : Nat → Nat → Nat} (hs : Sh Γ ρ) {this : Nat} (h0 : Γ[this]? = some (0, 5)) {n0 : Nat} {r : Int32} {σr : St} (s0 : Int32) (σ : St) (hf : f_X5_takeNumber_129 N ρ this s0 σ = some (r, σr)) : Go mX5_takeNumber 0 0 0 n0 (Kv Γ ρ σr) 0 0 129 [none, none, none, none] [.int s0, .ref this] (hp Γ ρ σ) := by
  unfold f_X5_takeNumber_129 at hf
  obtain ⟨σ1, eσ1, hf⟩ := nmd_some hf
  refine go_pI fl_X5_29 ft_5_4 (okv_i _) dX5_takeNumber_129 h0 (by decide) rfl ?_
  rw [eσ1]
  cases hf
  exact go_vret rfl dX5_takeNumber_132 (Nat.le_refl _) ⟨rfl, rfl⟩
set_option maxRecDepth 100000 in
set_option maxHeartbeats 4000000 in
theorem w_X5_takeNumber_122 {N : Nat} {Γ : SG} {ρ : Nat → Nat → Nat} (hs : Sh Γ ρ) {this : Nat} (h0 : Γ[this]? = some (0, 5)) {n0 : Nat} {r : Int32} {σr : St} (σ : St) (hf : f_X5_takeNumber_122 N ρ this σ = some (r, σr)) : Go mX5_takeNumber 0 0 0 n0 (Kv Γ ρ σr) 0 0 122 [none, none, none, none] [.ref this] (hp Γ ρ σ) := by
  unfold f_X5_takeNumber_122 at hf
  refine go_bipush 103 dX5_takeNumber_122 (by decide) ?_
  refine go_goto 129 dX5_takeNumber_124 (by decide) ?_
  exact w_X5_takeNumber_129 hs h0 103 σ hf
set_option maxRecDepth 100000 in
set_option maxHeartbeats 4000000 in
theorem w_X5_takeNumber_106 {N : Nat} {Γ : SG} {ρ : Nat → Nat → Nat} (hs : Sh Γ ρ) {this : Nat} (h0 : Γ[this]? = some (0, 5)) {n0 : Nat} {r : Int32} {σr : St} (x2 : Int32) (s0 : Int32) (σ : St) (hf : f_X5_takeNumber_106 N ρ this x2 s0 σ = some (r, σr)) : Go mX5_takeNumber 0 0 0 n0 (Kv Γ ρ σr) 0 0 106 [some (.ref this), none, some (.int x2), none] [.int s0] (hp Γ ρ σ) := by
  unfold f_X5_takeNumber_106 at hf
  refine go_istore_n 3 [some (.ref this), none, some (.int x2), some (.int s0)] dX5_takeNumber_106 rfl (by decide) rfl ?_
  refine go_aload_n 0 dX5_takeNumber_107 rfl rfl ?_
  refine go_iload_n 3 dX5_takeNumber_108 rfl rfl ?_
  refine go_if_ne 122 dX5_takeNumber_109 (by decide) (fun c2 => ?_) (fun c2 => ?_)
  · replace hf := (if_neg c2).symm.trans hf
    refine go_msk [false, false, false, false] [none, none, none, none] rfl ?_
    exact w_X5_takeNumber_122 hs h0 σ hf
  · replace hf := (if_pos c2).symm.trans hf
    refine go_iload_n 2 dX5_takeNumber_112 rfl rfl ?_
    refine go_aload_n 0 dX5_takeNumber_113 rfl rfl ?_
    refine go_fI fl_X5_26 dX5_takeNumber_114 h0 (by decide) rfl ?_
    refine go_isub dX5_takeNumber_117 ?_
    refine go_iconst 4 dX5_takeNumber_118 (by decide) ?_
    refine go_icmp_le 127 dX5_takeNumber_119 (by decide) (fun c3 => ?_) (fun c3 => ?_)
    · replace hf := (if_pos c3).symm.trans hf
      refine go_bipush 100 dX5_takeNumber_127 (by decide) ?_
      refine go_msk [false, false, false, false] [none, none, none, none] rfl ?_
      exact w_X5_takeNumber_129 hs h0 100 σ hf
    · replace hf := (if_neg c3).symm.trans hf
      refine go_msk [false, false, false, false] [none, none, none, none] rfl ?_
      exact w_X5_takeNumber_122 hs h0 σ hf
set_option maxRecDepth 100000 in
set_option maxHeartbeats 4000000 in
theorem w_X5_takeNumber_105 {N : Nat} {Γ : SG} {ρ : Nat → Nat → Nat} (hs : Sh Γ ρ) {this : Nat} (h0 : Γ[this]? = some (0, 5)) {n0 : Nat} {r : Int32} {σr : St} (x2 : Int32) (σ : St) (hf : f_X5_takeNumber_105 N ρ this x2 σ = some (r, σr)) : Go mX5_takeNumber 0 0 0 n0 (Kv Γ ρ σr) 0 0 105 [some (.ref this), none, some (.int x2), none] [] (hp Γ ρ σ) := by
  unfold f_X5_takeNumber_105 at hf
  refine go_iconst 0 dX5_takeNumber_105 (by decide) ?_
  exact w_X5_takeNumber_106 hs h0 x2 0 σ hf
set_option maxRecDepth 100000 in
set_option maxHeartbeats 4000000 in
theorem w_X5_takeNumber_69 {N : Nat} {Γ : SG} {ρ : Nat → Nat → Nat} (hs : Sh Γ ρ) {this : Nat} (h0 : Γ[this]? = some (0, 5)) {n0 : Nat} {r : Int32} {σr : St} (x2 : Int32) (σ : St) (hf : f_X5_takeNumber_69 N ρ this x2 σ = some (r, σr)) : Go mX5_takeNumber 0 0 0 n0 (Kv Γ ρ σr) 0 0 69 [some (.ref this), some (.ref (ρ (ρ this 0) 0)), some (.int x2), none] [] (hp Γ ρ σ) := by
  unfold f_X5_takeNumber_69 at hf
  refine go_aload_n 0 dX5_takeNumber_69 rfl rfl ?_
  refine go_iload_n 2 dX5_takeNumber_70 rfl rfl ?_
  obtain ⟨σ4, eσ4, hf⟩ := nmd_some hf
  refine go_pI fl_X5_22 ft_5_2 (okv_i _) dX5_takeNumber_71 h0 (by decide) rfl ?_
  rw [eσ4]
  refine go_iload_n 2 dX5_takeNumber_74 rfl rfl ?_
  refine go_aload_n 0 dX5_takeNumber_75 rfl rfl ?_
  refine go_fR fl_X5_12 dX5_takeNumber_76 h0 (by decide) rfl ?_
  refine go_fI fl_X5_66 dX5_takeNumber_79 (hs.1 _ 5 0 h0 rfl) (by decide) rfl ?_
  refine go_icmp_ge 105 dX5_takeNumber_82 (by decide) (fun c5 => ?_) (fun c5 => ?_)
  · replace hf := (if_pos c5).symm.trans hf
    refine go_msk [true, false, true, false] [some (.ref this), none, some (.int x2), none] rfl ?_
    exact w_X5_takeNumber_105 hs h0 x2 σ4 hf
  · replace hf := (if_neg c5).symm.trans hf
    refine go_aload_n 1 dX5_takeNumber_85 rfl rfl ?_
    refine go_iload_n 2 dX5_takeNumber_86 rfl rfl ?_
    obtain ⟨g6, hf⟩ := gd_some hf
    refine go_rB dX5_takeNumber_87 (hs.1 _ 10 0 (hs.1 _ 5 0 h0 rfl) rfl) (ib_in g6) ?_
    refine go_bipush 97 dX5_takeNumber_88 (by decide) ?_
    refine go_icmp_lt 105 dX5_takeNumber_90 (by decide) (fun c7 => ?_) (fun c7 => ?_)
    · replace hf := (if_pos c7).symm.trans hf
      refine go_msk [true, false, true, false] [some (.ref this), none, some (.int x2), none] rfl ?_
      exact w_X5_takeNumber_105 hs h0 x2 σ4 hf
    · replace hf := (if_neg c7).symm.trans hf
      refine go_aload_n 1 dX5_takeNumber_93 rfl rfl ?_
      refine go_iload_n 2 dX5_takeNumber_94 rfl rfl ?_
      obtain ⟨g8, hf⟩ := gd_some hf
      refine go_rB dX5_takeNumber_95 (hs.1 _ 10 0 (hs.1 _ 5 0 h0 rfl) rfl) (ib_in g8) ?_
      refine go_bipush 122 dX5_takeNumber_96 (by decide) ?_
      refine go_icmp_gt 105 dX5_takeNumber_98 (by decide) (fun c9 => ?_) (fun c9 => ?_)
      · replace hf := (if_pos c9).symm.trans hf
        refine go_msk [true, false, true, false] [some (.ref this), none, some (.int x2), none] rfl ?_
        exact w_X5_takeNumber_105 hs h0 x2 σ4 hf
      · replace hf := (if_neg c9).symm.trans hf
        refine go_iconst 1 dX5_takeNumber_101 (by decide) ?_
        refine go_goto 106 dX5_takeNumber_102 (by decide) ?_
        refine go_msk [true, false, true, false] [some (.ref this), none, some (.int x2), none] rfl ?_
        exact w_X5_takeNumber_106 hs h0 x2 1 σ4 hf
set_option maxRecDepth 100000 in
set_option maxHeartbeats 4000000 in
theorem v_X5_takeNumber_18 {N : Nat} {Γ : SG} {ρ : Nat → Nat → Nat} (hs : Sh Γ ρ) {this : Nat} (h0 : Γ[this]? = some (0, 5)) {n0 : Nat} {r : Int32} {σr : St} (rec18 : Int32 → St → Option (Int32 × St)) (hrec18 : ∀ (x2 : Int32) (σ : St), rec18 x2 σ = some (r, σr) → Go mX5_takeNumber 0 0 0 n0 (Kv Γ ρ σr) 0 0 18 [some (.ref this), some (.ref (ρ (ρ this 0) 0)), some (.int x2), none] [] (hp Γ ρ σ)) (x2 : Int32) (σ : St) (hf : b_X5_takeNumber_18 N ρ this rec18 x2 σ = some (r, σr)) : Go mX5_takeNumber 0 0 0 n0 (Kv Γ ρ σr) 0 0 18 [some (.ref this), some (.ref (ρ (ρ this 0) 0)), some (.int x2), none] [] (hp Γ ρ σ) := by
  unfold b_X5_takeNumber_18 at hf
  refine go_iload_n 2 dX5_takeNumber_18 rfl rfl ?_
  refine go_aload_n 0 dX5_takeNumber_19 rfl rfl ?_
  refine go_fR fl_X5_12 dX5_takeNumber_20 h0 (by decide) rfl ?_
  refine go_fI fl_X5_66 dX5_takeNumber_23 (hs.1 _ 5 0 h0 rfl) (by decide) rfl ?_
  refine go_icmp_ge 69 dX5_takeNumber_26 (by decide) (fun c10 => ?_) (fun c10 => ?_)
  · replace hf := (if_pos c10).symm.trans hf
    exact w_X5_takeNumber_69 hs h0 x2 σ hf
  · replace hf := (if_neg c10).symm.trans hf
    refine go_aload_n 1 dX5_takeNumber_29 rfl rfl ?_
    refine go_iload_n 2 dX5_takeNumber_30 rfl rfl ?_
    obtain ⟨g11, hf⟩ := gd_some hf
    refine go_rB dX5_takeNumber_31 (hs.1 _ 10 0 (hs.1 _ 5 0 h0 rfl) rfl) (ib_in g11) ?_
    refine go_bipush 48 dX5_takeNumber_32 (by decide) ?_
    refine go_icmp_lt 69 dX5_takeNumber_34 (by decide) (fun c12 => ?_) (fun c12 => ?_)
    · replace hf := (if_pos c12).symm.trans hf
      exact w_X5_takeNumber_69 hs h0 x2 σ hf
    · replace hf := (if_neg c12).symm.trans hf
      refine go_aload_n 1 dX5_takeNumber_37 rfl rfl ?_
      refine go_iload_n 2 dX5_takeNumber_38 rfl rfl ?_
      obtain ⟨g13, hf⟩ := gd_some hf
      refine go_rB dX5_takeNumber_39 (hs.1 _ 10 0 (hs.1 _ 5 0 h0 rfl) rfl) (ib_in g13) ?_
      refine go_bipush 57 dX5_takeNumber_40 (by decide) ?_
      refine go_icmp_gt 69 dX5_takeNumber_42 (by decide) (fun c14 => ?_) (fun c14 => ?_)
      · replace hf := (if_pos c14).symm.trans hf
        exact w_X5_takeNumber_69 hs h0 x2 σ hf
      · replace hf := (if_neg c14).symm.trans hf
        refine go_aload_n 0 dX5_takeNumber_45 rfl rfl ?_
        refine go_aload_n 0 dX5_takeNumber_46 rfl rfl ?_
        refine go_fI fl_X5_32 dX5_takeNumber_47 h0 (by decide) rfl ?_
        refine go_bipush 10 dX5_takeNumber_50 (by decide) ?_
        refine go_imul dX5_takeNumber_52 ?_
        refine go_aload_n 1 dX5_takeNumber_53 rfl rfl ?_
        refine go_iload_n 2 dX5_takeNumber_54 rfl rfl ?_
        obtain ⟨g15, hf⟩ := gd_some hf
        refine go_rB dX5_takeNumber_55 (hs.1 _ 10 0 (hs.1 _ 5 0 h0 rfl) rfl) (ib_in g15) ?_
        refine go_bipush 48 dX5_takeNumber_56 (by decide) ?_
        refine go_isub dX5_takeNumber_58 ?_
        refine go_iadd dX5_takeNumber_59 ?_
        obtain ⟨σ16, eσ16, hf⟩ := nmd_some hf
        refine go_pI fl_X5_32 ft_5_5 (okv_i _) dX5_takeNumber_60 h0 (by decide) rfl ?_
        rw [eσ16]
        refine go_iinc (x2 + 1) [some (.ref this), some (.ref (ρ (ρ this 0) 0)), some (.int (x2 + 1)), none] dX5_takeNumber_63 rfl rfl (by decide) rfl ?_
        refine go_goto 18 dX5_takeNumber_66 (by decide) ?_
        exact hrec18 (x2 + 1) σ16 hf
theorem w_X5_takeNumber_18 {N : Nat} {Γ : SG} {ρ : Nat → Nat → Nat} (hs : Sh Γ ρ) {this : Nat} (h0 : Γ[this]? = some (0, 5)) {n0 : Nat} {r : Int32} {σr : St} : ∀ (n : Nat) (x2 : Int32) (σ : St), f_X5_takeNumber_18 N ρ this n x2 σ = some (r, σr) → Go mX5_takeNumber 0 0 0 n0 (Kv Γ ρ σr) 0 0 18 [some (.ref this), some (.ref (ρ (ρ this 0) 0)), some (.int x2), none] [] (hp Γ ρ σ) := by
  intro n
  induction n with
  | zero => intro x2 σ hf; cases hf
  | succ n ih => intro x2 σ hf; exact v_X5_takeNumber_18 hs h0 _ ih x2 σ hf
set_option maxRecDepth 100000 in
set_option maxHeartbeats 4000000 in
theorem t_X5_takeNumber {N : Nat} {Γ : SG} {ρ : Nat → Nat → Nat} (hs : Sh Γ ρ) {this : Nat} (h0 : Γ[this]? = some (0, 5)) {σ : St} {r : Int32} {σr : St} (hf : f_X5_takeNumber N ρ this σ = some (r, σr)) : Tri mX5_takeNumber 0 0 0 [.ref this] (hp Γ ρ σ) (Kv Γ ρ σr) := by
  unfold f_X5_takeNumber at hf
  refine tri_of [some (.ref this), none, none, none] (plainFor_of_name rfl) rfl (Nat.le_of_ble_eq_true rfl) ?_
  refine go_aload_n 0 dX5_takeNumber_0 rfl rfl ?_
  refine go_fR fl_X5_12 dX5_takeNumber_1 h0 (by decide) rfl ?_
  refine go_fR fl_X5_62 dX5_takeNumber_4 (hs.1 _ 5 0 h0 rfl) (by decide) rfl ?_
  refine go_astore_n 1 [some (.ref this), some (.ref (ρ (ρ this 0) 0)), none, none] dX5_takeNumber_7 rfl (by decide) rfl ?_
  refine go_aload_n 0 dX5_takeNumber_8 rfl rfl ?_
  refine go_fI fl_X5_26 dX5_takeNumber_9 h0 (by decide) rfl ?_
  obtain ⟨y17, ey17, hf⟩ := nmd_some hf
  refine go_nm ey17 ?_
  refine go_istore_n 2 [some (.ref this), some (.ref (ρ (ρ this 0) 0)), some (.int y17), none] dX5_takeNumber_12 rfl (by decide) rfl ?_
  refine go_aload_n 0 dX5_takeNumber_13 rfl rfl ?_
  refine go_iconst 0 dX5_takeNumber_14 (by decide) ?_
  obtain ⟨σ18, eσ18, hf⟩ := nmd_some hf
  refine go_pI fl_X5_32 ft_5_5 (okv_i _) dX5_takeNumber_15 h0 (by decide) rfl ?_
  rw [eσ18]
  exact w_X5_takeNumber_18 hs h0 N y17 σ18 hf
def f_X5_takeWord_137 (N : Nat) (ρ : Nat → Nat → Nat) (this : Nat) (rec100 : Int32 → St → Option (Int32 × St)) (x3 : Int32) (σ : St) : Option (Int32 × St) :=
  rec100 (x3 + 1) σ
def f_X5_takeWord_143 (N : Nat) (ρ : Nat → Nat → Nat) (this : Nat) (σ : St) : Option (Int32 × St) :=
  some (0, σ)
def b_X5_takeWord_100 (N : Nat) (ρ : Nat → Nat → Nat) (this : Nat) (rec100 : Int32 → St → Option (Int32 × St)) (x3 : Int32) (σ : St) : Option (Int32 × St) :=
  if (σ.1 this 4 : Int32) = 101 then
    if (nI 20) ≤ (x3 : Int32) then
      f_X5_takeWord_143 N ρ this σ
    else
      gd (ib x3 20) <|
      if (lg_cmp (σ.2 (ρ this 1) x3.toNatClampNeg) (σ.2 this 6) : Int32) = 0 then
        nmd (sI σ this 4 x3) fun σ5 =>
        f_X5_takeWord_137 N ρ this rec100 x3 σ5
      else
        f_X5_takeWord_137 N ρ this rec100 x3 σ
  else
    f_X5_takeWord_143 N ρ this σ
def f_X5_takeWord_100 (N : Nat) (ρ : Nat → Nat → Nat) (this : Nat) : Nat → Int32 → St → Option (Int32 × St)
  | 0, _, _ => none
  | n + 1, x3, σ => b_X5_takeWord_100 N ρ this (f_X5_takeWord_100 N ρ this n) x3 σ
def f_X5_takeWord_95 (N : Nat) (ρ : Nat → Nat → Nat) (this : Nat) (s0 : Int32) (σ : St) : Option (Int32 × St) :=
  nmd (sI σ this 4 s0) fun σ6 =>
  f_X5_takeWord_100 N ρ this N 1 σ6
def f_X5_takeWord_71 (N : Nat) (ρ : Nat → Nat → Nat) (this : Nat) (x2 : Int32) (σ : St) : Option (Int32 × St) :=
  nmd (sI σ this 2 x2) fun σ7 =>
  if (x2 - (σ7.1 this 3) : Int32) ≤ 8 then
    f_X5_takeWord_95 N ρ this 101 σ7
  else
    f_X5_takeWord_95 N ρ this 103 σ7
def b_X5_takeWord_18 (N : Nat) (ρ : Nat → Nat → Nat) (this : Nat) (rec18 : Int32 → St → Option (Int32 × St)) (x2 : Int32) (σ : St) : Option (Int32 × St) :=
  if (σ.1 (ρ this 0) 1) ≤ (x2 : Int32) then
    f_X5_takeWord_71 N ρ this x2 σ
  else
    gd (ib x2 1600) <|
    if (σ.1 (ρ (ρ this 0) 0) x2.toNatClampNeg : Int32) < 97 then
      f_X5_takeWord_71 N ρ this x2 σ
    else
      gd (ib x2 1600) <|
      if 122 < (σ.1 (ρ (ρ this 0) 0) x2.toNatClampNeg : Int32) then
        f_X5_takeWord_71 N ρ this x2 σ
      else
        gd (ib x2 1600) <|
        nmd (sJ σ this 6 (((σ.2 this 6) * (32)) + (((σ.1 (ρ (ρ this 0) 0) x2.toNatClampNeg) - 96).toInt64))) fun σ15 =>
        rec18 (x2 + 1) σ15
def f_X5_takeWord_18 (N : Nat) (ρ : Nat → Nat → Nat) (this : Nat) : Nat → Int32 → St → Option (Int32 × St)
  | 0, _, _ => none
  | n + 1, x2, σ => b_X5_takeWord_18 N ρ this (f_X5_takeWord_18 N ρ this n) x2 σ
def f_X5_takeWord (N : Nat) (ρ : Nat → Nat → Nat) (this : Nat) (σ : St) : Option (Int32 × St) :=
  nmd (σ.1 this 3) fun y16 =>
  nmd (sJ σ this 6 0) fun σ17 =>
  f_X5_takeWord_18 N ρ this N y16 σ17
set_option maxRecDepth 100000 in
set_option maxHeartbeats 4000000 in
theorem w_X5_takeWord_137 {N : Nat} {Γ : SG} {ρ : Nat → Nat → Nat} (hs : Sh Γ ρ) {this : Nat} (h0 : Γ[this]? = some (0, 5)) {n0 : Nat} {r : Int32} {σr : St} (rec100 : Int32 → St → Option (Int32 × St)) (hrec100 : ∀ (x3 : Int32) (σ : St), rec100 x3 σ = some (r, σr) → Go mX5_takeWord 0 0 0 n0 (Kv Γ ρ σr) 0 0 100 [some (.ref this), none, none, some (.int x3)] [] (hp Γ ρ σ)) (x3 : Int32) (σ : St) (hf : f_X5_takeWord_137 N ρ this rec100 x3 σ = some (r, σr)) : Go mX5_takeWord 0 0 0 n0 (Kv Γ ρ σr) 0 0 137 [some (.ref this), none, none, some (.int x3)] [] (hp Γ ρ σ) := by
  unfold f_X5_takeWord_137 at hf
  refine go_iinc (x3 + 1) [some (.ref this), none, none, some (.int (x3 + 1))] dX5_takeWord_137 rfl rfl (by decide) rfl ?_
  refine go_goto 100 dX5_takeWord_140 (by decide) ?_
  exact hrec100 (x3 + 1) σ hf
set_option maxRecDepth 100000 in
set_option maxHeartbeats 4000000 in
theorem w_X5_takeWord_143 {N : Nat} {Γ : SG} {ρ : Nat → Nat → Nat} (hs : Sh Γ ρ) {this : Nat} (h0 : Γ[this]? = some (0, 5)) {n0 : Nat} {r : Int32} {σr : St} (σ : St) (hf : f_X5_takeWord_143 N ρ this σ = some (r, σr)) : Go mX5_takeWord 0 0 0 n0 (Kv Γ ρ σr) 0 0 143 [none, none, none, none] [] (hp Γ ρ σ) := by
  unfold f_X5_takeWord_143 at hf
  cases hf
  exact go_vret rfl dX5_takeWord_143 (Nat.le_refl _) ⟨rfl, rfl⟩
set_option maxRecDepth 100000 in
set_option maxHeartbeats 4000000 in
theorem v_X5_takeWord_100 {N : Nat} {Γ : SG} {ρ : Nat → Nat → Nat} (hs : Sh Γ ρ) {this : Nat} (h0 : Γ[this]? = some (0, 5)) {n0 : Nat} {r : Int32} {σr : St} (rec100 : Int32 → St → Option (Int32 × St)) (hrec100 : ∀ (x3 : Int32) (σ : St), rec100 x3 σ = some (r, σr) → Go mX5_takeWord 0 0 0 n0 (Kv Γ ρ σr) 0 0 100 [some (.ref this), none, none, some (.int x3)] [] (hp Γ ρ σ)) (x3 : Int32) (σ : St) (hf : b_X5_takeWord_100 N ρ this rec100 x3 σ = some (r, σr)) : Go mX5_takeWord 0 0 0 n0 (Kv Γ ρ σr) 0 0 100 [some (.ref this), none, none, some (.int x3)] [] (hp Γ ρ σ) := by
  unfold b_X5_takeWord_100 at hf
  refine go_aload_n 0 dX5_takeWord_100 rfl rfl ?_
  refine go_fI fl_X5_29 dX5_takeWord_101 h0 (by decide) rfl ?_
  refine go_bipush 101 dX5_takeWord_104 (by decide) ?_
  refine go_icmp_ne 143 dX5_takeWord_106 (by decide) (fun c1 => ?_) (fun c1 => ?_)
  · replace hf := (if_neg c1).symm.trans hf
    refine go_msk [false, false, false, false] [none, none, none, none] rfl ?_
    exact w_X5_takeWord_143 hs h0 σ hf
  · replace hf := (if_pos c1).symm.trans hf
    refine go_iload_n 3 dX5_takeWord_109 rfl rfl ?_
    refine go_aload_n 0 dX5_takeWord_110 rfl rfl ?_
    refine go_fR fl_X5_18 dX5_takeWord_111 h0 (by decide) rfl ?_
    refine go_len dX5_takeWord_114 (hs.1 _ 5 1 h0 rfl) (by decide) ?_
    refine go_icmp_ge 143 dX5_takeWord_115 (by decide) (fun c2 => ?_) (fun c2 => ?_)
    · replace hf := (if_pos c2).symm.trans hf
      refine go_msk [false, false, false, false] [none, none, none, none] rfl ?_
      exact w_X5_takeWord_143 hs h0 σ hf
    · replace hf := (if_neg c2).symm.trans hf
      refine go_aload_n 0 dX5_takeWord_118 rfl rfl ?_
      refine go_fR fl_X5_18 dX5_takeWord_119 h0 (by decide) rfl ?_
      refine go_iload_n 3 dX5_takeWord_122 rfl rfl ?_
      obtain ⟨g3, hf⟩ := gd_some hf
      refine go_rJ dX5_takeWord_123 (hs.1 _ 5 1 h0 rfl) (ib_in g3) ?_
      refine go_aload_n 0 dX5_takeWord_124 rfl rfl ?_
      refine go_fJ fl_X5_35 dX5_takeWord_125 h0 (by decide) rfl ?_
      refine go_lcmp dX5_takeWord_128 ?_
      refine go_if_ne 137 dX5_takeWord_129 (by decide) (fun c4 => ?_) (fun c4 => ?_)
      · replace hf := (if_neg c4).symm.trans hf
        exact w_X5_takeWord_137 hs h0 rec100 hrec100 x3 σ hf
      · replace hf := (if_pos c4).symm.trans hf
        refine go_aload_n 0 dX5_takeWord_132 rfl rfl ?_
        refine go_iload_n 3 dX5_takeWord_133 rfl rfl ?_
        obtain ⟨σ5, eσ5, hf⟩ := nmd_some hf
        refine go_pI fl_X5_29 ft_5_4 (okv_i _) dX5_takeWord_134 h0 (by decide) rfl ?_
        rw [eσ5]
        exact w_X5_takeWord_137 hs h0 rec100 hrec100 x3 σ5 hf
theorem w_X5_takeWord_100 {N : Nat} {Γ : SG} {ρ : Nat → Nat → Nat} (hs : Sh Γ ρ) {this : Nat} (h0 : Γ[this]? = some (0, 5)) {n0 : Nat} {r : Int32} {σr : St} : ∀ (n : Nat) (x3 : Int32) (σ : St), f_X5_takeWord_100 N ρ this n x3 σ = some (r, σr) → Go mX5_takeWord 0 0 0 n0 (Kv Γ ρ σr) 0 0 100 [some (.ref this), none, none, some (.int x3)] [] (hp Γ ρ σ) := by
  intro n
  induction n with
  | zero => intro x3 σ hf; cases hf
  | succ n ih => intro x3 σ hf; exact v_X5_takeWord_100 hs h0 _ ih x3 σ hf
set_option maxRecDepth 100000 in
set_option maxHeartbeats 4000000 in
theorem w_X5_takeWord_95 {N : Nat} {Γ : SG} {ρ : Nat → Nat → Nat} (hs : Sh Γ ρ) {this : Nat} (h0 : Γ[this]? = some (0, 5)) {n0 : Nat} {r : Int32} {σr : St} (s0 : Int32) (σ : St) (hf : f_X5_takeWord_95 N ρ this s0 σ = some (r, σr)) : Go mX5_takeWord 0 0 0 n0 (Kv Γ ρ σr) 0 0 95 [some (.ref this), none, none, none] [.int s0, .ref this] (hp Γ ρ σ) := by
  unfold f_X5_takeWord_95 at hf
  obtain ⟨σ6, eσ6, hf⟩ := nmd_some hf
  refine go_pI fl_X5_29 ft_5_4 (okv_i _) dX5_takeWord_95 h0 (by decide) rfl ?_
  rw [eσ6]
  refine go_iconst 1 dX5_takeWord_98 (by decide) ?_
  refine go_istore_n 3 [some (.ref this), none, none, some (.int 1)] dX5_takeWord_99 rfl (by decide) rfl ?_
  exact w_X5_takeWord_100 hs h0 N 1 σ6 hf
set_option maxRecDepth 100000 in
set_option maxHeartbeats 4000000 in
theorem w_X5_takeWord_71 {N : Nat} {Γ : SG} {ρ : Nat → Nat → Nat} (hs : Sh Γ ρ) {this : Nat} (h0 : Γ[this]? = some (0, 5)) {n0 : Nat} {r : Int32} {σr : St} (x2 : Int32) (σ : St) (hf : f_X5_takeWord_71 N ρ this x2 σ = some (r, σr)) : Go mX5_takeWord 0 0 0 n0 (Kv Γ ρ σr) 0 0 71 [some (.ref this), none, some (.int x2), none] [] (hp Γ ρ σ) := by
  unfold f_X5_takeWord_71 at hf
  refine go_aload_n 0 dX5_takeWord_71 rfl rfl ?_
  refine go_iload_n 2 dX5_takeWord_72 rfl rfl ?_
  obtain ⟨σ7, eσ7, hf⟩ := nmd_some hf
  refine go_pI fl_X5_22 ft_5_2 (okv_i _) dX5_takeWord_73 h0 (by decide) rfl ?_
  rw [eσ7]
  refine go_aload_n 0 dX5_takeWord_76 rfl rfl ?_
  refine go_iload_n 2 dX5_takeWord_77 rfl rfl ?_
  refine go_aload_n 0 dX5_takeWord_78 rfl rfl ?_
  refine go_fI fl_X5_26 dX5_takeWord_79 h0 (by decide) rfl ?_
  refine go_isub dX5_takeWord_82 ?_
  refine go_bipush 8 dX5_takeWord_83 (by decide) ?_
  refine go_icmp_le 93 dX5_takeWord_85 (by decide) (fun c8 => ?_) (fun c8 => ?_)
  · replace hf := (if_pos c8).symm.trans hf
    refine go_bipush 101 dX5_takeWord_93 (by decide) ?_
    refine go_msk [true, false, false, false] [some (.ref this), none, none, none] rfl ?_
    exact w_X5_takeWord_95 hs h0 101 σ7 hf
  · replace hf := (if_neg c8).symm.trans hf
    refine go_bipush 103 dX5_takeWord_88 (by decide) ?_
    refine go_goto 95 dX5_takeWord_90 (by decide) ?_
    refine go_msk [true, false, false, false] [some (.ref this), none, none, none] rfl ?_
    exact w_X5_takeWord_95 hs h0 103 σ7 hf
set_option maxRecDepth 100000 in
set_option maxHeartbeats 4000000 in
theorem v_X5_takeWord_18 {N : Nat} {Γ : SG} {ρ : Nat → Nat → Nat} (hs : Sh Γ ρ) {this : Nat} (h0 : Γ[this]? = some (0, 5)) {n0 : Nat} {r : Int32} {σr : St} (rec18 : Int32 → St → Option (Int32 × St)) (hrec18 : ∀ (x2 : Int32) (σ : St), rec18 x2 σ = some (r, σr) → Go mX5_takeWord 0 0 0 n0 (Kv Γ ρ σr) 0 0 18 [some (.ref this), some (.ref (ρ (ρ this 0) 0)), some (.int x2), none] [] (hp Γ ρ σ)) (x2 : Int32) (σ : St) (hf : b_X5_takeWord_18 N ρ this rec18 x2 σ = some (r, σr)) : Go mX5_takeWord 0 0 0 n0 (Kv Γ ρ σr) 0 0 18 [some (.ref this), some (.ref (ρ (ρ this 0) 0)), some (.int x2), none] [] (hp Γ ρ σ) := by
  unfold b_X5_takeWord_18 at hf
  refine go_iload_n 2 dX5_takeWord_18 rfl rfl ?_
  refine go_aload_n 0 dX5_takeWord_19 rfl rfl ?_
  refine go_fR fl_X5_12 dX5_takeWord_20 h0 (by decide) rfl ?_
  refine go_fI fl_X5_66 dX5_takeWord_23 (hs.1 _ 5 0 h0 rfl) (by decide) rfl ?_
  refine go_icmp_ge 71 dX5_takeWord_26 (by decide) (fun c9 => ?_) (fun c9 => ?_)
  · replace hf := (if_pos c9).symm.trans hf
    refine go_msk [true, false, true, false] [some (.ref this), none, some (.int x2), none] rfl ?_
    exact w_X5_takeWord_71 hs h0 x2 σ hf
  · replace hf := (if_neg c9).symm.trans hf
    refine go_aload_n 1 dX5_takeWord_29 rfl rfl ?_
    refine go_iload_n 2 dX5_takeWord_30 rfl rfl ?_
    obtain ⟨g10, hf⟩ := gd_some hf
    refine go_rB dX5_takeWord_31 (hs.1 _ 10 0 (hs.1 _ 5 0 h0 rfl) rfl) (ib_in g10) ?_
    refine go_bipush 97 dX5_takeWord_32 (by decide) ?_
    refine go_icmp_lt 71 dX5_takeWord_34 (by decide) (fun c11 => ?_) (fun c11 => ?_)
    · replace hf := (if_pos c11).symm.trans hf
      refine go_msk [true, false, true, false] [some (.ref this), none, some (.int x2), none] rfl ?_
      exact w_X5_takeWord_71 hs h0 x2 σ hf
    · replace hf := (if_neg c11).symm.trans hf
      refine go_aload_n 1 dX5_takeWord_37 rfl rfl ?_
      refine go_iload_n 2 dX5_takeWord_38 rfl rfl ?_
      obtain ⟨g12, hf⟩ := gd_some hf
      refine go_rB dX5_takeWord_39 (hs.1 _ 10 0 (hs.1 _ 5 0 h0 rfl) rfl) (ib_in g12) ?_
      refine go_bipush 122 dX5_takeWord_40 (by decide) ?_
      refine go_icmp_gt 71 dX5_takeWord_42 (by decide) (fun c13 => ?_) (fun c13 => ?_)
      · replace hf := (if_pos c13).symm.trans hf
        refine go_msk [true, false, true, false] [some (.ref this), none, some (.int x2), none] rfl ?_
        exact w_X5_takeWord_71 hs h0 x2 σ hf
      · replace hf := (if_neg c13).symm.trans hf
        refine go_aload_n 0 dX5_takeWord_45 rfl rfl ?_
        refine go_aload_n 0 dX5_takeWord_46 rfl rfl ?_
        refine go_fJ fl_X5_35 dX5_takeWord_47 h0 (by decide) rfl ?_
        refine go_ldc2 (32) dX5_takeWord_50 cn_X5_57 ?_
        refine go_lmul dX5_takeWord_53 ?_
        refine go_aload_n 1 dX5_takeWord_54 rfl rfl ?_
        refine go_iload_n 2 dX5_takeWord_55 rfl rfl ?_
        obtain ⟨g14, hf⟩ := gd_some hf
        refine go_rB dX5_takeWord_56 (hs.1 _ 10 0 (hs.1 _ 5 0 h0 rfl) rfl) (ib_in g14) ?_
        refine go_bipush 96 dX5_takeWord_57 (by decide) ?_
        refine go_isub dX5_takeWord_59 ?_
        refine go_i2l dX5_takeWord_60 ?_
        refine go_ladd dX5_takeWord_61 ?_
        obtain ⟨σ15, eσ15, hf⟩ := nmd_some hf
        refine go_pJ fl_X5_35 ft_5_6 dX5_takeWord_62 h0 (by decide) rfl ?_
        rw [eσ15]
        refine go_iinc (x2 + 1) [some (.ref this), some (.ref (ρ (ρ this 0) 0)), some (.int (x2 + 1)), none] dX5_takeWord_65 rfl rfl (by decide) rfl ?_
        refine go_goto 18 dX5_takeWord_68 (by decide) ?_
        exact hrec18 (x2 + 1) σ15 hf
theorem w_X5_takeWord_18 {N : Nat} {Γ : SG} {ρ : Nat → Nat → Nat} (hs : Sh Γ ρ) {this : Nat} (h0 : Γ[this]? = some (0, 5)) {n0 : Nat} {r : Int32} {σr : St} : ∀ (n : Nat) (x2 : Int32) (σ : St), f_X5_takeWord_18 N ρ this n x2 σ = some (r, σr) → Go mX5_takeWord 0 0 0 n0 (Kv Γ ρ σr) 0 0 18 [some (.ref this), some (.ref (ρ (ρ this 0) 0)), some (.int x2), none] [] (hp Γ ρ σ) := by
  intro n
  induction n with
  | zero => intro x2 σ hf; cases hf
  | succ n ih => intro x2 σ hf; exact v_X5_takeWord_18 hs h0 _ ih x2 σ hf
set_option maxRecDepth 100000 in
set_option maxHeartbeats 4000000 in
theorem t_X5_takeWord {N : Nat} {Γ : SG} {ρ : Nat → Nat → Nat} (hs : Sh Γ ρ) {this : Nat} (h0 : Γ[this]? = some (0, 5)) {σ : St} {r : Int32} {σr : St} (hf : f_X5_takeWord N ρ this σ = some (r, σr)) : Tri mX5_takeWord 0 0 0 [.ref this] (hp Γ ρ σ) (Kv Γ ρ σr) := by
  unfold f_X5_takeWord at hf
  refine tri_of [some (.ref this), none, none, none] (plainFor_of_name rfl) rfl (Nat.le_of_ble_eq_true rfl) ?_
  refine go_aload_n 0 dX5_takeWord_0 rfl rfl ?_
  refine go_fR fl_X5_12 dX5_takeWord_1 h0 (by decide) rfl ?_
  refine go_fR fl_X5_62 dX5_takeWord_4 (hs.1 _ 5 0 h0 rfl) (by decide) rfl ?_
  refine go_astore_n 1 [some (.ref this), some (.ref (ρ (ρ this 0) 0)), none, none] dX5_takeWord_7 rfl (by decide) rfl ?_
  refine go_aload_n 0 dX5_takeWord_8 rfl rfl ?_
  refine go_fI fl_X5_26 dX5_takeWord_9 h0 (by decide) rfl ?_
  obtain ⟨y16, ey16, hf⟩ := nmd_some hf
  refine go_nm ey16 ?_
  refine go_istore_n 2 [some (.ref this), some (.ref (ρ (ρ this 0) 0)), some (.int y16), none] dX5_takeWord_12 rfl (by decide) rfl ?_
  refine go_aload_n 0 dX5_takeWord_13 rfl rfl ?_
  refine go_lconst 0 dX5_takeWord_14 rfl ?_
  obtain ⟨σ17, eσ17, hf⟩ := nmd_some hf
  refine go_pJ fl_X5_35 ft_5_6 dX5_takeWord_15 h0 (by decide) rfl ?_
  rw [eσ17]
  exact w_X5_takeWord_18 hs h0 N y16 σ17 hf
def f_X5_advance_40 (N : Nat) (ρ : Nat → Nat → Nat) (this : Nat) (rec13 : Int32 → St → Option (Int32 × St)) (x2 : Int32) (σ : St) : Option (Int32 × St) :=
  rec13 (x2 + 1) σ
def f_X5_advance_159 (N : Nat) (ρ : Nat → Nat → Nat) (this : Nat) (σ : St) : Option (Int32 × St) :=
  some (0, σ)
def f_X5_advance_156 (N : Nat) (ρ : Nat → Nat → Nat) (this : Nat) (s0 : Int32) (σ : St) : Option (Int32 × St) :=
  nmd (sI σ this 4 s0) fun σ1 =>
  f_X5_advance_159 N ρ this σ1
def f_X5_advance_154 (N : Nat) (ρ : Nat → Nat → Nat) (this : Nat) (σ : St) : Option (Int32 × St) :=
  f_X5_advance_156 N ρ this 103 σ
def f_X5_advance_129 (N : Nat) (ρ : Nat → Nat → Nat) (this : Nat) (x2 : Int32) (σ : St) : Option (Int32 × St) :=
  gd (ib x2 1600) <|
  if (σ.1 (ρ (ρ this 0) 0) x2.toNatClampNeg : Int32) ≤ 0 then
    f_X5_advance_154 N ρ this σ
  else
    gd (ib x2 1600) <|
    bnd (f_J0_indexOf_0f7a4 N ρ 1 (((σ.1 (ρ (ρ this 0) 0) x2.toNatClampNeg).toUInt32 % 65536).toInt32) σ) fun r5 σ6 =>
    if (r5 : Int32) < 0 then
      f_X5_advance_154 N ρ this σ6
    else
      gd (ib x2 1600) <|
      f_X5_advance_156 N ρ this (σ6.1 (ρ (ρ this 0) 0) x2.toNatClampNeg) σ6
def f_X5_advance_106 (N : Nat) (ρ : Nat → Nat → Nat) (this : Nat) (x2 : Int32) (σ : St) : Option (Int32 × St) :=
  gd (ib x2 1600) <|
  if (σ.1 (ρ (ρ this 0) 0) x2.toNatClampNeg : Int32) < 48 then
    f_X5_advance_129 N ρ this x2 σ
  else
    gd (ib x2 1600) <|
    if 57 < (σ.1 (ρ (ρ this 0) 0) x2.toNatClampNeg : Int32) then
      f_X5_advance_129 N ρ this x2 σ
    else
      bnd (f_X5_takeNumber N ρ this σ) fun _ σ15 =>
      f_X5_advance_159 N ρ this σ15
def f_X5_advance_46 (N : Nat) (ρ : Nat → Nat → Nat) (this : Nat) (x2 : Int32) (σ : St) : Option (Int32 × St) :=
  nmd (sI σ this 3 x2) fun σ17 =>
  nmd (sI σ17 this 2 (x2 + 1)) fun σ18 =>
  if (x2 : Int32) < (σ18.1 (ρ this 0) 1) then
    gd (ib x2 1600) <|
    if (σ18.1 (ρ (ρ this 0) 0) x2.toNatClampNeg : Int32) < 97 then
      f_X5_advance_106 N ρ this x2 σ18
    else
      gd (ib x2 1600) <|
      if 122 < (σ18.1 (ρ (ρ this 0) 0) x2.toNatClampNeg : Int32) then
        f_X5_advance_106 N ρ this x2 σ18
      else
        bnd (f_X5_takeWord N ρ this σ18) fun _ σ25 =>
        f_X5_advance_159 N ρ this σ25
  else
    nmd (sI σ18 this 4 102) fun σ27 =>
    nmd (sI σ27 this 2 x2) fun σ28 =>
    f_X5_advance_159 N ρ this σ28
def b_X5_advance_13 (N : Nat) (ρ : Nat → Nat → Nat) (this : Nat) (rec13 : Int32 → St → Option (Int32 × St)) (x2 : Int32) (σ : St) : Option (Int32 × St) :=
  if (σ.1 (ρ this 0) 1) ≤ (x2 : Int32) then
    f_X5_advance_46 N ρ this x2 σ
  else
    gd (ib x2 1600) <|
    if (σ.1 (ρ (ρ this 0) 0) x2.toNatClampNeg : Int32) = 32 then
      f_X5_advance_40 N ρ this rec13 x2 σ
    else
      gd (ib x2 1600) <|
      if (σ.1 (ρ (ρ this 0) 0) x2.toNatClampNeg : Int32) = 10 then
        f_X5_advance_40 N ρ this rec13 x2 σ
      else
        f_X5_advance_46 N ρ this x2 σ
def f_X5_advance_13 (N : Nat) (ρ : Nat → Nat → Nat) (this : Nat) : Nat → Int32 → St → Option (Int32 × St)
  | 0, _, _ => none
  | n + 1, x2, σ => b_X5_advance_13 N ρ this (f_X5_advance_13 N ρ this n) x2 σ
def f_X5_advance (N : Nat) (ρ : Nat → Nat → Nat) (this : Nat) (σ : St) : Option (Int32 × St) :=
  nmd (σ.1 this 2) fun y34 =>
  f_X5_advance_13 N ρ this N y34 σ
set_option maxRecDepth 100000 in
set_option maxHeartbeats 4000000 in
theorem w_X5_advance_40 {N : Nat} {Γ : SG} {ρ : Nat → Nat → Nat} (hs : Sh Γ ρ) {this : Nat} (h0 : Γ[this]? = some (0, 5)) {n0 : Nat} {r : Int32} {σr : St} (rec13 : Int32 → St → Option (Int32 × St)) (hrec13 : ∀ (x2 : Int32) (σ : St), rec13 x2 σ = some (r, σr) → Go mX5_advance 4 0 0 n0 (Kv Γ ρ σr) 0 0 13 [some (.ref this), some (.ref (ρ (ρ this 0) 0)), some (.int x2)] [] (hp Γ ρ σ)) (x2 : Int32) (σ : St) (hf : f_X5_advance_40 N ρ this rec13 x2 σ = some (r, σr)) : Go mX5_advance 4 0 0 n0 (Kv Γ ρ σr) 0 0 40 [some (.ref this), some (.ref (ρ (ρ this 0) 0)), some (.int x2)] [] (hp Γ ρ σ) := by
  unfold f_X5_advance_40 at hf
  refine go_iinc (x2 + 1) [some (.ref this), some (.ref (ρ (ρ this 0) 0)), some (.int (x2 + 1))] dX5_advance_40 rfl rfl (by decide) rfl ?_
  refine go_goto 13 dX5_advance_43 (by decide) ?_
  exact hrec13 (x2 + 1) σ hf
set_option maxRecDepth 100000 in
set_option maxHeartbeats 4000000 in
theorem w_X5_advance_159 {N : Nat} {Γ : SG} {ρ : Nat → Nat → Nat} (hs : Sh Γ ρ) {this : Nat} (h0 : Γ[this]? = some (0, 5)) {n0 : Nat} {r : Int32} {σr : St} (σ : St) (hf : f_X5_advance_159 N ρ this σ = some (r, σr)) : Go mX5_advance 4 0 0 n0 (Kv Γ ρ σr) 0 0 159 [none, none, none] [] (hp Γ ρ σ) := by
  unfold f_X5_advance_159 at hf
  cases hf
  exact go_vret rfl dX5_advance_159 (Nat.le_refl _) ⟨rfl, rfl⟩
set_option maxRecDepth 100000 in
set_option maxHeartbeats 4000000 in
theorem w_X5_advance_156 {N : Nat} {Γ : SG} {ρ : Nat → Nat → Nat} (hs : Sh Γ ρ) {this : Nat} (h0 : Γ[this]? = some (0, 5)) {n0 : Nat} {r : Int32} {σr : St} (s0 : Int32) (σ : St) (hf : f_X5_advance_156 N ρ this s0 σ = some (r, σr)) : Go mX5_advance 4 0 0 n0 (Kv Γ ρ σr) 0 0 156 [none, none, none] [.int s0, .ref this] (hp Γ ρ σ) := by
  unfold f_X5_advance_156 at hf
  obtain ⟨σ1, eσ1, hf⟩ := nmd_some hf
  refine go_pI fl_X5_29 ft_5_4 (okv_i _) dX5_advance_156 h0 (by decide) rfl ?_
  rw [eσ1]
  exact w_X5_advance_159 hs h0 σ1 hf
set_option maxRecDepth 100000 in
set_option maxHeartbeats 4000000 in
theorem w_X5_advance_154 {N : Nat} {Γ : SG} {ρ : Nat → Nat → Nat} (hs : Sh Γ ρ) {this : Nat} (h0 : Γ[this]? = some (0, 5)) {n0 : Nat} {r : Int32} {σr : St} (σ : St) (hf : f_X5_advance_154 N ρ this σ = some (r, σr)) : Go mX5_advance 4 0 0 n0 (Kv Γ ρ σr) 0 0 154 [none, none, none] [.ref this] (hp Γ ρ σ) := by
  unfold f_X5_advance_154 at hf
  refine go_bipush 103 dX5_advance_154 (by decide) ?_
  exact w_X5_advance_156 hs h0 103 σ hf
set_option maxRecDepth 100000 in
set_option maxHeartbeats 4000000 in
theorem w_X5_advance_129 {N : Nat} {Γ : SG} {ρ : Nat → Nat → Nat} (hs : Sh Γ ρ) {this : Nat} (h0 : Γ[this]? = some (0, 5)) {n0 : Nat} {r : Int32} {σr : St} (x2 : Int32) (σ : St) (hf : f_X5_advance_129 N ρ this x2 σ = some (r, σr)) : Go mX5_advance 4 0 0 n0 (Kv Γ ρ σr) 0 0 129 [some (.ref this), some (.ref (ρ (ρ this 0) 0)), some (.int x2)] [] (hp Γ ρ σ) := by
  unfold f_X5_advance_129 at hf
  refine go_aload_n 0 dX5_advance_129 rfl rfl ?_
  refine go_aload_n 1 dX5_advance_130 rfl rfl ?_
  refine go_iload_n 2 dX5_advance_131 rfl rfl ?_
  obtain ⟨g2, hf⟩ := gd_some hf
  refine go_rB dX5_advance_132 (hs.1 _ 10 0 (hs.1 _ 5 0 h0 rfl) rfl) (ib_in g2) ?_
  refine go_if_le 154 dX5_advance_133 (by decide) (fun c3 => ?_) (fun c3 => ?_)
  · replace hf := (if_pos c3).symm.trans hf
    refine go_msk [false, false, false] [none, none, none] rfl ?_
    exact w_X5_advance_154 hs h0 σ hf
  · replace hf := (if_neg c3).symm.trans hf
    refine go_lds1 rfl dX5_advance_136 ?_
    refine go_aload_n 1 dX5_advance_138 rfl rfl ?_
    refine go_iload_n 2 dX5_advance_139 rfl rfl ?_
    obtain ⟨g4, hf⟩ := gd_some hf
    refine go_rB dX5_advance_140 (hs.1 _ 10 0 (hs.1 _ 5 0 h0 rfl) rfl) (ib_in g4) ?_
    refine go_i2c dX5_advance_141 ?_
    obtain ⟨r5, σ6, q7, hf⟩ := bnd_some hf
    refine go_Ri (av := [.int (((σ.1 (ρ (ρ this 0) 0) x2.toNatClampNeg).toUInt32 % 65536).toInt32)]) (rest := [.ref this]) (by decide) (t_J0_indexOf_0f7a4 hs (by decide) q7) ok_J0_indexOf_0f7a4 ml_X5_77 dX5_advance_142 rfl rfl (by decide) (Nat.le_refl _) (Nat.le_refl _) (Nat.le_of_ble_eq_true rfl) ?_
    refine go_if_lt 154 dX5_advance_145 (by decide) (fun c8 => ?_) (fun c8 => ?_)
    · replace hf := (if_pos c8).symm.trans hf
      refine go_msk [false, false, false] [none, none, none] rfl ?_
      exact w_X5_advance_154 hs h0 σ6 hf
    · replace hf := (if_neg c8).symm.trans hf
      refine go_aload_n 1 dX5_advance_148 rfl rfl ?_
      refine go_iload_n 2 dX5_advance_149 rfl rfl ?_
      obtain ⟨g9, hf⟩ := gd_some hf
      refine go_rB dX5_advance_150 (hs.1 _ 10 0 (hs.1 _ 5 0 h0 rfl) rfl) (ib_in g9) ?_
      refine go_goto 156 dX5_advance_151 (by decide) ?_
      refine go_msk [false, false, false] [none, none, none] rfl ?_
      exact w_X5_advance_156 hs h0 (σ6.1 (ρ (ρ this 0) 0) x2.toNatClampNeg) σ6 hf
set_option maxRecDepth 100000 in
set_option maxHeartbeats 4000000 in
theorem w_X5_advance_106 {N : Nat} {Γ : SG} {ρ : Nat → Nat → Nat} (hs : Sh Γ ρ) {this : Nat} (h0 : Γ[this]? = some (0, 5)) {n0 : Nat} {r : Int32} {σr : St} (x2 : Int32) (σ : St) (hf : f_X5_advance_106 N ρ this x2 σ = some (r, σr)) : Go mX5_advance 4 0 0 n0 (Kv Γ ρ σr) 0 0 106 [some (.ref this), some (.ref (ρ (ρ this 0) 0)), some (.int x2)] [] (hp Γ ρ σ) := by
  unfold f_X5_advance_106 at hf
  refine go_aload_n 1 dX5_advance_106 rfl rfl ?_
  refine go_iload_n 2 dX5_advance_107 rfl rfl ?_
  obtain ⟨g10, hf⟩ := gd_some hf
  refine go_rB dX5_advance_108 (hs.1 _ 10 0 (hs.1 _ 5 0 h0 rfl) rfl) (ib_in g10) ?_
  refine go_bipush 48 dX5_advance_109 (by decide) ?_
  refine go_icmp_lt 129 dX5_advance_111 (by decide) (fun c11 => ?_) (fun c11 => ?_)
  · replace hf := (if_pos c11).symm.trans hf
    exact w_X5_advance_129 hs h0 x2 σ hf
  · replace hf := (if_neg c11).symm.trans hf
    refine go_aload_n 1 dX5_advance_114 rfl rfl ?_
    refine go_iload_n 2 dX5_advance_115 rfl rfl ?_
    obtain ⟨g12, hf⟩ := gd_some hf
    refine go_rB dX5_advance_116 (hs.1 _ 10 0 (hs.1 _ 5 0 h0 rfl) rfl) (ib_in g12) ?_
    refine go_bipush 57 dX5_advance_117 (by decide) ?_
    refine go_icmp_gt 129 dX5_advance_119 (by decide) (fun c13 => ?_) (fun c13 => ?_)
    · replace hf := (if_pos c13).symm.trans hf
      exact w_X5_advance_129 hs h0 x2 σ hf
    · replace hf := (if_neg c13).symm.trans hf
      refine go_aload_n 0 dX5_advance_122 rfl rfl ?_
      obtain ⟨r14, σ15, q16, hf⟩ := bnd_some hf
      refine go_Vv (av := []) (rest := []) (t_X5_takeNumber hs h0 q16) ok_X5_takeNumber ml_X5_72 dX5_advance_123 h0 rfl rfl (by decide) (Nat.le_refl _) (Nat.le_refl _) (Nat.le_of_ble_eq_true rfl) ?_
      refine go_goto 159 dX5_advance_126 (by decide) ?_
      refine go_msk [false, false, false] [none, none, none] rfl ?_
      exact w_X5_advance_159 hs h0 σ15 hf
set_option maxRecDepth 100000 in
set_option maxHeartbeats 4000000 in
theorem w_X5_advance_46 {N : Nat} {Γ : SG} {ρ : Nat → Nat → Nat} (hs : Sh Γ ρ) {this : Nat} (h0 : Γ[this]? = some (0, 5)) {n0 : Nat} {r : Int32} {σr : St} (x2 : Int32) (σ : St) (hf : f_X5_advance_46 N ρ this x2 σ = some (r, σr)) : Go mX5_advance 4 0 0 n0 (Kv Γ ρ σr) 0 0 46 [some (.ref this), some (.ref (ρ (ρ this 0) 0)), some (.int x2)] [] (hp Γ ρ σ) := by
  unfold f_X5_advance_46 at hf
  refine go_aload_n 0 dX5_advance_46 rfl rfl ?_
  refine go_iload_n 2 dX5_advance_47 rfl rfl ?_
  obtain ⟨σ17, eσ17, hf⟩ := nmd_some hf
  refine go_pI fl_X5_26 ft_5_3 (okv_i _) dX5_advance_48 h0 (by decide) rfl ?_
  rw [eσ17]
  refine go_aload_n 0 dX5_advance_51 rfl rfl ?_
  refine go_iload_n 2 dX5_advance_52 rfl rfl ?_
  refine go_iconst 1 dX5_advance_53 (by decide) ?_
  refine go_iadd dX5_advance_54 ?_
  obtain ⟨σ18, eσ18, hf⟩ := nmd_some hf
  refine go_pI fl_X5_22 ft_5_2 (okv_i _) dX5_advance_55 h0 (by decide) rfl ?_
  rw [eσ18]
  refine go_iload_n 2 dX5_advance_58 rfl rfl ?_
  refine go_aload_n 0 dX5_advance_59 rfl rfl ?_
  refine go_fR fl_X5_12 dX5_advance_60 h0 (by decide) rfl ?_
  refine go_fI fl_X5_66 dX5_advance_63 (hs.1 _ 5 0 h0 rfl) (by decide) rfl ?_
  refine go_icmp_lt 83 dX5_advance_66 (by decide) (fun c19 => ?_) (fun c19 => ?_)
  · replace hf := (if_pos c19).symm.trans hf
    refine go_aload_n 1 dX5_advance_83 rfl rfl ?_
    refine go_iload_n 2 dX5_advance_84 rfl rfl ?_
    obtain ⟨g20, hf⟩ := gd_some hf
    refine go_rB dX5_advance_85 (hs.1 _ 10 0 (hs.1 _ 5 0 h0 rfl) rfl) (ib_in g20) ?_
    refine go_bipush 97 dX5_advance_86 (by decide) ?_
    refine go_icmp_lt 106 dX5_advance_88 (by decide) (fun c21 => ?_) (fun c21 => ?_)
    · replace hf := (if_pos c21).symm.trans hf
      exact w_X5_advance_106 hs h0 x2 σ18 hf
    · replace hf := (if_neg c21).symm.trans hf
      refine go_aload_n 1 dX5_advance_91 rfl rfl ?_
      refine go_iload_n 2 dX5_advance_92 rfl rfl ?_
      obtain ⟨g22, hf⟩ := gd_some hf
      refine go_rB dX5_advance_93 (hs.1 _ 10 0 (hs.1 _ 5 0 h0 rfl) rfl) (ib_in g22) ?_
      refine go_bipush 122 dX5_advance_94 (by decide) ?_
      refine go_icmp_gt 106 dX5_advance_96 (by decide) (fun c23 => ?_) (fun c23 => ?_)
      · replace hf := (if_pos c23).symm.trans hf
        exact w_X5_advance_106 hs h0 x2 σ18 hf
      · replace hf := (if_neg c23).symm.trans hf
        refine go_aload_n 0 dX5_advance_99 rfl rfl ?_
        obtain ⟨r24, σ25, q26, hf⟩ := bnd_some hf
        refine go_Vv (av := []) (rest := []) (t_X5_takeWord hs h0 q26) ok_X5_takeWord ml_X5_69 dX5_advance_100 h0 rfl rfl (by decide) (Nat.le_refl _) (Nat.le_refl _) (Nat.le_of_ble_eq_true rfl) ?_
        refine go_goto 159 dX5_advance_103 (by decide) ?_
        refine go_msk [false, false, false] [none, none, none] rfl ?_
        exact w_X5_advance_159 hs h0 σ25 hf
  · replace hf := (if_neg c19).symm.trans hf
    refine go_aload_n 0 dX5_advance_69 rfl rfl ?_
    refine go_bipush 102 dX5_advance_70 (by decide) ?_
    obtain ⟨σ27, eσ27, hf⟩ := nmd_some hf
    refine go_pI fl_X5_29 ft_5_4 (okv_i _) dX5_advance_72 h0 (by decide) rfl ?_
    rw [eσ27]
    refine go_aload_n 0 dX5_advance_75 rfl rfl ?_
    refine go_iload_n 2 dX5_advance_76 rfl rfl ?_
    obtain ⟨σ28, eσ28, hf⟩ := nmd_some hf
    refine go_pI fl_X5_22 ft_5_2 (okv_i _) dX5_advance_77 h0 (by decide) rfl ?_
    rw [eσ28]
    refine go_goto 159 dX5_advance_80 (by decide) ?_
    refine go_msk [false, false, false] [none, none, none] rfl ?_
    exact w_X5_advance_159 hs h0 σ28 hf
set_option maxRecDepth 100000 in
set_option maxHeartbeats 4000000 in
theorem v_X5_advance_13 {N : Nat} {Γ : SG} {ρ : Nat → Nat → Nat} (hs : Sh Γ ρ) {this : Nat} (h0 : Γ[this]? = some (0, 5)) {n0 : Nat} {r : Int32} {σr : St} (rec13 : Int32 → St → Option (Int32 × St)) (hrec13 : ∀ (x2 : Int32) (σ : St), rec13 x2 σ = some (r, σr) → Go mX5_advance 4 0 0 n0 (Kv Γ ρ σr) 0 0 13 [some (.ref this), some (.ref (ρ (ρ this 0) 0)), some (.int x2)] [] (hp Γ ρ σ)) (x2 : Int32) (σ : St) (hf : b_X5_advance_13 N ρ this rec13 x2 σ = some (r, σr)) : Go mX5_advance 4 0 0 n0 (Kv Γ ρ σr) 0 0 13 [some (.ref this), some (.ref (ρ (ρ this 0) 0)), some (.int x2)] [] (hp Γ ρ σ) := by
  unfold b_X5_advance_13 at hf
  refine go_iload_n 2 dX5_advance_13 rfl rfl ?_
  refine go_aload_n 0 dX5_advance_14 rfl rfl ?_
  refine go_fR fl_X5_12 dX5_advance_15 h0 (by decide) rfl ?_
  refine go_fI fl_X5_66 dX5_advance_18 (hs.1 _ 5 0 h0 rfl) (by decide) rfl ?_
  refine go_icmp_ge 46 dX5_advance_21 (by decide) (fun c29 => ?_) (fun c29 => ?_)
  · replace hf := (if_pos c29).symm.trans hf
    exact w_X5_advance_46 hs h0 x2 σ hf
  · replace hf := (if_neg c29).symm.trans hf
    refine go_aload_n 1 dX5_advance_24 rfl rfl ?_
    refine go_iload_n 2 dX5_advance_25 rfl rfl ?_
    obtain ⟨g30, hf⟩ := gd_some hf
    refine go_rB dX5_advance_26 (hs.1 _ 10 0 (hs.1 _ 5 0 h0 rfl) rfl) (ib_in g30) ?_
    refine go_bipush 32 dX5_advance_27 (by decide) ?_
    refine go_icmp_eq 40 dX5_advance_29 (by decide) (fun c31 => ?_) (fun c31 => ?_)
    · replace hf := (if_pos c31).symm.trans hf
      exact w_X5_advance_40 hs h0 rec13 hrec13 x2 σ hf
    · replace hf := (if_neg c31).symm.trans hf
      refine go_aload_n 1 dX5_advance_32 rfl rfl ?_
      refine go_iload_n 2 dX5_advance_33 rfl rfl ?_
      obtain ⟨g32, hf⟩ := gd_some hf
      refine go_rB dX5_advance_34 (hs.1 _ 10 0 (hs.1 _ 5 0 h0 rfl) rfl) (ib_in g32) ?_
      refine go_bipush 10 dX5_advance_35 (by decide) ?_
      refine go_icmp_ne 46 dX5_advance_37 (by decide) (fun c33 => ?_) (fun c33 => ?_)
      · replace hf := (if_neg c33).symm.trans hf
        exact w_X5_advance_46 hs h0 x2 σ hf
      · replace hf := (if_pos c33).symm.trans hf
        exact w_X5_advance_40 hs h0 rec13 hrec13 x2 σ hf
theorem w_X5_advance_13 {N : Nat} {Γ : SG} {ρ : Nat → Nat → Nat} (hs : Sh Γ ρ) {this : Nat} (h0 : Γ[this]? = some (0, 5)) {n0 : Nat} {r : Int32} {σr : St} : ∀ (n : Nat) (x2 : Int32) (σ : St), f_X5_advance_13 N ρ this n x2 σ = some (r, σr) → Go mX5_advance 4 0 0 n0 (Kv Γ ρ σr) 0 0 13 [some (.ref this), some (.ref (ρ (ρ this 0) 0)), some (.int x2)] [] (hp Γ ρ σ) := by
  intro n
  induction n with
  | zero => intro x2 σ hf; cases hf
  | succ n ih => intro x2 σ hf; exact v_X5_advance_13 hs h0 _ ih x2 σ hf
set_option maxRecDepth 100000 in
set_option maxHeartbeats 4000000 in
theorem t_X5_advance {N : Nat} {Γ : SG} {ρ : Nat → Nat → Nat} (hs : Sh Γ ρ) {this : Nat} (h0 : Γ[this]? = some (0, 5)) {σ : St} {r : Int32} {σr : St} (hf : f_X5_advance N ρ this σ = some (r, σr)) : Tri mX5_advance 4 0 0 [.ref this] (hp Γ ρ σ) (Kv Γ ρ σr) := by
  unfold f_X5_advance at hf
  refine tri_of [some (.ref this), none, none] (plainFor_of_name rfl) rfl (Nat.le_of_ble_eq_true rfl) ?_
  refine go_aload_n 0 dX5_advance_0 rfl rfl ?_
  refine go_fR fl_X5_12 dX5_advance_1 h0 (by decide) rfl ?_
  refine go_fR fl_X5_62 dX5_advance_4 (hs.1 _ 5 0 h0 rfl) (by decide) rfl ?_
  refine go_astore_n 1 [some (.ref this), some (.ref (ρ (ρ this 0) 0)), none] dX5_advance_7 rfl (by decide) rfl ?_
  refine go_aload_n 0 dX5_advance_8 rfl rfl ?_
  refine go_fI fl_X5_22 dX5_advance_9 h0 (by decide) rfl ?_
  obtain ⟨y34, ey34, hf⟩ := nmd_some hf
  refine go_nm ey34 ?_
  refine go_istore_n 2 [some (.ref this), some (.ref (ρ (ρ this 0) 0)), some (.int y34)] dX5_advance_12 rfl (by decide) rfl ?_
  exact w_X5_advance_13 hs h0 N y34 σ hf
def f_X5_begin (N : Nat) (ρ : Nat → Nat → Nat) (this : Nat) (σ : St) : Option (Int32 × St) :=
  nmd (sI σ this 2 0) fun σ1 =>
  nmd (sI σ1 this 7 0) fun σ2 =>
  nmd (sI σ2 this 8 (-1)) fun σ3 =>
  bnd (f_X5_advance N ρ this σ3) fun _ σ5 =>
  some (0, σ5)
set_option maxRecDepth 100000 in
set_option maxHeartbeats 4000000 in
theorem t_X5_begin {N : Nat} {Γ : SG} {ρ : Nat → Nat → Nat} (hs : Sh Γ ρ) {this : Nat} (h0 : Γ[this]? = some (0, 5)) {σ : St} {r : Int32} {σr : St} (hf : f_X5_begin N ρ this σ = some (r, σr)) : Tri mX5_begin 5 0 0 [.ref this] (hp Γ ρ σ) (Kv Γ ρ σr) := by
  unfold f_X5_begin at hf
  refine tri_of [some (.ref this)] (plainFor_of_name rfl) rfl (Nat.le_of_ble_eq_true rfl) ?_
  refine go_aload_n 0 dX5_begin_0 rfl rfl ?_
  refine go_iconst 0 dX5_begin_1 (by decide) ?_
  obtain ⟨σ1, eσ1, hf⟩ := nmd_some hf
  refine go_pI fl_X5_22 ft_5_2 (okv_i _) dX5_begin_2 h0 (by decide) rfl ?_
  rw [eσ1]
  refine go_aload_n 0 dX5_begin_5 rfl rfl ?_
  refine go_iconst 0 dX5_begin_6 (by decide) ?_
  obtain ⟨σ2, eσ2, hf⟩ := nmd_some hf
  refine go_pI fl_X5_39 ft_5_7 (okv_i _) dX5_begin_7 h0 (by decide) rfl ?_
  rw [eσ2]
  refine go_aload_n 0 dX5_begin_10 rfl rfl ?_
  refine go_iconst (-1) dX5_begin_11 (by decide) ?_
  obtain ⟨σ3, eσ3, hf⟩ := nmd_some hf
  refine go_pI fl_X5_42 ft_5_8 (okv_i _) dX5_begin_12 h0 (by decide) rfl ?_
  rw [eσ3]
  refine go_aload_n 0 dX5_begin_15 rfl rfl ?_
  obtain ⟨r4, σ5, q6, hf⟩ := bnd_some hf
  refine go_Vv (av := []) (rest := []) (t_X5_advance hs h0 q6) ok_X5_advance ml_X5_59 dX5_begin_16 h0 rfl rfl (by decide) (Nat.le_refl _) (Nat.le_refl _) (Nat.le_of_ble_eq_true rfl) ?_
  cases hf
  exact go_vret rfl dX5_begin_19 (Nat.le_refl _) ⟨rfl, rfl⟩
def f_X5_refuse_15 (N : Nat) (ρ : Nat → Nat → Nat) (this : Nat) (a1 : Int32) (s0 : Int32) (σ : St) : Option (Int32 × St) :=
  nmd (sI σ this 7 s0) fun σ1 =>
  nmd (sI σ1 this 8 (σ1.1 this 3)) fun σ2 =>
  some (0, σ2)
def f_X5_refuse (N : Nat) (ρ : Nat → Nat → Nat) (this : Nat) (a1 : Int32) (σ : St) : Option (Int32 × St) :=
  if (σ.1 this 4 : Int32) = 103 then
    f_X5_refuse_15 N ρ this a1 1 σ
  else
    f_X5_refuse_15 N ρ this a1 a1 σ
set_option maxRecDepth 100000 in
set_option maxHeartbeats 4000000 in
theorem w_X5_refuse_15 {N : Nat} {Γ : SG} {ρ : Nat → Nat → Nat} (hs : Sh Γ ρ) {this : Nat} {a1 : Int32} (h0 : Γ[this]? = some (0, 5)) {n0 : Nat} {r : Int32} {σr : St} (s0 : Int32) (σ : St) (hf : f_X5_refuse_15 N ρ this a1 s0 σ = some (r, σr)) : Go mX5_refuse 0 0 0 n0 (Ki Γ ρ r σr) 0 0 15 [some (.ref this), none] [.int s0, .ref this] (hp Γ ρ σ) := by
  unfold f_X5_refuse_15 at hf
  obtain ⟨σ1, eσ1, hf⟩ := nmd_some hf
  refine go_pI fl_X5_39 ft_5_7 (okv_i _) dX5_refuse_15 h0 (by decide) rfl ?_
  rw [eσ1]
  refine go_aload_n 0 dX5_refuse_18 rfl rfl ?_
  refine go_aload_n 0 dX5_refuse_19 rfl rfl ?_
  refine go_fI fl_X5_26 dX5_refuse_20 h0 (by decide) rfl ?_
  obtain ⟨σ2, eσ2, hf⟩ := nmd_some hf
  refine go_pI fl_X5_42 ft_5_8 (okv_i _) dX5_refuse_23 h0 (by decide) rfl ?_
  rw [eσ2]
  refine go_iconst 0 dX5_refuse_26 (by decide) ?_
  cases hf
  exact go_zret rfl (by decide) dX5_refuse_27 (Nat.le_refl _) ⟨rfl, rfl⟩
set_option maxRecDepth 100000 in
set_option maxHeartbeats 4000000 in
theorem t_X5_refuse {N : Nat} {Γ : SG} {ρ : Nat → Nat → Nat} (hs : Sh Γ ρ) {this : Nat} {a1 : Int32} (h0 : Γ[this]? = some (0, 5)) {σ : St} {r : Int32} {σr : St} (hf : f_X5_refuse N ρ this a1 σ = some (r, σr)) : Tri mX5_refuse 0 0 0 [.ref this, .int a1] (hp Γ ρ σ) (Ki Γ ρ r σr) := by
  unfold f_X5_refuse at hf
  refine tri_of [some (.ref this), some (.int a1)] (plainFor_of_name rfl) rfl (Nat.le_of_ble_eq_true rfl) ?_
  refine go_aload_n 0 dX5_refuse_0 rfl rfl ?_
  refine go_aload_n 0 dX5_refuse_1 rfl rfl ?_
  refine go_fI fl_X5_29 dX5_refuse_2 h0 (by decide) rfl ?_
  refine go_bipush 103 dX5_refuse_5 (by decide) ?_
  refine go_icmp_ne 14 dX5_refuse_7 (by decide) (fun c3 => ?_) (fun c3 => ?_)
  · replace hf := (if_neg c3).symm.trans hf
    refine go_iload_n 1 dX5_refuse_14 rfl rfl ?_
    refine go_msk [true, false] [some (.ref this), none] rfl ?_
    exact w_X5_refuse_15 hs h0 a1 σ hf
  · replace hf := (if_pos c3).symm.trans hf
    refine go_iconst 1 dX5_refuse_10 (by decide) ?_
    refine go_goto 15 dX5_refuse_11 (by decide) ?_
    refine go_msk [true, false] [some (.ref this), none] rfl ?_
    exact w_X5_refuse_15 hs h0 1 σ hf
def f_X5_pass (N : Nat) (ρ : Nat → Nat → Nat) (this : Nat) (a1 : Int32) (σ : St) : Option (Int32 × St) :=
  if (σ.1 this 4 : Int32) = a1 then
    bnd (f_X5_advance N ρ this σ) fun _ σ3 =>
    some (1, σ3)
  else
    bnd (f_X5_refuse N ρ this 2 σ) fun r5 σ6 =>
    gd (bb r5) <|
    some (r5, σ6)
set_option maxRecDepth 100000 in
set_option maxHeartbeats 4000000 in
theorem t_X5_pass {N : Nat} {Γ : SG} {ρ : Nat → Nat → Nat} (hs : Sh Γ ρ) {this : Nat} {a1 : Int32} (h0 : Γ[this]? = some (0, 5)) {σ : St} {r : Int32} {σr : St} (hf : f_X5_pass N ρ this a1 σ = some (r, σr)) : Tri mX5_pass 5 0 0 [.ref this, .int a1] (hp Γ ρ σ) (Ki Γ ρ r σr) := by
  unfold f_X5_pass at hf
  refine tri_of [some (.ref this), some (.int a1)] (plainFor_of_name rfl) rfl (Nat.le_of_ble_eq_true rfl) ?_
  refine go_aload_n 0 dX5_pass_0 rfl rfl ?_
  refine go_fI fl_X5_29 dX5_pass_1 h0 (by decide) rfl ?_
  refine go_iload_n 1 dX5_pass_4 rfl rfl ?_
  refine go_icmp_eq 14 dX5_pass_5 (by decide) (fun c1 => ?_) (fun c1 => ?_)
  · replace hf := (if_pos c1).symm.trans hf
    refine go_aload_n 0 dX5_pass_14 rfl rfl ?_
    obtain ⟨r2, σ3, q4, hf⟩ := bnd_some hf
    refine go_Vv (av := []) (rest := []) (t_X5_advance hs h0 q4) ok_X5_advance ml_X5_59 dX5_pass_15 h0 rfl rfl (by decide) (Nat.le_refl _) (Nat.le_refl _) (Nat.le_of_ble_eq_true rfl) ?_
    refine go_iconst 1 dX5_pass_18 (by decide) ?_
    cases hf
    exact go_zret rfl (by decide) dX5_pass_19 (Nat.le_refl _) ⟨rfl, rfl⟩
  · replace hf := (if_neg c1).symm.trans hf
    refine go_aload_n 0 dX5_pass_8 rfl rfl ?_
    refine go_iconst 2 dX5_pass_9 (by decide) ?_
    obtain ⟨r5, σ6, q7, hf⟩ := bnd_some hf
    refine go_Vi (av := [.int 2]) (rest := []) (t_X5_refuse hs h0 q7) ok_X5_refuse ml_X5_81 dX5_pass_10 h0 rfl rfl (by decide) (Nat.le_refl _) (Nat.le_refl _) (Nat.le_of_ble_eq_true rfl) ?_
    obtain ⟨g8, hf⟩ := gd_some hf
    cases hf
    exact go_zret rfl (bb_of g8) dX5_pass_13 (Nat.le_refl _) ⟨rfl, rfl⟩
def f_X2_isTimes_23 (N : Nat) (ρ : Nat → Nat → Nat) (a1 : Int32) (s0 : Int32) (σ : St) : Option (Int32 × St) :=
  gd (bb s0) <|
  some (s0, σ)
def f_X2_isTimes_18 (N : Nat) (ρ : Nat → Nat → Nat) (a1 : Int32) (σ : St) : Option (Int32 × St) :=
  f_X2_isTimes_23 N ρ a1 1 σ
def f_X2_isTimes (N : Nat) (ρ : Nat → Nat → Nat) (a1 : Int32) (σ : St) : Option (Int32 × St) :=
  if (a1 : Int32) = 42 then
    f_X2_isTimes_18 N ρ a1 σ
  else
    if (a1 : Int32) = 47 then
      f_X2_isTimes_18 N ρ a1 σ
    else
      if (a1 : Int32) = 37 then
        f_X2_isTimes_18 N ρ a1 σ
      else
        f_X2_isTimes_23 N ρ a1 0 σ
set_option maxRecDepth 100000 in
set_option maxHeartbeats 4000000 in
theorem w_X2_isTimes_23 {N : Nat} {Γ : SG} {ρ : Nat → Nat → Nat} (hs : Sh Γ ρ) {a1 : Int32} {n0 : Nat} {r : Int32} {σr : St} (s0 : Int32) (σ : St) (hf : f_X2_isTimes_23 N ρ a1 s0 σ = some (r, σr)) : Go mX2_isTimes 0 0 0 n0 (Ki Γ ρ r σr) 0 0 23 [none] [.int s0] (hp Γ ρ σ) := by
  unfold f_X2_isTimes_23 at hf
  obtain ⟨g1, hf⟩ := gd_some hf
  cases hf
  exact go_zret rfl (bb_of g1) dX2_isTimes_23 (Nat.le_refl _) ⟨rfl, rfl⟩
set_option maxRecDepth 100000 in
set_option maxHeartbeats 4000000 in
theorem w_X2_isTimes_18 {N : Nat} {Γ : SG} {ρ : Nat → Nat → Nat} (hs : Sh Γ ρ) {a1 : Int32} {n0 : Nat} {r : Int32} {σr : St} (σ : St) (hf : f_X2_isTimes_18 N ρ a1 σ = some (r, σr)) : Go mX2_isTimes 0 0 0 n0 (Ki Γ ρ r σr) 0 0 18 [none] [] (hp Γ ρ σ) := by
  unfold f_X2_isTimes_18 at hf
  refine go_iconst 1 dX2_isTimes_18 (by decide) ?_
  refine go_goto 23 dX2_isTimes_19 (by decide) ?_
  exact w_X2_isTimes_23 hs 1 σ hf
set_option maxRecDepth 100000 in
set_option maxHeartbeats 4000000 in
theorem t_X2_isTimes {N : Nat} {Γ : SG} {ρ : Nat → Nat → Nat} (hs : Sh Γ ρ) {a1 : Int32} {σ : St} {r : Int32} {σr : St} (hf : f_X2_isTimes N ρ a1 σ = some (r, σr)) : Tri mX2_isTimes 0 0 0 [.int a1] (hp Γ ρ σ) (Ki Γ ρ r σr) := by
  unfold f_X2_isTimes at hf
  refine tri_of [some (.int a1)] (plainFor_of_name rfl) rfl (Nat.le_of_ble_eq_true rfl) ?_
  refine go_iload_n 0 dX2_isTimes_0 rfl rfl ?_
  refine go_bipush 42 dX2_isTimes_1 (by decide) ?_
  refine go_icmp_eq 18 dX2_isTimes_3 (by decide) (fun c2 => ?_) (fun c2 => ?_)
  · replace hf := (if_pos c2).symm.trans hf
    refine go_msk [false] [none] rfl ?_
    exact w_X2_isTimes_18 hs σ hf
  · replace hf := (if_neg c2).symm.trans hf
    refine go_iload_n 0 dX2_isTimes_6 rfl rfl ?_
    refine go_bipush 47 dX2_isTimes_7 (by decide) ?_
    refine go_icmp_eq 18 dX2_isTimes_9 (by decide) (fun c3 => ?_) (fun c3 => ?_)
    · replace hf := (if_pos c3).symm.trans hf
      refine go_msk [false] [none] rfl ?_
      exact w_X2_isTimes_18 hs σ hf
    · replace hf := (if_neg c3).symm.trans hf
      refine go_iload_n 0 dX2_isTimes_12 rfl rfl ?_
      refine go_bipush 37 dX2_isTimes_13 (by decide) ?_
      refine go_icmp_ne 22 dX2_isTimes_15 (by decide) (fun c4 => ?_) (fun c4 => ?_)
      · replace hf := (if_neg c4).symm.trans hf
        refine go_iconst 0 dX2_isTimes_22 (by decide) ?_
        refine go_msk [false] [none] rfl ?_
        exact w_X2_isTimes_23 hs 0 σ hf
      · replace hf := (if_pos c4).symm.trans hf
        refine go_msk [false] [none] rfl ?_
        exact w_X2_isTimes_18 hs σ hf
def f_X2_unit_87 (N : Nat) (ρ : Nat → Nat → Nat) (this : Nat) (a1 : Nat) (a2 : Int32) (G_X2_either : Nat → Nat → Int32 → St → Option (Int32 × St)) (σ : St) : Option (Int32 × St) :=
  bnd (f_X5_refuse N ρ (ρ this 0) 2 σ) fun r1 σ2 =>
  gd (bb r1) <|
  some (r1, σ2)
def f_X2_unit_172 (N : Nat) (ρ : Nat → Nat → Nat) (this : Nat) (a1 : Nat) (a2 : Int32) (G_X2_either : Nat → Nat → Int32 → St → Option (Int32 × St)) (s0 : Int32) (σ : St) : Option (Int32 × St) :=
  gd (bb s0) <|
  some (s0, σ)
def f_X2_unit_167 (N : Nat) (ρ : Nat → Nat → Nat) (this : Nat) (a1 : Nat) (a2 : Int32) (G_X2_either : Nat → Nat → Int32 → St → Option (Int32 × St)) (σ : St) : Option (Int32 × St) :=
  f_X2_unit_172 N ρ this a1 a2 G_X2_either 1 σ
def f_X2_unit_171 (N : Nat) (ρ : Nat → Nat → Nat) (this : Nat) (a1 : Nat) (a2 : Int32) (G_X2_either : Nat → Nat → Int32 → St → Option (Int32 × St)) (σ : St) : Option (Int32 × St) :=
  f_X2_unit_172 N ρ this a1 a2 G_X2_either 0 σ
def f_X2_unit_132 (N : Nat) (ρ : Nat → Nat → Nat) (this : Nat) (a1 : Nat) (a2 : Int32) (G_X2_either : Nat → Nat → Int32 → St → Option (Int32 × St)) (x5 : Int32) (σ : St) : Option (Int32 × St) :=
  bnd (f_X5_advance N ρ (ρ this 0) σ) fun _ σ7 =>
  if (x5 : Int32) = 0 then
    f_X2_unit_167 N ρ this a1 a2 G_X2_either σ7
  else
    bnd (G_X2_either this a1 (a2 + 1) σ7) fun r10 σ11 =>
    if (r10 : Int32) = 0 then
      f_X2_unit_171 N ρ this a1 a2 G_X2_either σ11
    else
      bnd (f_X5_pass N ρ (ρ this 0) 41 σ11) fun r14 σ15 =>
      if (r14 : Int32) = 0 then
        f_X2_unit_171 N ρ this a1 a2 G_X2_either σ15
      else
        f_X2_unit_167 N ρ this a1 a2 G_X2_either σ15
def f_X2_unit_129 (N : Nat) (ρ : Nat → Nat → Nat) (this : Nat) (a1 : Nat) (a2 : Int32) (G_X2_either : Nat → Nat → Int32 → St → Option (Int32 × St)) (x5 : Int32) (s0 : Int32) (σ : St) : Option (Int32 × St) :=
  bnd (f_X1_add N ρ a1 s0 σ) fun _ σ19 =>
  f_X2_unit_132 N ρ this a1 a2 G_X2_either x5 σ19
def f_X2_unit_96 (N : Nat) (ρ : Nat → Nat → Nat) (this : Nat) (a1 : Nat) (a2 : Int32) (G_X2_either : Nat → Nat → Int32 → St → Option (Int32 × St)) (x3 : Int32) (x4 : Int32) (x5 : Int32) (σ : St) : Option (Int32 × St) :=
  nmd (sI σ a1 3 ((σ.1 a1 3) + 1)) fun σ21 =>
  if (x5 : Int32) = 0 then
    if (x4 : Int32) = 0 then
      f_X2_unit_129 N ρ this a1 a2 G_X2_either x5 (σ21.1 (ρ this 0) 5) σ21
    else
      f_X2_unit_129 N ρ this a1 a2 G_X2_either x5 (-x3) σ21
  else
    f_X2_unit_132 N ρ this a1 a2 G_X2_either x5 σ21
def f_X2_unit_60 (N : Nat) (ρ : Nat → Nat → Nat) (this : Nat) (a1 : Nat) (a2 : Int32) (G_X2_either : Nat → Nat → Int32 → St → Option (Int32 × St)) (x3 : Int32) (x4 : Int32) (x5 : Int32) (s0 : Int32) (σ : St) : Option (Int32 × St) :=
  if (s0 : Int32) = 0 then
    f_X2_unit_87 N ρ this a1 a2 G_X2_either σ
  else
    if 30 ≤ (σ.1 a1 3 : Int32) then
      f_X2_unit_87 N ρ this a1 a2 G_X2_either σ
    else
      if (x5 : Int32) = 0 then
        f_X2_unit_96 N ρ this a1 a2 G_X2_either x3 x4 x5 σ
      else
        if (a2 : Int32) < 7 then
          f_X2_unit_96 N ρ this a1 a2 G_X2_either x3 x4 x5 σ
        else
          f_X2_unit_87 N ρ this a1 a2 G_X2_either σ
def f_X2_unit_55 (N : Nat) (ρ : Nat → Nat → Nat) (this : Nat) (a1 : Nat) (a2 : Int32) (G_X2_either : Nat → Nat → Int32 → St → Option (Int32 × St)) (x3 : Int32) (x4 : Int32) (x5 : Int32) (σ : St) : Option (Int32 × St) :=
  f_X2_unit_60 N ρ this a1 a2 G_X2_either x3 x4 x5 1 σ
def f_X2_unit_37 (N : Nat) (ρ : Nat → Nat → Nat) (this : Nat) (a1 : Nat) (a2 : Int32) (G_X2_either : Nat → Nat → Int32 → St → Option (Int32 × St)) (x3 : Int32) (x4 : Int32) (s0 : Int32) (σ : St) : Option (Int32 × St) :=
  if (x4 : Int32) = 0 then
    if (s0 : Int32) = 0 then
      if (x3 : Int32) = 100 then
        f_X2_unit_55 N ρ this a1 a2 G_X2_either x3 x4 s0 σ
      else
        f_X2_unit_60 N ρ this a1 a2 G_X2_either x3 x4 s0 0 σ
    else
      f_X2_unit_55 N ρ this a1 a2 G_X2_either x3 x4 s0 σ
  else
    f_X2_unit_55 N ρ this a1 a2 G_X2_either x3 x4 s0 σ
def f_X2_unit_24 (N : Nat) (ρ : Nat → Nat → Nat) (this : Nat) (a1 : Nat) (a2 : Int32) (G_X2_either : Nat → Nat → Int32 → St → Option (Int32 × St)) (x3 : Int32) (s0 : Int32) (σ : St) : Option (Int32 × St) :=
  if (x3 : Int32) = 40 then
    f_X2_unit_37 N ρ this a1 a2 G_X2_either x3 s0 1 σ
  else
    f_X2_unit_37 N ρ this a1 a2 G_X2_either x3 s0 0 σ
def f_X2_unit_23 (N : Nat) (ρ : Nat → Nat → Nat) (this : Nat) (a1 : Nat) (a2 : Int32) (G_X2_either : Nat → Nat → Int32 → St → Option (Int32 × St)) (x3 : Int32) (σ : St) : Option (Int32 × St) :=
  f_X2_unit_24 N ρ this a1 a2 G_X2_either x3 0 σ
def fo_X2_unit (N : Nat) (ρ : Nat → Nat → Nat) (this : Nat) (a1 : Nat) (a2 : Int32) (G_X2_either : Nat → Nat → Int32 → St → Option (Int32 × St)) (σ : St) : Option (Int32 × St) :=
  nmd (σ.1 (ρ this 0) 4) fun y32 =>
  if (y32 : Int32) < 1 then
    f_X2_unit_23 N ρ this a1 a2 G_X2_either y32 σ
  else
    if 6 < (y32 : Int32) then
      f_X2_unit_23 N ρ this a1 a2 G_X2_either y32 σ
    else
      f_X2_unit_24 N ρ this a1 a2 G_X2_either y32 1 σ
set_option maxRecDepth 100000 in
set_option maxHeartbeats 4000000 in
theorem w_X2_unit_87 {N : Nat} {Γ : SG} {ρ : Nat → Nat → Nat} {dd : Nat} (hs : Sh Γ ρ) {this : Nat} {a1 : Nat} {a2 : Int32} {G_X2_either : Nat → Nat → Int32 → St → Option (Int32 × St)} (h0 : Γ[this]? = some (0, 2)) (h1 : Γ[a1]? = some (0, 1)) (hG_X2_either : ∀ {this : Nat} {a1 : Nat} {a2 : Int32} {σ : St} {r : Int32} {σr : St}, Γ[this]? = some (0, 2) → Γ[a1]? = some (0, 1) → G_X2_either this a1 a2 σ = some (r, σr) → Tri mX2_either dd 0 0 [.ref this, .ref a1, .int a2] (hp Γ ρ σ) (Ki Γ ρ r σr)) {n0 : Nat} {r : Int32} {σr : St} (σ : St) (hf : f_X2_unit_87 N ρ this a1 a2 G_X2_either σ = some (r, σr)) : Go mX2_unit (dd + 8) 0 0 n0 (Ki Γ ρ r σr) 0 0 87 [some (.ref this), none, none, none, none, none, none] [] (hp Γ ρ σ) := by
  unfold f_X2_unit_87 at hf
  refine go_aload_n 0 dX2_unit_87 rfl rfl ?_
  refine go_fR fl_X2_10 dX2_unit_88 h0 (by decide) rfl ?_
  refine go_iconst 2 dX2_unit_91 (by decide) ?_
  obtain ⟨r1, σ2, q3, hf⟩ := bnd_some hf
  refine go_Vi (av := [.int 2]) (rest := []) (t_X5_refuse hs (hs.1 _ 2 0 h0 rfl) q3) ok_X5_refuse ml_X2_39 dX2_unit_92 (hs.1 _ 2 0 h0 rfl) rfl rfl (by omega) (Nat.le_refl _) (Nat.le_refl _) (Nat.le_of_ble_eq_true rfl) ?_
  obtain ⟨g4, hf⟩ := gd_some hf
  cases hf
  exact go_zret rfl (bb_of g4) dX2_unit_95 (Nat.le_refl _) ⟨rfl, rfl⟩
set_option maxRecDepth 100000 in
set_option maxHeartbeats 4000000 in
theorem w_X2_unit_172 {N : Nat} {Γ : SG} {ρ : Nat → Nat → Nat} {dd : Nat} (hs : Sh Γ ρ) {this : Nat} {a1 : Nat} {a2 : Int32} {G_X2_either : Nat → Nat → Int32 → St → Option (Int32 × St)} (h0 : Γ[this]? = some (0, 2)) (h1 : Γ[a1]? = some (0, 1)) (hG_X2_either : ∀ {this : Nat} {a1 : Nat} {a2 : Int32} {σ : St} {r : Int32} {σr : St}, Γ[this]? = some (0, 2) → Γ[a1]? = some (0, 1) → G_X2_either this a1 a2 σ = some (r, σr) → Tri mX2_either dd 0 0 [.ref this, .ref a1, .int a2] (hp Γ ρ σ) (Ki Γ ρ r σr)) {n0 : Nat} {r : Int32} {σr : St} (s0 : Int32) (σ : St) (hf : f_X2_unit_172 N ρ this a1 a2 G_X2_either s0 σ = some (r, σr)) : Go mX2_unit (dd + 8) 0 0 n0 (Ki Γ ρ r σr) 0 0 172 [none, none, none, none, none, none, none] [.int s0] (hp Γ ρ σ) := by
  unfold f_X2_unit_172 at hf
  obtain ⟨g5, hf⟩ := gd_some hf
  cases hf
  exact go_zret rfl (bb_of g5) dX2_unit_172 (Nat.le_refl _) ⟨rfl, rfl⟩
set_option maxRecDepth 100000 in
set_option maxHeartbeats 4000000 in
theorem w_X2_unit_167 {N : Nat} {Γ : SG} {ρ : Nat → Nat → Nat} {dd : Nat} (hs : Sh Γ ρ) {this : Nat} {a1 : Nat} {a2 : Int32} {G_X2_either : Nat → Nat → Int32 → St → Option (Int32 × St)} (h0 : Γ[this]? = some (0, 2)) (h1 : Γ[a1]? = some (0, 1)) (hG_X2_either : ∀ {this : Nat} {a1 : Nat} {a2 : Int32} {σ : St} {r : Int32} {σr : St}, Γ[this]? = some (0, 2) → Γ[a1]? = some (0, 1) → G_X2_either this a1 a2 σ = some (r, σr) → Tri mX2_either dd 0 0 [.ref this, .ref a1, .int a2] (hp Γ ρ σ) (Ki Γ ρ r σr)) {n0 : Nat} {r : Int32} {σr : St} (σ : St) (hf : f_X2_unit_167 N ρ this a1 a2 G_X2_either σ = some (r, σr)) : Go mX2_unit (dd + 8) 0 0 n0 (Ki Γ ρ r σr) 0 0 167 [none, none, none, none, none, none, none] [] (hp Γ ρ σ) := by
  unfold f_X2_unit_167 at hf
  refine go_iconst 1 dX2_unit_167 (by decide) ?_
  refine go_goto 172 dX2_unit_168 (by decide) ?_
  exact w_X2_unit_172 hs h0 h1 hG_X2_either 1 σ hf
set_option maxRecDepth 100000 in
set_option maxHeartbeats 4000000 in
theorem w_X2_unit_171 {N : Nat} {Γ : SG} {ρ : Nat → Nat → Nat} {dd : Nat} (hs : Sh Γ ρ) {this : Nat} {a1 : Nat} {a2 : Int32} {G_X2_either : Nat → Nat → Int32 → St → Option (Int32 × St)} (h0 : Γ[this]? = some (0, 2)) (h1 : Γ[a1]? = some (0, 1)) (hG_X2_either : ∀ {this : Nat} {a1 : Nat} {a2 : Int32} {σ : St} {r : Int32} {σr : St}, Γ[this]? = some (0, 2) → Γ[a1]? = some (0, 1) → G_X2_either this a1 a2 σ = some (r, σr) → Tri mX2_either dd 0 0 [.ref this, .ref a1, .int a2] (hp Γ ρ σ) (Ki Γ ρ r σr)) {n0 : Nat} {r : Int32} {σr : St} (σ : St) (hf : f_X2_unit_171 N ρ this a1 a2 G_X2_either σ = some (r, σr)) : Go mX2_unit (dd + 8) 0 0 n0 (Ki Γ ρ r σr) 0 0 171 [none, none, none, none, none, none, none] [] (hp Γ ρ σ) := by
  unfold f_X2_unit_171 at hf
  refine go_iconst 0 dX2_unit_171 (by decide) ?_
  exact w_X2_unit_172 hs h0 h1 hG_X2_either 0 σ hf
set_option maxRecDepth 100000 in
set_option maxHeartbeats 4000000 in
theorem w_X2_unit_132 {N : Nat} {Γ : SG} {ρ : Nat → Nat → Nat} {dd : Nat} (hs : Sh Γ ρ) {this : Nat} {a1 : Nat} {a2 : Int32} {G_X2_either : Nat → Nat → Int32 → St → Option (Int32 × St)} (h0 : Γ[this]? = some (0, 2)) (h1 : Γ[a1]? = some (0, 1)) (hG_X2_either : ∀ {this : Nat} {a1 : Nat} {a2 : Int32} {σ : St} {r : Int32} {σr : St}, Γ[this]? = some (0, 2) → Γ[a1]? = some (0, 1) → G_X2_either this a1 a2 σ = some (r, σr) → Tri mX2_either dd 0 0 [.ref this, .ref a1, .int a2] (hp Γ ρ σ) (Ki Γ ρ r σr)) {n0 : Nat} {r : Int32} {σr : St} (x5 : Int32) (σ : St) (hf : f_X2_unit_132 N ρ this a1 a2 G_X2_either x5 σ = some (r, σr)) : Go mX2_unit (dd + 8) 0 0 n0 (Ki Γ ρ r σr) 0 0 132 [some (.ref this), some (.ref a1), some (.int a2), none, none, some (.int x5), none] [] (hp Γ ρ σ) := by
  unfold f_X2_unit_132 at hf
  refine go_aload_n 0 dX2_unit_132 rfl rfl ?_
  refine go_fR fl_X2_10 dX2_unit_133 h0 (by decide) rfl ?_
  obtain ⟨r6, σ7, q8, hf⟩ := bnd_some hf
  refine go_Vv (av := []) (rest := []) (t_X5_advance hs (hs.1 _ 2 0 h0 rfl) q8) ok_X5_advance ml_X2_26 dX2_unit_136 (hs.1 _ 2 0 h0 rfl) rfl rfl (by omega) (Nat.le_refl _) (Nat.le_refl _) (Nat.le_of_ble_eq_true rfl) ?_
  refine go_iload dX2_unit_139 rfl ?_
  refine go_if_eq 167 dX2_unit_141 (by decide) (fun c9 => ?_) (fun c9 => ?_)
  · replace hf := (if_pos c9).symm.trans hf
    refine go_msk [false, false, false, false, false, false, false] [none, none, none, none, none, none, none] rfl ?_
    exact w_X2_unit_167 hs h0 h1 hG_X2_either σ7 hf
  · replace hf := (if_neg c9).symm.trans hf
    refine go_aload_n 0 dX2_unit_144 rfl rfl ?_
    refine go_aload_n 1 dX2_unit_145 rfl rfl ?_
    refine go_iload_n 2 dX2_unit_146 rfl rfl ?_
    refine go_iconst 1 dX2_unit_147 (by decide) ?_
    refine go_iadd dX2_unit_148 ?_
    obtain ⟨r10, σ11, q12, hf⟩ := bnd_some hf
    refine go_Vi (av := [.ref a1, .int (a2 + 1)]) (rest := []) (hG_X2_either h0 h1 q12) ok_X2_either ml_X2_61 dX2_unit_149 h0 rfl rfl (by omega) (Nat.le_refl _) (Nat.le_refl _) (Nat.le_of_ble_eq_true rfl) ?_
    refine go_if_eq 171 dX2_unit_152 (by decide) (fun c13 => ?_) (fun c13 => ?_)
    · replace hf := (if_pos c13).symm.trans hf
      refine go_msk [false, false, false, false, false, false, false] [none, none, none, none, none, none, none] rfl ?_
      exact w_X2_unit_171 hs h0 h1 hG_X2_either σ11 hf
    · replace hf := (if_neg c13).symm.trans hf
      refine go_aload_n 0 dX2_unit_155 rfl rfl ?_
      refine go_fR fl_X2_10 dX2_unit_156 h0 (by decide) rfl ?_
      refine go_bipush 41 dX2_unit_159 (by decide) ?_
      obtain ⟨r14, σ15, q16, hf⟩ := bnd_some hf
      refine go_Vi (av := [.int 41]) (rest := []) (t_X5_pass hs (hs.1 _ 2 0 h0 rfl) q16) ok_X5_pass ml_X2_64 dX2_unit_161 (hs.1 _ 2 0 h0 rfl) rfl rfl (by omega) (Nat.le_refl _) (Nat.le_refl _) (Nat.le_of_ble_eq_true rfl) ?_
      refine go_if_eq 171 dX2_unit_164 (by decide) (fun c17 => ?_) (fun c17 => ?_)
      · replace hf := (if_pos c17).symm.trans hf
        refine go_msk [false, false, false, false, false, false, false] [none, none, none, none, none, none, none] rfl ?_
        exact w_X2_unit_171 hs h0 h1 hG_X2_either σ15 hf
      · replace hf := (if_neg c17).symm.trans hf
        refine go_msk [false, false, false, false, false, false, false] [none, none, none, none, none, none, none] rfl ?_
        exact w_X2_unit_167 hs h0 h1 hG_X2_either σ15 hf
set_option maxRecDepth 100000 in
set_option maxHeartbeats 4000000 in
theorem w_X2_unit_129 {N : Nat} {Γ : SG} {ρ : Nat → Nat → Nat} {dd : Nat} (hs : Sh Γ ρ) {this : Nat} {a1 : Nat} {a2 : Int32} {G_X2_either : Nat → Nat → Int32 → St → Option (Int32 × St)} (h0 : Γ[this]? = some (0, 2)) (h1 : Γ[a1]? = some (0, 1)) (hG_X2_either : ∀ {this : Nat} {a1 : Nat} {a2 : Int32} {σ : St} {r : Int32} {σr : St}, Γ[this]? = some (0, 2) → Γ[a1]? = some (0, 1) → G_X2_either this a1 a2 σ = some (r, σr) → Tri mX2_either dd 0 0 [.ref this, .ref a1, .int a2] (hp Γ ρ σ) (Ki Γ ρ r σr)) {n0 : Nat} {r : Int32} {σr : St} (x5 : Int32) (s0 : Int32) (σ : St) (hf : f_X2_unit_129 N ρ this a1 a2 G_X2_either x5 s0 σ = some (r, σr)) : Go mX2_unit (dd + 8) 0 0 n0 (Ki Γ ρ r σr) 0 0 129 [some (.ref this), some (.ref a1), some (.int a2), none, none, some (.int x5), none] [.int s0, .ref a1] (hp Γ ρ σ) := by
  unfold f_X2_unit_129 at hf
  obtain ⟨r18, σ19, q20, hf⟩ := bnd_some hf
  refine go_Vv (av := [.int s0]) (rest := []) (t_X1_add hs h1 q20) ok_X1_add ml_X2_29 dX2_unit_129 h1 rfl rfl (by omega) (Nat.le_refl _) (Nat.le_refl _) (Nat.le_of_ble_eq_true rfl) ?_
  exact w_X2_unit_132 hs h0 h1 hG_X2_either x5 σ19 hf
set_option maxRecDepth 100000 in
set_option maxHeartbeats 4000000 in
theorem w_X2_unit_96 {N : Nat} {Γ : SG} {ρ : Nat → Nat → Nat} {dd : Nat} (hs : Sh Γ ρ) {this : Nat} {a1 : Nat} {a2 : Int32} {G_X2_either : Nat → Nat → Int32 → St → Option (Int32 × St)} (h0 : Γ[this]? = some (0, 2)) (h1 : Γ[a1]? = some (0, 1)) (hG_X2_either : ∀ {this : Nat} {a1 : Nat} {a2 : Int32} {σ : St} {r : Int32} {σr : St}, Γ[this]? = some (0, 2) → Γ[a1]? = some (0, 1) → G_X2_either this a1 a2 σ = some (r, σr) → Tri mX2_either dd 0 0 [.ref this, .ref a1, .int a2] (hp Γ ρ σ) (Ki Γ ρ r σr)) {n0 : Nat} {r : Int32} {σr : St} (x3 : Int32) (x4 : Int32) (x5 : Int32) (σ : St) (hf : f_X2_unit_96 N ρ this a1 a2 G_X2_either x3 x4 x5 σ = some (r, σr)) : Go mX2_unit (dd + 8) 0 0 n0 (Ki Γ ρ r σr) 0 0 96 [some (.ref this), some (.ref a1), some (.int a2), some (.int x3), some (.int x4), some (.int x5), none] [] (hp Γ ρ σ) := by
  unfold f_X2_unit_96 at hf
  refine go_aload_n 1 dX2_unit_96 rfl rfl ?_
  refine go_dup dX2_unit_97 rfl ?_
  refine go_fI fl_X2_55 dX2_unit_98 h1 (by decide) rfl ?_
  refine go_iconst 1 dX2_unit_101 (by decide) ?_
  refine go_iadd dX2_unit_102 ?_
  obtain ⟨σ21, eσ21, hf⟩ := nmd_some hf
  refine go_pI fl_X2_55 ft_1_3 (okv_i _) dX2_unit_103 h1 (by decide) rfl ?_
  rw [eσ21]
  refine go_iload dX2_unit_106 rfl ?_
  refine go_if_ne 132 dX2_unit_108 (by decide) (fun c22 => ?_) (fun c22 => ?_)
  · replace hf := (if_neg c22).symm.trans hf
    refine go_msk [true, true, true, false, false, true, false] [some (.ref this), some (.ref a1), some (.int a2), none, none, some (.int x5), none] rfl ?_
    exact w_X2_unit_132 hs h0 h1 hG_X2_either x5 σ21 hf
  · replace hf := (if_pos c22).symm.trans hf
    refine go_aload_n 1 dX2_unit_111 rfl rfl ?_
    refine go_iload dX2_unit_112 rfl ?_
    refine go_if_eq 122 dX2_unit_114 (by decide) (fun c23 => ?_) (fun c23 => ?_)
    · replace hf := (if_pos c23).symm.trans hf
      refine go_aload_n 0 dX2_unit_122 rfl rfl ?_
      refine go_fR fl_X2_10 dX2_unit_123 h0 (by decide) rfl ?_
      refine go_fI fl_X2_58 dX2_unit_126 (hs.1 _ 2 0 h0 rfl) (by decide) rfl ?_
      refine go_msk [true, true, true, false, false, true, false] [some (.ref this), some (.ref a1), some (.int a2), none, none, some (.int x5), none] rfl ?_
      exact w_X2_unit_129 hs h0 h1 hG_X2_either x5 (σ21.1 (ρ this 0) 5) σ21 hf
    · replace hf := (if_neg c23).symm.trans hf
      refine go_iload_n 3 dX2_unit_117 rfl rfl ?_
      refine go_ineg dX2_unit_118 ?_
      refine go_goto 129 dX2_unit_119 (by decide) ?_
      refine go_msk [true, true, true, false, false, true, false] [some (.ref this), some (.ref a1), some (.int a2), none, none, some (.int x5), none] rfl ?_
      exact w_X2_unit_129 hs h0 h1 hG_X2_either x5 (-x3) σ21 hf
set_option maxRecDepth 100000 in
set_option maxHeartbeats 4000000 in
theorem w_X2_unit_60 {N : Nat} {Γ : SG} {ρ : Nat → Nat → Nat} {dd : Nat} (hs : Sh Γ ρ) {this : Nat} {a1 : Nat} {a2 : Int32} {G_X2_either : Nat → Nat → Int32 → St → Option (Int32 × St)} (h0 : Γ[this]? = some (0, 2)) (h1 : Γ[a1]? = some (0, 1)) (hG_X2_either : ∀ {this : Nat} {a1 : Nat} {a2 : Int32} {σ : St} {r : Int32} {σr : St}, Γ[this]? = some (0, 2) → Γ[a1]? = some (0, 1) → G_X2_either this a1 a2 σ = some (r, σr) → Tri mX2_either dd 0 0 [.ref this, .ref a1, .int a2] (hp Γ ρ σ) (Ki Γ ρ r σr)) {n0 : Nat} {r : Int32} {σr : St} (x3 : Int32) (x4 : Int32) (x5 : Int32) (s0 : Int32) (σ : St) (hf : f_X2_unit_60 N ρ this a1 a2 G_X2_either x3 x4 x5 s0 σ = some (r, σr)) : Go mX2_unit (dd + 8) 0 0 n0 (Ki Γ ρ r σr) 0 0 60 [some (.ref this), some (.ref a1), some (.int a2), some (.int x3), some (.int x4), some (.int x5), none] [.int s0] (hp Γ ρ σ) := by
  unfold f_X2_unit_60 at hf
  refine go_istore [some (.ref this), some (.ref a1), some (.int a2), some (.int x3), some (.int x4), some (.int x5), some (.int s0)] dX2_unit_60 (by decide) rfl ?_
  refine go_iload dX2_unit_62 rfl ?_
  refine go_if_eq 87 dX2_unit_64 (by decide) (fun c24 => ?_) (fun c24 => ?_)
  · replace hf := (if_pos c24).symm.trans hf
    refine go_msk [true, false, false, false, false, false, false] [some (.ref this), none, none, none, none, none, none] rfl ?_
    exact w_X2_unit_87 hs h0 h1 hG_X2_either σ hf
  · replace hf := (if_neg c24).symm.trans hf
    refine go_aload_n 1 dX2_unit_67 rfl rfl ?_
    refine go_fI fl_X2_55 dX2_unit_68 h1 (by decide) rfl ?_
    refine go_bipush 30 dX2_unit_71 (by decide) ?_
    refine go_icmp_ge 87 dX2_unit_73 (by decide) (fun c25 => ?_) (fun c25 => ?_)
    · replace hf := (if_pos c25).symm.trans hf
      refine go_msk [true, false, false, false, false, false, false] [some (.ref this), none, none, none, none, none, none] rfl ?_
      exact w_X2_unit_87 hs h0 h1 hG_X2_either σ hf
    · replace hf := (if_neg c25).symm.trans hf
      refine go_iload dX2_unit_76 rfl ?_
      refine go_if_eq 96 dX2_unit_78 (by decide) (fun c26 => ?_) (fun c26 => ?_)
      · replace hf := (if_pos c26).symm.trans hf
        refine go_msk [true, true, true, true, true, true, false] [some (.ref this), some (.ref a1), some (.int a2), some (.int x3), some (.int x4), some (.int x5), none] rfl ?_
        exact w_X2_unit_96 hs h0 h1 hG_X2_either x3 x4 x5 σ hf
      · replace hf := (if_neg c26).symm.trans hf
        refine go_iload_n 2 dX2_unit_81 rfl rfl ?_
        refine go_bipush 7 dX2_unit_82 (by decide) ?_
        refine go_icmp_lt 96 dX2_unit_84 (by decide) (fun c27 => ?_) (fun c27 => ?_)
        · replace hf := (if_pos c27).symm.trans hf
          refine go_msk [true, true, true, true, true, true, false] [some (.ref this), some (.ref a1), some (.int a2), some (.int x3), some (.int x4), some (.int x5), none] rfl ?_
          exact w_X2_unit_96 hs h0 h1 hG_X2_either x3 x4 x5 σ hf
        · replace hf := (if_neg c27).symm.trans hf
          refine go_msk [true, false, false, false, false, false, false] [some (.ref this), none, none, none, none, none, none] rfl ?_
          exact w_X2_unit_87 hs h0 h1 hG_X2_either σ hf
set_option maxRecDepth 100000 in
set_option maxHeartbeats 4000000 in
theorem w_X2_unit_55 {N : Nat} {Γ : SG} {ρ : Nat → Nat → Nat} {dd : Nat} (hs : Sh Γ ρ) {this : Nat} {a1 : Nat} {a2 : Int32} {G_X2_either : Nat → Nat → Int32 → St → Option (Int32 × St)} (h0 : Γ[this]? = some (0, 2)) (h1 : Γ[a1]? = some (0, 1)) (hG_X2_either : ∀ {this : Nat} {a1 : Nat} {a2 : Int32} {σ : St} {r : Int32} {σr : St}, Γ[this]? = some (0, 2) → Γ[a1]? = some (0, 1) → G_X2_either this a1 a2 σ = some (r, σr) → Tri mX2_either dd 0 0 [.ref this, .ref a1, .int a2] (hp Γ ρ σ) (Ki Γ ρ r σr)) {n0 : Nat} {r : Int32} {σr : St} (x3 : Int32) (x4 : Int32) (x5 : Int32) (σ : St) (hf : f_X2_unit_55 N ρ this a1 a2 G_X2_either x3 x4 x5 σ = some (r, σr)) : Go mX2_unit (dd + 8) 0 0 n0 (Ki Γ ρ r σr) 0 0 55 [some (.ref this), some (.ref a1), some (.int a2), some (.int x3), some (.int x4), some (.int x5), none] [] (hp Γ ρ σ) := by
  unfold f_X2_unit_55 at hf
  refine go_iconst 1 dX2_unit_55 (by decide) ?_
  refine go_goto 60 dX2_unit_56 (by decide) ?_
  exact w_X2_unit_60 hs h0 h1 hG_X2_either x3 x4 x5 1 σ hf
set_option maxRecDepth 100000 in
set_option maxHeartbeats 4000000 in
theorem w_X2_unit_37 {N : Nat} {Γ : SG} {ρ : Nat → Nat → Nat} {dd : Nat} (hs : Sh Γ ρ) {this : Nat} {a1 : Nat} {a2 : Int32} {G_X2_either : Nat → Nat → Int32 → St → Option (Int32 × St)} (h0 : Γ[this]? = some (0, 2)) (h1 : Γ[a1]? = some (0, 1)) (hG_X2_either : ∀ {this : Nat} {a1 : Nat} {a2 : Int32} {σ : St} {r : Int32} {σr : St}, Γ[this]? = some (0, 2) → Γ[a1]? = some (0, 1) → G_X2_either this a1 a2 σ = some (r, σr) → Tri mX2_either dd 0 0 [.ref this, .ref a1, .int a2] (hp Γ ρ σ) (Ki Γ ρ r σr)) {n0 : Nat} {r : Int32} {σr : St} (x3 : Int32) (x4 : Int32) (s0 : Int32) (σ : St) (hf : f_X2_unit_37 N ρ this a1 a2 G_X2_either x3 x4 s0 σ = some (r, σr)) : Go mX2_unit (dd + 8) 0 0 n0 (Ki Γ ρ r σr) 0 0 37 [some (.ref this), some (.ref a1), some (.int a2), some (.int x3), some (.int x4), none, none] [.int s0] (hp Γ ρ σ) := by
  unfold f_X2_unit_37 at hf
  refine go_istore [some (.ref this), some (.ref a1), some (.int a2), some (.int x3), some (.int x4), some (.int s0), none] dX2_unit_37 (by decide) rfl ?_
  refine go_iload dX2_unit_39 rfl ?_
  refine go_if_ne 55 dX2_unit_41 (by decide) (fun c28 => ?_) (fun c28 => ?_)
  · replace hf := (if_neg c28).symm.trans hf
    exact w_X2_unit_55 hs h0 h1 hG_X2_either x3 x4 s0 σ hf
  · replace hf := (if_pos c28).symm.trans hf
    refine go_iload dX2_unit_44 rfl ?_
    refine go_if_ne 55 dX2_unit_46 (by decide) (fun c29 => ?_) (fun c29 => ?_)
    · replace hf := (if_neg c29).symm.trans hf
      exact w_X2_unit_55 hs h0 h1 hG_X2_either x3 x4 s0 σ hf
    · replace hf := (if_pos c29).symm.trans hf
      refine go_iload_n 3 dX2_unit_49 rfl rfl ?_
      refine go_bipush 100 dX2_unit_50 (by decide) ?_
      refine go_icmp_ne 59 dX2_unit_52 (by decide) (fun c30 => ?_) (fun c30 => ?_)
      · replace hf := (if_neg c30).symm.trans hf
        refine go_iconst 0 dX2_unit_59 (by decide) ?_
        exact w_X2_unit_60 hs h0 h1 hG_X2_either x3 x4 s0 0 σ hf
      · replace hf := (if_pos c30).symm.trans hf
        exact w_X2_unit_55 hs h0 h1 hG_X2_either x3 x4 s0 σ hf
set_option maxRecDepth 100000 in
set_option maxHeartbeats 4000000 in
theorem w_X2_unit_24 {N : Nat} {Γ : SG} {ρ : Nat → Nat → Nat} {dd : Nat} (hs : Sh Γ ρ) {this : Nat} {a1 : Nat} {a2 : Int32} {G_X2_either : Nat → Nat → Int32 → St → Option (Int32 × St)} (h0 : Γ[this]? = some (0, 2)) (h1 : Γ[a1]? = some (0, 1)) (hG_X2_either : ∀ {this : Nat} {a1 : Nat} {a2 : Int32} {σ : St} {r : Int32} {σr : St}, Γ[this]? = some (0, 2) → Γ[a1]? = some (0, 1) → G_X2_either this a1 a2 σ = some (r, σr) → Tri mX2_either dd 0 0 [.ref this, .ref a1, .int a2] (hp Γ ρ σ) (Ki Γ ρ r σr)) {n0 : Nat} {r : Int32} {σr : St} (x3 : Int32) (s0 : Int32) (σ : St) (hf : f_X2_unit_24 N ρ this a1 a2 G_X2_either x3 s0 σ = some (r, σr)) : Go mX2_unit (dd + 8) 0 0 n0 (Ki Γ ρ r σr) 0 0 24 [some (.ref this), some (.ref a1), some (.int a2), some (.int x3), none, none, none] [.int s0] (hp Γ ρ σ) := by
  unfold f_X2_unit_24 at hf
  refine go_istore [some (.ref this), some (.ref a1), some (.int a2), some (.int x3), some (.int s0), none, none] dX2_unit_24 (by decide) rfl ?_
  refine go_iload_n 3 dX2_unit_26 rfl rfl ?_
  refine go_bipush 40 dX2_unit_27 (by decide) ?_
  refine go_icmp_ne 36 dX2_unit_29 (by decide) (fun c31 => ?_) (fun c31 => ?_)
  · replace hf := (if_neg c31).symm.trans hf
    refine go_iconst 0 dX2_unit_36 (by decide) ?_
    exact w_X2_unit_37 hs h0 h1 hG_X2_either x3 s0 0 σ hf
  · replace hf := (if_pos c31).symm.trans hf
    refine go_iconst 1 dX2_unit_32 (by decide) ?_
    refine go_goto 37 dX2_unit_33 (by decide) ?_
    exact w_X2_unit_37 hs h0 h1 hG_X2_either x3 s0 1 σ hf
set_option maxRecDepth 100000 in
set_option maxHeartbeats 4000000 in
theorem w_X2_unit_23 {N : Nat} {Γ : SG} {ρ : Nat → Nat → Nat} {dd : Nat} (hs : Sh Γ ρ) {this : Nat} {a1 : Nat} {a2 : Int32} {G_X2_either : Nat → Nat → Int32 → St → Option (Int32 × St)} (h0 : Γ[this]? = some (0, 2)) (h1 : Γ[a1]? = some (0, 1)) (hG_X2_either : ∀ {this : Nat} {a1 : Nat} {a2 : Int32} {σ : St} {r : Int32} {σr : St}, Γ[this]? = some (0, 2) → Γ[a1]? = some (0, 1) → G_X2_either this a1 a2 σ = some (r, σr) → Tri mX2_either dd 0 0 [.ref this, .ref a1, .int a2] (hp Γ ρ σ) (Ki Γ ρ r σr)) {n0 : Nat} {r : Int32} {σr : St} (x3 : Int32) (σ : St) (hf : f_X2_unit_23 N ρ this a1 a2 G_X2_either x3 σ = some (r, σr)) : Go mX2_unit (dd + 8) 0 0 n0 (Ki Γ ρ r σr) 0 0 23 [some (.ref this), some (.ref a1), some (.int a2), some (.int x3), none, none, none] [] (hp Γ ρ σ) := by
  unfold f_X2_unit_23 at hf
  refine go_iconst 0 dX2_unit_23 (by decide) ?_
  exact w_X2_unit_24 hs h0 h1 hG_X2_either x3 0 σ hf
set_option maxRecDepth 100000 in
set_option maxHeartbeats 4000000 in
theorem to_X2_unit {N : Nat} {Γ : SG} {ρ : Nat → Nat → Nat} {dd : Nat} (hs : Sh Γ ρ) {this : Nat} {a1 : Nat} {a2 : Int32} {G_X2_either : Nat → Nat → Int32 → St → Option (Int32 × St)} (h0 : Γ[this]? = some (0, 2)) (h1 : Γ[a1]? = some (0, 1)) (hG_X2_either : ∀ {this : Nat} {a1 : Nat} {a2 : Int32} {σ : St} {r : Int32} {σr : St}, Γ[this]? = some (0, 2) → Γ[a1]? = some (0, 1) → G_X2_either this a1 a2 σ = some (r, σr) → Tri mX2_either dd 0 0 [.ref this, .ref a1, .int a2] (hp Γ ρ σ) (Ki Γ ρ r σr)) {σ : St} {r : Int32} {σr : St} (hf : fo_X2_unit N ρ this a1 a2 G_X2_either σ = some (r, σr)) : Tri mX2_unit (dd + 8) 0 0 [.ref this, .ref a1, .int a2] (hp Γ ρ σ) (Ki Γ ρ r σr) := by
  unfold fo_X2_unit at hf
  refine tri_of [some (.ref this), some (.ref a1), some (.int a2), none, none, none, none] (plainFor_of_name rfl) rfl (Nat.le_of_ble_eq_true rfl) ?_
  refine go_aload_n 0 dX2_unit_0 rfl rfl ?_
  refine go_fR fl_X2_10 dX2_unit_1 h0 (by decide) rfl ?_
  refine go_fI fl_X2_22 dX2_unit_4 (hs.1 _ 2 0 h0 rfl) (by decide) rfl ?_
  obtain ⟨y32, ey32, hf⟩ := nmd_some hf
  refine go_nm ey32 ?_
  refine go_istore_n 3 [some (.ref this), some (.ref a1), some (.int a2), some (.int y32), none, none, none] dX2_unit_7 rfl (by decide) rfl ?_
  refine go_iload_n 3 dX2_unit_8 rfl rfl ?_
  refine go_iconst 1 dX2_unit_9 (by decide) ?_
  refine go_icmp_lt 23 dX2_unit_10 (by decide) (fun c33 => ?_) (fun c33 => ?_)
  · replace hf := (if_pos c33).symm.trans hf
    exact w_X2_unit_23 hs h0 h1 hG_X2_either y32 σ hf
  · replace hf := (if_neg c33).symm.trans hf
    refine go_iload_n 3 dX2_unit_13 rfl rfl ?_
    refine go_bipush 6 dX2_unit_14 (by decide) ?_
    refine go_icmp_gt 23 dX2_unit_16 (by decide) (fun c34 => ?_) (fun c34 => ?_)
    · replace hf := (if_pos c34).symm.trans hf
      exact w_X2_unit_23 hs h0 h1 hG_X2_either y32 σ hf
    · replace hf := (if_neg c34).symm.trans hf
      refine go_iconst 1 dX2_unit_19 (by decide) ?_
      refine go_goto 24 dX2_unit_20 (by decide) ?_
      exact w_X2_unit_24 hs h0 h1 hG_X2_either y32 1 σ hf
def f_X2_term_70 (N : Nat) (ρ : Nat → Nat → Nat) (this : Nat) (a1 : Nat) (a2 : Int32) (G_X2_unit : Nat → Nat → Int32 → St → Option (Int32 × St)) (x3 : Int32) (σ : St) : Option (Int32 × St) :=
  gd (bb x3) <|
  some (x3, σ)
def b_X2_term_10 (N : Nat) (ρ : Nat → Nat → Nat) (this : Nat) (a1 : Nat) (a2 : Int32) (G_X2_unit : Nat → Nat → Int32 → St → Option (Int32 × St)) (rec10 : Int32 → Int32 → St → Option (Int32 × St)) (x3 : Int32) (x4 : Int32) (σ : St) : Option (Int32 × St) :=
  if (x3 : Int32) = 0 then
    f_X2_term_70 N ρ this a1 a2 G_X2_unit x3 σ
  else
    if 30 ≤ (x4 : Int32) then
      f_X2_term_70 N ρ this a1 a2 G_X2_unit x3 σ
    else
      bnd (f_X2_isTimes N ρ (σ.1 (ρ this 0) 4) σ) fun r4 σ5 =>
      if (r4 : Int32) = 0 then
        f_X2_term_70 N ρ this a1 a2 G_X2_unit x3 σ5
      else
        nmd (σ5.1 (ρ this 0) 4) fun y8 =>
        bnd (f_X5_advance N ρ (ρ this 0) σ5) fun _ σ10 =>
        bnd (G_X2_unit this a1 a2 σ10) fun r12 σ13 =>
        bnd (f_X1_add N ρ a1 (-y8) σ13) fun _ σ16 =>
        rec10 r12 (x4 + 1) σ16
def f_X2_term_10 (N : Nat) (ρ : Nat → Nat → Nat) (this : Nat) (a1 : Nat) (a2 : Int32) (G_X2_unit : Nat → Nat → Int32 → St → Option (Int32 × St)) : Nat → Int32 → Int32 → St → Option (Int32 × St)
  | 0, _, _, _ => none
  | n + 1, x3, x4, σ => b_X2_term_10 N ρ this a1 a2 G_X2_unit (f_X2_term_10 N ρ this a1 a2 G_X2_unit n) x3 x4 σ
def fo_X2_term (N : Nat) (ρ : Nat → Nat → Nat) (this : Nat) (a1 : Nat) (a2 : Int32) (G_X2_unit : Nat → Nat → Int32 → St → Option (Int32 × St)) (σ : St) : Option (Int32 × St) :=
  bnd (G_X2_unit this a1 a2 σ) fun r18 σ19 =>
  f_X2_term_10 N ρ this a1 a2 G_X2_unit N r18 0 σ19
set_option maxRecDepth 100000 in
set_option maxHeartbeats 4000000 in
theorem w_X2_term_70 {N : Nat} {Γ : SG} {ρ : Nat → Nat → Nat} {dd : Nat} (hs : Sh Γ ρ) {this : Nat} {a1 : Nat} {a2 : Int32} {G_X2_unit : Nat → Nat → Int32 → St → Option (Int32 × St)} (h0 : Γ[this]? = some (0, 2)) (h1 : Γ[a1]? = some (0, 1)) (hG_X2_unit : ∀ {this : Nat} {a1 : Nat} {a2 : Int32} {σ : St} {r : Int32} {σr : St}, Γ[this]? = some (0, 2) → Γ[a1]? = some (0, 1) → G_X2_unit this a1 a2 σ = some (r, σr) → Tri mX2_unit dd 0 0 [.ref this, .ref a1, .int a2] (hp Γ ρ σ) (Ki Γ ρ r σr)) {n0 : Nat} {r : Int32} {σr : St} (x3 : Int32) (σ : St) (hf : f_X2_term_70 N ρ this a1 a2 G_X2_unit x3 σ = some (r, σr)) : Go mX2_term (dd + 8) 0 0 n0 (Ki Γ ρ r σr) 0 0 70 [none, none, none, some (.int x3), none, none] [] (hp Γ ρ σ) := by
  unfold f_X2_term_70 at hf
  refine go_iload_n 3 dX2_term_70 rfl rfl ?_
  obtain ⟨g1, hf⟩ := gd_some hf
  cases hf
  exact go_zret rfl (bb_of g1) dX2_term_71 (Nat.le_refl _) ⟨rfl, rfl⟩
set_option maxRecDepth 100000 in
set_option maxHeartbeats 4000000 in
theorem v_X2_term_10 {N : Nat} {Γ : SG} {ρ : Nat → Nat → Nat} {dd : Nat} (hs : Sh Γ ρ) {this : Nat} {a1 : Nat} {a2 : Int32} {G_X2_unit : Nat → Nat → Int32 → St → Option (Int32 × St)} (h0 : Γ[this]? = some (0, 2)) (h1 : Γ[a1]? = some (0, 1)) (hG_X2_unit : ∀ {this : Nat} {a1 : Nat} {a2 : Int32} {σ : St} {r : Int32} {σr : St}, Γ[this]? = some (0, 2) → Γ[a1]? = some (0, 1) → G_X2_unit this a1 a2 σ = some (r, σr) → Tri mX2_unit dd 0 0 [.ref this, .ref a1, .int a2] (hp Γ ρ σ) (Ki Γ ρ r σr)) {n0 : Nat} {r : Int32} {σr : St} (rec10 : Int32 → Int32 → St → Option (Int32 × St)) (hrec10 : ∀ (x3 : Int32) (x4 : Int32) (σ : St), rec10 x3 x4 σ = some (r, σr) → Go mX2_term (dd + 8) 0 0 n0 (Ki Γ ρ r σr) 0 0 10 [some (.ref this), some (.ref a1), some (.int a2), some (.int x3), some (.int x4), none] [] (hp Γ ρ σ)) (x3 : Int32) (x4 : Int32) (σ : St) (hf : b_X2_term_10 N ρ this a1 a2 G_X2_unit rec10 x3 x4 σ = some (r, σr)) : Go mX2_term (dd + 8) 0 0 n0 (Ki Γ ρ r σr) 0 0 10 [some (.ref this), some (.ref a1), some (.int a2), some (.int x3), some (.int x4), none] [] (hp Γ ρ σ) := by
  unfold b_X2_term_10 at hf
  refine go_iload_n 3 dX2_term_10 rfl rfl ?_
  refine go_if_eq 70 dX2_term_11 (by decide) (fun c2 => ?_) (fun c2 => ?_)
  · replace hf := (if_pos c2).symm.trans hf
    refine go_msk [false, false, false, true, false, false] [none, none, none, some (.int x3), none, none] rfl ?_
    exact w_X2_term_70 hs h0 h1 hG_X2_unit x3 σ hf
  · replace hf := (if_neg c2).symm.trans hf
    refine go_iload dX2_term_14 rfl ?_
    refine go_bipush 30 dX2_term_16 (by decide) ?_
    refine go_icmp_ge 70 dX2_term_18 (by decide) (fun c3 => ?_) (fun c3 => ?_)
    · replace hf := (if_pos c3).symm.trans hf
      refine go_msk [false, false, false, true, false, false] [none, none, none, some (.int x3), none, none] rfl ?_
      exact w_X2_term_70 hs h0 h1 hG_X2_unit x3 σ hf
    · replace hf := (if_neg c3).symm.trans hf
      refine go_aload_n 0 dX2_term_21 rfl rfl ?_
      refine go_fR fl_X2_10 dX2_term_22 h0 (by decide) rfl ?_
      refine go_fI fl_X2_22 dX2_term_25 (hs.1 _ 2 0 h0 rfl) (by decide) rfl ?_
      obtain ⟨r4, σ5, q6, hf⟩ := bnd_some hf
      refine go_Si (av := [.int (σ.1 (ρ this 0) 4)]) (rest := []) (t_X2_isTimes hs  q6) ok_X2_isTimes ml_X2_52 dX2_term_28 rfl rfl (by omega) (Nat.le_refl _) (Nat.le_refl _) (Nat.le_of_ble_eq_true rfl) ?_
      refine go_if_eq 70 dX2_term_31 (by decide) (fun c7 => ?_) (fun c7 => ?_)
      · replace hf := (if_pos c7).symm.trans hf
        refine go_msk [false, false, false, true, false, false] [none, none, none, some (.int x3), none, none] rfl ?_
        exact w_X2_term_70 hs h0 h1 hG_X2_unit x3 σ5 hf
      · replace hf := (if_neg c7).symm.trans hf
        refine go_aload_n 0 dX2_term_34 rfl rfl ?_
        refine go_fR fl_X2_10 dX2_term_35 h0 (by decide) rfl ?_
        refine go_fI fl_X2_22 dX2_term_38 (hs.1 _ 2 0 h0 rfl) (by decide) rfl ?_
        obtain ⟨y8, ey8, hf⟩ := nmd_some hf
        refine go_nm ey8 ?_
        refine go_istore [some (.ref this), some (.ref a1), some (.int a2), some (.int x3), some (.int x4), some (.int y8)] dX2_term_41 (by decide) rfl ?_
        refine go_aload_n 0 dX2_term_43 rfl rfl ?_
        refine go_fR fl_X2_10 dX2_term_44 h0 (by decide) rfl ?_
        obtain ⟨r9, σ10, q11, hf⟩ := bnd_some hf
        refine go_Vv (av := []) (rest := []) (t_X5_advance hs (hs.1 _ 2 0 h0 rfl) q11) ok_X5_advance ml_X2_26 dX2_term_47 (hs.1 _ 2 0 h0 rfl) rfl rfl (by omega) (Nat.le_refl _) (Nat.le_refl _) (Nat.le_of_ble_eq_true rfl) ?_
        refine go_aload_n 0 dX2_term_50 rfl rfl ?_
        refine go_aload_n 1 dX2_term_51 rfl rfl ?_
        refine go_iload_n 2 dX2_term_52 rfl rfl ?_
        obtain ⟨r12, σ13, q14, hf⟩ := bnd_some hf
        refine go_Vi (av := [.ref a1, .int a2]) (rest := []) (hG_X2_unit h0 h1 q14) ok_X2_unit ml_X2_49 dX2_term_53 h0 rfl rfl (by omega) (Nat.le_refl _) (Nat.le_refl _) (Nat.le_of_ble_eq_true rfl) ?_
        refine go_istore_n 3 [some (.ref this), some (.ref a1), some (.int a2), some (.int r12), some (.int x4), some (.int y8)] dX2_term_56 rfl (by decide) rfl ?_
        refine go_aload_n 1 dX2_term_57 rfl rfl ?_
        refine go_iload dX2_term_58 rfl ?_
        refine go_ineg dX2_term_60 ?_
        obtain ⟨r15, σ16, q17, hf⟩ := bnd_some hf
        refine go_Vv (av := [.int (-y8)]) (rest := []) (t_X1_add hs h1 q17) ok_X1_add ml_X2_29 dX2_term_61 h1 rfl rfl (by omega) (Nat.le_refl _) (Nat.le_refl _) (Nat.le_of_ble_eq_true rfl) ?_
        refine go_iinc (x4 + 1) [some (.ref this), some (.ref a1), some (.int a2), some (.int r12), some (.int (x4 + 1)), some (.int y8)] dX2_term_64 rfl rfl (by decide) rfl ?_
        refine go_goto 10 dX2_term_67 (by decide) ?_
        refine go_msk [true, true, true, true, true, false] [some (.ref this), some (.ref a1), some (.int a2), some (.int r12), some (.int (x4 + 1)), none] rfl ?_
        exact hrec10 r12 (x4 + 1) σ16 hf
theorem w_X2_term_10 {N : Nat} {Γ : SG} {ρ : Nat → Nat → Nat} {dd : Nat} (hs : Sh Γ ρ) {this : Nat} {a1 : Nat} {a2 : Int32} {G_X2_unit : Nat → Nat → Int32 → St → Option (Int32 × St)} (h0 : Γ[this]? = some (0, 2)) (h1 : Γ[a1]? = some (0, 1)) (hG_X2_unit : ∀ {this : Nat} {a1 : Nat} {a2 : Int32} {σ : St} {r : Int32} {σr : St}, Γ[this]? = some (0, 2) → Γ[a1]? = some (0, 1) → G_X2_unit this a1 a2 σ = some (r, σr) → Tri mX2_unit dd 0 0 [.ref this, .ref a1, .int a2] (hp Γ ρ σ) (Ki Γ ρ r σr)) {n0 : Nat} {r : Int32} {σr : St} : ∀ (n : Nat) (x3 : Int32) (x4 : Int32) (σ : St), f_X2_term_10 N ρ this a1 a2 G_X2_unit n x3 x4 σ = some (r, σr) → Go mX2_term (dd + 8) 0 0 n0 (Ki Γ ρ r σr) 0 0 10 [some (.ref this), some (.ref a1), some (.int a2), some (.int x3), some (.int x4), none] [] (hp Γ ρ σ) := by
  intro n
  induction n with
  | zero => intro x3 x4 σ hf; cases hf
  | succ n ih => intro x3 x4 σ hf; exact v_X2_term_10 hs h0 h1 hG_X2_unit _ ih x3 x4 σ hf
set_option maxRecDepth 100000 in
set_option maxHeartbeats 4000000 in
theorem to_X2_term {N : Nat} {Γ : SG} {ρ : Nat → Nat → Nat} {dd : Nat} (hs : Sh Γ ρ) {this : Nat} {a1 : Nat} {a2 : Int32} {G_X2_unit : Nat → Nat → Int32 → St → Option (Int32 × St)} (h0 : Γ[this]? = some (0, 2)) (h1 : Γ[a1]? = some (0, 1)) (hG_X2_unit : ∀ {this : Nat} {a1 : Nat} {a2 : Int32} {σ : St} {r : Int32} {σr : St}, Γ[this]? = some (0, 2) → Γ[a1]? = some (0, 1) → G_X2_unit this a1 a2 σ = some (r, σr) → Tri mX2_unit dd 0 0 [.ref this, .ref a1, .int a2] (hp Γ ρ σ) (Ki Γ ρ r σr)) {σ : St} {r : Int32} {σr : St} (hf : fo_X2_term N ρ this a1 a2 G_X2_unit σ = some (r, σr)) : Tri mX2_term (dd + 8) 0 0 [.ref this, .ref a1, .int a2] (hp Γ ρ σ) (Ki Γ ρ r σr) := by
  unfold fo_X2_term at hf
  refine tri_of [some (.ref this), some (.ref a1), some (.int a2), none, none, none] (plainFor_of_name rfl) rfl (Nat.le_of_ble_eq_true rfl) ?_
  refine go_aload_n 0 dX2_term_0 rfl rfl ?_
  refine go_aload_n 1 dX2_term_1 rfl rfl ?_
  refine go_iload_n 2 dX2_term_2 rfl rfl ?_
  obtain ⟨r18, σ19, q20, hf⟩ := bnd_some hf
  refine go_Vi (av := [.ref a1, .int a2]) (rest := []) (hG_X2_unit h0 h1 q20) ok_X2_unit ml_X2_49 dX2_term_3 h0 rfl rfl (by omega) (Nat.le_refl _) (Nat.le_refl _) (Nat.le_of_ble_eq_true rfl) ?_
  refine go_istore_n 3 [some (.ref this), some (.ref a1), some (.int a2), some (.int r18), none, none] dX2_term_6 rfl (by decide) rfl ?_
  refine go_iconst 0 dX2_term_7 (by decide) ?_
  refine go_istore [some (.ref this), some (.ref a1), some (.int a2), some (.int r18), some (.int 0), none] dX2_term_8 (by decide) rfl ?_
  exact w_X2_term_10 hs h0 h1 hG_X2_unit N r18 0 σ19 hf
def f_X2_sum_45 (N : Nat) (ρ : Nat → Nat → Nat) (this : Nat) (a1 : Nat) (a2 : Int32) (G_X2_term : Nat → Nat → Int32 → St → Option (Int32 × St)) (rec10 : Int32 → Int32 → St → Option (Int32 × St)) (x4 : Int32) (σ : St) : Option (Int32 × St) :=
  nmd (σ.1 (ρ this 0) 4) fun y1 =>
  bnd (f_X5_advance N ρ (ρ this 0) σ) fun _ σ3 =>
  bnd (G_X2_term this a1 a2 σ3) fun r5 σ6 =>
  bnd (f_X1_add N ρ a1 (-y1) σ6) fun _ σ9 =>
  rec10 r5 (x4 + 1) σ9
def f_X2_sum_81 (N : Nat) (ρ : Nat → Nat → Nat) (this : Nat) (a1 : Nat) (a2 : Int32) (G_X2_term : Nat → Nat → Int32 → St → Option (Int32 × St)) (x3 : Int32) (σ : St) : Option (Int32 × St) :=
  gd (bb x3) <|
  some (x3, σ)
def b_X2_sum_10 (N : Nat) (ρ : Nat → Nat → Nat) (this : Nat) (a1 : Nat) (a2 : Int32) (G_X2_term : Nat → Nat → Int32 → St → Option (Int32 × St)) (rec10 : Int32 → Int32 → St → Option (Int32 × St)) (x3 : Int32) (x4 : Int32) (σ : St) : Option (Int32 × St) :=
  if (x3 : Int32) = 0 then
    f_X2_sum_81 N ρ this a1 a2 G_X2_term x3 σ
  else
    if 30 ≤ (x4 : Int32) then
      f_X2_sum_81 N ρ this a1 a2 G_X2_term x3 σ
    else
      if (σ.1 (ρ this 0) 4 : Int32) = 43 then
        f_X2_sum_45 N ρ this a1 a2 G_X2_term rec10 x4 σ
      else
        if (σ.1 (ρ this 0) 4 : Int32) = 45 then
          f_X2_sum_45 N ρ this a1 a2 G_X2_term rec10 x4 σ
        else
          f_X2_sum_81 N ρ this a1 a2 G_X2_term x3 σ
def f_X2_sum_10 (N : Nat) (ρ : Nat → Nat → Nat) (this : Nat) (a1 : Nat) (a2 : Int32) (G_X2_term : Nat → Nat → Int32 → St → Option (Int32 × St)) : Nat → Int32 → Int32 → St → Option (Int32 × St)
  | 0, _, _, _ => none
  | n + 1, x3, x4, σ => b_X2_sum_10 N ρ this a1 a2 G_X2_term (f_X2_sum_10 N ρ this a1 a2 G_X2_term n) x3 x4 σ
def fo_X2_sum (N : Nat) (ρ : Nat → Nat → Nat) (this : Nat) (a1 : Nat) (a2 : Int32) (G_X2_term : Nat → Nat → Int32 → St → Option (Int32 × St)) (σ : St) : Option (Int32 × St) :=
  bnd (G_X2_term this a1 a2 σ) fun r16 σ17 =>
  f_X2_sum_10 N ρ this a1 a2 G_X2_term N r16 0 σ17
set_option maxRecDepth 100000 in
set_option maxHeartbeats 4000000 in
theorem w_X2_sum_45 {N : Nat} {Γ : SG} {ρ : Nat → Nat → Nat} {dd : Nat} (hs : Sh Γ ρ) {this : Nat} {a1 : Nat} {a2 : Int32} {G_X2_term : Nat → Nat → Int32 → St → Option (Int32 × St)} (h0 : Γ[this]? = some (0, 2)) (h1 : Γ[a1]? = some (0, 1)) (hG_X2_term : ∀ {this : Nat} {a1 : Nat} {a2 : Int32} {σ : St} {r : Int32} {σr : St}, Γ[this]? = some (0, 2) → Γ[a1]? = some (0, 1) → G_X2_term this a1 a2 σ = some (r, σr) → Tri mX2_term dd 0 0 [.ref this, .ref a1, .int a2] (hp Γ ρ σ) (Ki Γ ρ r σr)) {n0 : Nat} {r : Int32} {σr : St} (rec10 : Int32 → Int32 → St → Option (Int32 × St)) (hrec10 : ∀ (x3 : Int32) (x4 : Int32) (σ : St), rec10 x3 x4 σ = some (r, σr) → Go mX2_sum (dd + 8) 0 0 n0 (Ki Γ ρ r σr) 0 0 10 [some (.ref this), some (.ref a1), some (.int a2), some (.int x3), some (.int x4), none] [] (hp Γ ρ σ)) (x4 : Int32) (σ : St) (hf : f_X2_sum_45 N ρ this a1 a2 G_X2_term rec10 x4 σ = some (r, σr)) : Go mX2_sum (dd + 8) 0 0 n0 (Ki Γ ρ r σr) 0 0 45 [some (.ref this), some (.ref a1), some (.int a2), none, some (.int x4), none] [] (hp Γ ρ σ) := by
  unfold f_X2_sum_45 at hf
  refine go_aload_n 0 dX2_sum_45 rfl rfl ?_
  refine go_fR fl_X2_10 dX2_sum_46 h0 (by decide) rfl ?_
  refine go_fI fl_X2_22 dX2_sum_49 (hs.1 _ 2 0 h0 rfl) (by decide) rfl ?_
  obtain ⟨y1, ey1, hf⟩ := nmd_some hf
  refine go_nm ey1 ?_
  refine go_istore [some (.ref this), some (.ref a1), some (.int a2), none, some (.int x4), some (.int y1)] dX2_sum_52 (by decide) rfl ?_
  refine go_aload_n 0 dX2_sum_54 rfl rfl ?_
  refine go_fR fl_X2_10 dX2_sum_55 h0 (by decide) rfl ?_
  obtain ⟨r2, σ3, q4, hf⟩ := bnd_some hf
  refine go_Vv (av := []) (rest := []) (t_X5_advance hs (hs.1 _ 2 0 h0 rfl) q4) ok_X5_advance ml_X2_26 dX2_sum_58 (hs.1 _ 2 0 h0 rfl) rfl rfl (by omega) (Nat.le_refl _) (Nat.le_refl _) (Nat.le_of_ble_eq_true rfl) ?_
  refine go_aload_n 0 dX2_sum_61 rfl rfl ?_
  refine go_aload_n 1 dX2_sum_62 rfl rfl ?_
  refine go_iload_n 2 dX2_sum_63 rfl rfl ?_
  obtain ⟨r5, σ6, q7, hf⟩ := bnd_some hf
  refine go_Vi (av := [.ref a1, .int a2]) (rest := []) (hG_X2_term h0 h1 q7) ok_X2_term ml_X2_46 dX2_sum_64 h0 rfl rfl (by omega) (Nat.le_refl _) (Nat.le_refl _) (Nat.le_of_ble_eq_true rfl) ?_
  refine go_istore_n 3 [some (.ref this), some (.ref a1), some (.int a2), some (.int r5), some (.int x4), some (.int y1)] dX2_sum_67 rfl (by decide) rfl ?_
  refine go_aload_n 1 dX2_sum_68 rfl rfl ?_
  refine go_iload dX2_sum_69 rfl ?_
  refine go_ineg dX2_sum_71 ?_
  obtain ⟨r8, σ9, q10, hf⟩ := bnd_some hf
  refine go_Vv (av := [.int (-y1)]) (rest := []) (t_X1_add hs h1 q10) ok_X1_add ml_X2_29 dX2_sum_72 h1 rfl rfl (by omega) (Nat.le_refl _) (Nat.le_refl _) (Nat.le_of_ble_eq_true rfl) ?_
  refine go_iinc (x4 + 1) [some (.ref this), some (.ref a1), some (.int a2), some (.int r5), some (.int (x4 + 1)), some (.int y1)] dX2_sum_75 rfl rfl (by decide) rfl ?_
  refine go_goto 10 dX2_sum_78 (by decide) ?_
  refine go_msk [true, true, true, true, true, false] [some (.ref this), some (.ref a1), some (.int a2), some (.int r5), some (.int (x4 + 1)), none] rfl ?_
  exact hrec10 r5 (x4 + 1) σ9 hf
set_option maxRecDepth 100000 in
set_option maxHeartbeats 4000000 in
theorem w_X2_sum_81 {N : Nat} {Γ : SG} {ρ : Nat → Nat → Nat} {dd : Nat} (hs : Sh Γ ρ) {this : Nat} {a1 : Nat} {a2 : Int32} {G_X2_term : Nat → Nat → Int32 → St → Option (Int32 × St)} (h0 : Γ[this]? = some (0, 2)) (h1 : Γ[a1]? = some (0, 1)) (hG_X2_term : ∀ {this : Nat} {a1 : Nat} {a2 : Int32} {σ : St} {r : Int32} {σr : St}, Γ[this]? = some (0, 2) → Γ[a1]? = some (0, 1) → G_X2_term this a1 a2 σ = some (r, σr) → Tri mX2_term dd 0 0 [.ref this, .ref a1, .int a2] (hp Γ ρ σ) (Ki Γ ρ r σr)) {n0 : Nat} {r : Int32} {σr : St} (x3 : Int32) (σ : St) (hf : f_X2_sum_81 N ρ this a1 a2 G_X2_term x3 σ = some (r, σr)) : Go mX2_sum (dd + 8) 0 0 n0 (Ki Γ ρ r σr) 0 0 81 [none, none, none, some (.int x3), none, none] [] (hp Γ ρ σ) := by
  unfold f_X2_sum_81 at hf
  refine go_iload_n 3 dX2_sum_81 rfl rfl ?_
  obtain ⟨g11, hf⟩ := gd_some hf
  cases hf
  exact go_zret rfl (bb_of g11) dX2_sum_82 (Nat.le_refl _) ⟨rfl, rfl⟩
set_option maxRecDepth 100000 in
set_option maxHeartbeats 4000000 in
theorem v_X2_sum_10 {N : Nat} {Γ : SG} {ρ : Nat → Nat → Nat} {dd : Nat} (hs : Sh Γ ρ) {this : Nat} {a1 : Nat} {a2 : Int32} {G_X2_term : Nat → Nat → Int32 → St → Option (Int32 × St)} (h0 : Γ[this]? = some (0, 2)) (h1 : Γ[a1]? = some (0, 1)) (hG_X2_term : ∀ {this : Nat} {a1 : Nat} {a2 : Int32} {σ : St} {r : Int32} {σr : St}, Γ[this]? = some (0, 2) → Γ[a1]? = some (0, 1) → G_X2_term this a1 a2 σ = some (r, σr) → Tri mX2_term dd 0 0 [.ref this, .ref a1, .int a2] (hp Γ ρ σ) (Ki Γ ρ r σr)) {n0 : Nat} {r : Int32} {σr : St} (rec10 : Int32 → Int32 → St → Option (Int32 × St)) (hrec10 : ∀ (x3 : Int32) (x4 : Int32) (σ : St), rec10 x3 x4 σ = some (r, σr) → Go mX2_sum (dd + 8) 0 0 n0 (Ki Γ ρ r σr) 0 0 10 [some (.ref this), some (.ref a1), some (.int a2), some (.int x3), some (.int x4), none] [] (hp Γ ρ σ)) (x3 : Int32) (x4 : Int32) (σ : St) (hf : b_X2_sum_10 N ρ this a1 a2 G_X2_term rec10 x3 x4 σ = some (r, σr)) : Go mX2_sum (dd + 8) 0 0 n0 (Ki Γ ρ r σr) 0 0 10 [some (.ref this), some (.ref a1), some (.int a2), some (.int x3), some (.int x4), none] [] (hp Γ ρ σ) := by
  unfold b_X2_sum_10 at hf
  refine go_iload_n 3 dX2_sum_10 rfl rfl ?_
  refine go_if_eq 81 dX2_sum_11 (by decide) (fun c12 => ?_) (fun c12 => ?_)
  · replace hf := (if_pos c12).symm.trans hf
    refine go_msk [false, false, false, true, false, false] [none, none, none, some (.int x3), none, none] rfl ?_
    exact w_X2_sum_81 hs h0 h1 hG_X2_term x3 σ hf
  · replace hf := (if_neg c12).symm.trans hf
    refine go_iload dX2_sum_14 rfl ?_
    refine go_bipush 30 dX2_sum_16 (by decide) ?_
    refine go_icmp_ge 81 dX2_sum_18 (by decide) (fun c13 => ?_) (fun c13 => ?_)
    · replace hf := (if_pos c13).symm.trans hf
      refine go_msk [false, false, false, true, false, false] [none, none, none, some (.int x3), none, none] rfl ?_
      exact w_X2_sum_81 hs h0 h1 hG_X2_term x3 σ hf
    · replace hf := (if_neg c13).symm.trans hf
      refine go_aload_n 0 dX2_sum_21 rfl rfl ?_
      refine go_fR fl_X2_10 dX2_sum_22 h0 (by decide) rfl ?_
      refine go_fI fl_X2_22 dX2_sum_25 (hs.1 _ 2 0 h0 rfl) (by decide) rfl ?_
      refine go_bipush 43 dX2_sum_28 (by decide) ?_
      refine go_icmp_eq 45 dX2_sum_30 (by decide) (fun c14 => ?_) (fun c14 => ?_)
      · replace hf := (if_pos c14).symm.trans hf
        refine go_msk [true, true, true, false, true, false] [some (.ref this), some (.ref a1), some (.int a2), none, some (.int x4), none] rfl ?_
        exact w_X2_sum_45 hs h0 h1 hG_X2_term rec10 hrec10 x4 σ hf
      · replace hf := (if_neg c14).symm.trans hf
        refine go_aload_n 0 dX2_sum_33 rfl rfl ?_
        refine go_fR fl_X2_10 dX2_sum_34 h0 (by decide) rfl ?_
        refine go_fI fl_X2_22 dX2_sum_37 (hs.1 _ 2 0 h0 rfl) (by decide) rfl ?_
        refine go_bipush 45 dX2_sum_40 (by decide) ?_
        refine go_icmp_ne 81 dX2_sum_42 (by decide) (fun c15 => ?_) (fun c15 => ?_)
        · replace hf := (if_neg c15).symm.trans hf
          refine go_msk [false, false, false, true, false, false] [none, none, none, some (.int x3), none, none] rfl ?_
          exact w_X2_sum_81 hs h0 h1 hG_X2_term x3 σ hf
        · replace hf := (if_pos c15).symm.trans hf
          refine go_msk [true, true, true, false, true, false] [some (.ref this), some (.ref a1), some (.int a2), none, some (.int x4), none] rfl ?_
          exact w_X2_sum_45 hs h0 h1 hG_X2_term rec10 hrec10 x4 σ hf
theorem w_X2_sum_10 {N : Nat} {Γ : SG} {ρ : Nat → Nat → Nat} {dd : Nat} (hs : Sh Γ ρ) {this : Nat} {a1 : Nat} {a2 : Int32} {G_X2_term : Nat → Nat → Int32 → St → Option (Int32 × St)} (h0 : Γ[this]? = some (0, 2)) (h1 : Γ[a1]? = some (0, 1)) (hG_X2_term : ∀ {this : Nat} {a1 : Nat} {a2 : Int32} {σ : St} {r : Int32} {σr : St}, Γ[this]? = some (0, 2) → Γ[a1]? = some (0, 1) → G_X2_term this a1 a2 σ = some (r, σr) → Tri mX2_term dd 0 0 [.ref this, .ref a1, .int a2] (hp Γ ρ σ) (Ki Γ ρ r σr)) {n0 : Nat} {r : Int32} {σr : St} : ∀ (n : Nat) (x3 : Int32) (x4 : Int32) (σ : St), f_X2_sum_10 N ρ this a1 a2 G_X2_term n x3 x4 σ = some (r, σr) → Go mX2_sum (dd + 8) 0 0 n0 (Ki Γ ρ r σr) 0 0 10 [some (.ref this), some (.ref a1), some (.int a2), some (.int x3), some (.int x4), none] [] (hp Γ ρ σ) := by
  intro n
  induction n with
  | zero => intro x3 x4 σ hf; cases hf
  | succ n ih => intro x3 x4 σ hf; exact v_X2_sum_10 hs h0 h1 hG_X2_term _ ih x3 x4 σ hf
set_option maxRecDepth 100000 in
set_option maxHeartbeats 4000000 in
theorem to_X2_sum {N : Nat} {Γ : SG} {ρ : Nat → Nat → Nat} {dd : Nat} (hs : Sh Γ ρ) {this : Nat} {a1 : Nat} {a2 : Int32} {G_X2_term : Nat → Nat → Int32 → St → Option (Int32 × St)} (h0 : Γ[this]? = some (0, 2)) (h1 : Γ[a1]? = some (0, 1)) (hG_X2_term : ∀ {this : Nat} {a1 : Nat} {a2 : Int32} {σ : St} {r : Int32} {σr : St}, Γ[this]? = some (0, 2) → Γ[a1]? = some (0, 1) → G_X2_term this a1 a2 σ = some (r, σr) → Tri mX2_term dd 0 0 [.ref this, .ref a1, .int a2] (hp Γ ρ σ) (Ki Γ ρ r σr)) {σ : St} {r : Int32} {σr : St} (hf : fo_X2_sum N ρ this a1 a2 G_X2_term σ = some (r, σr)) : Tri mX2_sum (dd + 8) 0 0 [.ref this, .ref a1, .int a2] (hp Γ ρ σ) (Ki Γ ρ r σr) := by
  unfold fo_X2_sum at hf
  refine tri_of [some (.ref this), some (.ref a1), some (.int a2), none, none, none] (plainFor_of_name rfl) rfl (Nat.le_of_ble_eq_true rfl) ?_
  refine go_aload_n 0 dX2_sum_0 rfl rfl ?_
  refine go_aload_n 1 dX2_sum_1 rfl rfl ?_
  refine go_iload_n 2 dX2_sum_2 rfl rfl ?_
  obtain ⟨r16, σ17, q18, hf⟩ := bnd_some hf
  refine go_Vi (av := [.ref a1, .int a2]) (rest := []) (hG_X2_term h0 h1 q18) ok_X2_term ml_X2_46 dX2_sum_3 h0 rfl rfl (by omega) (Nat.le_refl _) (Nat.le_refl _) (Nat.le_of_ble_eq_true rfl) ?_
  refine go_istore_n 3 [some (.ref this), some (.ref a1), some (.int a2), some (.int r16), none, none] dX2_sum_6 rfl (by decide) rfl ?_
  refine go_iconst 0 dX2_sum_7 (by decide) ?_
  refine go_istore [some (.ref this), some (.ref a1), some (.int a2), some (.int r16), some (.int 0), none] dX2_sum_8 (by decide) rfl ?_
  exact w_X2_sum_10 hs h0 h1 hG_X2_term N r16 0 σ17 hf
def f_X2_relation_39 (N : Nat) (ρ : Nat → Nat → Nat) (this : Nat) (a1 : Nat) (a2 : Int32) (G_X2_sum : Nat → Nat → Int32 → St → Option (Int32 × St)) (x3 : Int32) (σ : St) : Option (Int32 × St) :=
  bnd (f_X5_advance N ρ (ρ this 0) σ) fun _ σ2 =>
  bnd (G_X2_sum this a1 a2 σ2) fun r4 σ5 =>
  bnd (f_X1_add N ρ a1 (-x3) σ5) fun _ σ8 =>
  gd (bb r4) <|
  some (r4, σ8)
def fo_X2_relation (N : Nat) (ρ : Nat → Nat → Nat) (this : Nat) (a1 : Nat) (a2 : Int32) (G_X2_sum : Nat → Nat → Int32 → St → Option (Int32 × St)) (σ : St) : Option (Int32 × St) :=
  bnd (G_X2_sum this a1 a2 σ) fun r11 σ12 =>
  if (r11 : Int32) = 0 then
    some (0, σ12)
  else
    nmd (σ12.1 (ρ this 0) 4) fun y15 =>
    if (y15 : Int32) = 60 then
      f_X2_relation_39 N ρ this a1 a2 G_X2_sum y15 σ12
    else
      if (y15 : Int32) = 62 then
        f_X2_relation_39 N ρ this a1 a2 G_X2_sum y15 σ12
      else
        if (y15 : Int32) = 61 then
          f_X2_relation_39 N ρ this a1 a2 G_X2_sum y15 σ12
        else
          some (1, σ12)
set_option maxRecDepth 100000 in
set_option maxHeartbeats 4000000 in
theorem w_X2_relation_39 {N : Nat} {Γ : SG} {ρ : Nat → Nat → Nat} {dd : Nat} (hs : Sh Γ ρ) {this : Nat} {a1 : Nat} {a2 : Int32} {G_X2_sum : Nat → Nat → Int32 → St → Option (Int32 × St)} (h0 : Γ[this]? = some (0, 2)) (h1 : Γ[a1]? = some (0, 1)) (hG_X2_sum : ∀ {this : Nat} {a1 : Nat} {a2 : Int32} {σ : St} {r : Int32} {σr : St}, Γ[this]? = some (0, 2) → Γ[a1]? = some (0, 1) → G_X2_sum this a1 a2 σ = some (r, σr) → Tri mX2_sum dd 0 0 [.ref this, .ref a1, .int a2] (hp Γ ρ σ) (Ki Γ ρ r σr)) {n0 : Nat} {r : Int32} {σr : St} (x3 : Int32) (σ : St) (hf : f_X2_relation_39 N ρ this a1 a2 G_X2_sum x3 σ = some (r, σr)) : Go mX2_relation (dd + 8) 0 0 n0 (Ki Γ ρ r σr) 0 0 39 [some (.ref this), some (.ref a1), some (.int a2), some (.int x3), none] [] (hp Γ ρ σ) := by
  unfold f_X2_relation_39 at hf
  refine go_aload_n 0 dX2_relation_39 rfl rfl ?_
  refine go_fR fl_X2_10 dX2_relation_40 h0 (by decide) rfl ?_
  obtain ⟨r1, σ2, q3, hf⟩ := bnd_some hf
  refine go_Vv (av := []) (rest := []) (t_X5_advance hs (hs.1 _ 2 0 h0 rfl) q3) ok_X5_advance ml_X2_26 dX2_relation_43 (hs.1 _ 2 0 h0 rfl) rfl rfl (by omega) (Nat.le_refl _) (Nat.le_refl _) (Nat.le_of_ble_eq_true rfl) ?_
  refine go_aload_n 0 dX2_relation_46 rfl rfl ?_
  refine go_aload_n 1 dX2_relation_47 rfl rfl ?_
  refine go_iload_n 2 dX2_relation_48 rfl rfl ?_
  obtain ⟨r4, σ5, q6, hf⟩ := bnd_some hf
  refine go_Vi (av := [.ref a1, .int a2]) (rest := []) (hG_X2_sum h0 h1 q6) ok_X2_sum ml_X2_43 dX2_relation_49 h0 rfl rfl (by omega) (Nat.le_refl _) (Nat.le_refl _) (Nat.le_of_ble_eq_true rfl) ?_
  refine go_istore [some (.ref this), some (.ref a1), some (.int a2), some (.int x3), some (.int r4)] dX2_relation_52 (by decide) rfl ?_
  refine go_aload_n 1 dX2_relation_54 rfl rfl ?_
  refine go_iload_n 3 dX2_relation_55 rfl rfl ?_
  refine go_ineg dX2_relation_56 ?_
  obtain ⟨r7, σ8, q9, hf⟩ := bnd_some hf
  refine go_Vv (av := [.int (-x3)]) (rest := []) (t_X1_add hs h1 q9) ok_X1_add ml_X2_29 dX2_relation_57 h1 rfl rfl (by omega) (Nat.le_refl _) (Nat.le_refl _) (Nat.le_of_ble_eq_true rfl) ?_
  refine go_iload dX2_relation_60 rfl ?_
  obtain ⟨g10, hf⟩ := gd_some hf
  cases hf
  exact go_zret rfl (bb_of g10) dX2_relation_62 (Nat.le_refl _) ⟨rfl, rfl⟩
set_option maxRecDepth 100000 in
set_option maxHeartbeats 4000000 in
theorem to_X2_relation {N : Nat} {Γ : SG} {ρ : Nat → Nat → Nat} {dd : Nat} (hs : Sh Γ ρ) {this : Nat} {a1 : Nat} {a2 : Int32} {G_X2_sum : Nat → Nat → Int32 → St → Option (Int32 × St)} (h0 : Γ[this]? = some (0, 2)) (h1 : Γ[a1]? = some (0, 1)) (hG_X2_sum : ∀ {this : Nat} {a1 : Nat} {a2 : Int32} {σ : St} {r : Int32} {σr : St}, Γ[this]? = some (0, 2) → Γ[a1]? = some (0, 1) → G_X2_sum this a1 a2 σ = some (r, σr) → Tri mX2_sum dd 0 0 [.ref this, .ref a1, .int a2] (hp Γ ρ σ) (Ki Γ ρ r σr)) {σ : St} {r : Int32} {σr : St} (hf : fo_X2_relation N ρ this a1 a2 G_X2_sum σ = some (r, σr)) : Tri mX2_relation (dd + 8) 0 0 [.ref this, .ref a1, .int a2] (hp Γ ρ σ) (Ki Γ ρ r σr) := by
  unfold fo_X2_relation at hf
  refine tri_of [some (.ref this), some (.ref a1), some (.int a2), none, none] (plainFor_of_name rfl) rfl (Nat.le_of_ble_eq_true rfl) ?_
  refine go_aload_n 0 dX2_relation_0 rfl rfl ?_
  refine go_aload_n 1 dX2_relation_1 rfl rfl ?_
  refine go_iload_n 2 dX2_relation_2 rfl rfl ?_
  obtain ⟨r11, σ12, q13, hf⟩ := bnd_some hf
  refine go_Vi (av := [.ref a1, .int a2]) (rest := []) (hG_X2_sum h0 h1 q13) ok_X2_sum ml_X2_43 dX2_relation_3 h0 rfl rfl (by omega) (Nat.le_refl _) (Nat.le_refl _) (Nat.le_of_ble_eq_true rfl) ?_
  refine go_if_ne 11 dX2_relation_6 (by decide) (fun c14 => ?_) (fun c14 => ?_)
  · replace hf := (if_neg c14).symm.trans hf
    refine go_aload_n 0 dX2_relation_11 rfl rfl ?_
    refine go_fR fl_X2_10 dX2_relation_12 h0 (by decide) rfl ?_
    refine go_fI fl_X2_22 dX2_relation_15 (hs.1 _ 2 0 h0 rfl) (by decide) rfl ?_
    obtain ⟨y15, ey15, hf⟩ := nmd_some hf
    refine go_nm ey15 ?_
    refine go_istore_n 3 [some (.ref this), some (.ref a1), some (.int a2), some (.int y15), none] dX2_relation_18 rfl (by decide) rfl ?_
    refine go_iload_n 3 dX2_relation_19 rfl rfl ?_
    refine go_bipush 60 dX2_relation_20 (by decide) ?_
    refine go_icmp_eq 39 dX2_relation_22 (by decide) (fun c16 => ?_) (fun c16 => ?_)
    · replace hf := (if_pos c16).symm.trans hf
      exact w_X2_relation_39 hs h0 h1 hG_X2_sum y15 σ12 hf
    · replace hf := (if_neg c16).symm.trans hf
      refine go_iload_n 3 dX2_relation_25 rfl rfl ?_
      refine go_bipush 62 dX2_relation_26 (by decide) ?_
      refine go_icmp_eq 39 dX2_relation_28 (by decide) (fun c17 => ?_) (fun c17 => ?_)
      · replace hf := (if_pos c17).symm.trans hf
        exact w_X2_relation_39 hs h0 h1 hG_X2_sum y15 σ12 hf
      · replace hf := (if_neg c17).symm.trans hf
        refine go_iload_n 3 dX2_relation_31 rfl rfl ?_
        refine go_bipush 61 dX2_relation_32 (by decide) ?_
        refine go_icmp_eq 39 dX2_relation_34 (by decide) (fun c18 => ?_) (fun c18 => ?_)
        · replace hf := (if_pos c18).symm.trans hf
          exact w_X2_relation_39 hs h0 h1 hG_X2_sum y15 σ12 hf
        · replace hf := (if_neg c18).symm.trans hf
          refine go_iconst 1 dX2_relation_37 (by decide) ?_
          cases hf
          exact go_zret rfl (by decide) dX2_relation_38 (Nat.le_refl _) ⟨rfl, rfl⟩
  · replace hf := (if_pos c14).symm.trans hf
    refine go_iconst 0 dX2_relation_9 (by decide) ?_
    cases hf
    exact go_zret rfl (by decide) dX2_relation_10 (Nat.le_refl _) ⟨rfl, rfl⟩
def fo_X2_one (N : Nat) (ρ : Nat → Nat → Nat) (this : Nat) (a1 : Nat) (a2 : Int32) (G_X2_one : Nat → Nat → Int32 → St → Option (Int32 × St)) (G_X2_relation : Nat → Nat → Int32 → St → Option (Int32 × St)) (σ : St) : Option (Int32 × St) :=
  if (σ.1 (ρ this 0) 4 : Int32) = 9 then
    if (a2 : Int32) < 7 then
      bnd (f_X5_advance N ρ (ρ this 0) σ) fun _ σ4 =>
      bnd (G_X2_one this a1 (a2 + 1) σ4) fun r6 σ7 =>
      bnd (f_X1_add N ρ a1 (-9) σ7) fun _ σ10 =>
      gd (bb r6) <|
      some (r6, σ10)
    else
      bnd (f_X5_refuse N ρ (ρ this 0) 2 σ) fun r13 σ14 =>
      gd (bb r13) <|
      some (r13, σ14)
  else
    bnd (G_X2_relation this a1 a2 σ) fun r17 σ18 =>
    gd (bb r17) <|
    some (r17, σ18)
set_option maxRecDepth 100000 in
set_option maxHeartbeats 4000000 in
theorem to_X2_one {N : Nat} {Γ : SG} {ρ : Nat → Nat → Nat} {dd : Nat} (hs : Sh Γ ρ) {this : Nat} {a1 : Nat} {a2 : Int32} {G_X2_one : Nat → Nat → Int32 → St → Option (Int32 × St)} {G_X2_relation : Nat → Nat → Int32 → St → Option (Int32 × St)} (h0 : Γ[this]? = some (0, 2)) (h1 : Γ[a1]? = some (0, 1)) (hG_X2_one : ∀ {this : Nat} {a1 : Nat} {a2 : Int32} {σ : St} {r : Int32} {σr : St}, Γ[this]? = some (0, 2) → Γ[a1]? = some (0, 1) → G_X2_one this a1 a2 σ = some (r, σr) → Tri mX2_one dd 0 0 [.ref this, .ref a1, .int a2] (hp Γ ρ σ) (Ki Γ ρ r σr)) (hG_X2_relation : ∀ {this : Nat} {a1 : Nat} {a2 : Int32} {σ : St} {r : Int32} {σr : St}, Γ[this]? = some (0, 2) → Γ[a1]? = some (0, 1) → G_X2_relation this a1 a2 σ = some (r, σr) → Tri mX2_relation dd 0 0 [.ref this, .ref a1, .int a2] (hp Γ ρ σ) (Ki Γ ρ r σr)) {σ : St} {r : Int32} {σr : St} (hf : fo_X2_one N ρ this a1 a2 G_X2_one G_X2_relation σ = some (r, σr)) : Tri mX2_one (dd + 8) 0 0 [.ref this, .ref a1, .int a2] (hp Γ ρ σ) (Ki Γ ρ r σr) := by
  unfold fo_X2_one at hf
  refine tri_of [some (.ref this), some (.ref a1), some (.int a2), none] (plainFor_of_name rfl) rfl (Nat.le_of_ble_eq_true rfl) ?_
  refine go_aload_n 0 dX2_one_0 rfl rfl ?_
  refine go_fR fl_X2_10 dX2_one_1 h0 (by decide) rfl ?_
  refine go_fI fl_X2_22 dX2_one_4 (hs.1 _ 2 0 h0 rfl) (by decide) rfl ?_
  refine go_bipush 9 dX2_one_7 (by decide) ?_
  refine go_icmp_eq 19 dX2_one_9 (by decide) (fun c1 => ?_) (fun c1 => ?_)
  · replace hf := (if_pos c1).symm.trans hf
    refine go_iload_n 2 dX2_one_19 rfl rfl ?_
    refine go_bipush 7 dX2_one_20 (by decide) ?_
    refine go_icmp_lt 34 dX2_one_22 (by decide) (fun c2 => ?_) (fun c2 => ?_)
    · replace hf := (if_pos c2).symm.trans hf
      refine go_aload_n 0 dX2_one_34 rfl rfl ?_
      refine go_fR fl_X2_10 dX2_one_35 h0 (by decide) rfl ?_
      obtain ⟨r3, σ4, q5, hf⟩ := bnd_some hf
      refine go_Vv (av := []) (rest := []) (t_X5_advance hs (hs.1 _ 2 0 h0 rfl) q5) ok_X5_advance ml_X2_26 dX2_one_38 (hs.1 _ 2 0 h0 rfl) rfl rfl (by omega) (Nat.le_refl _) (Nat.le_refl _) (Nat.le_of_ble_eq_true rfl) ?_
      refine go_aload_n 0 dX2_one_41 rfl rfl ?_
      refine go_aload_n 1 dX2_one_42 rfl rfl ?_
      refine go_iload_n 2 dX2_one_43 rfl rfl ?_
      refine go_iconst 1 dX2_one_44 (by decide) ?_
      refine go_iadd dX2_one_45 ?_
      obtain ⟨r6, σ7, q8, hf⟩ := bnd_some hf
      refine go_Vi (av := [.ref a1, .int (a2 + 1)]) (rest := []) (hG_X2_one h0 h1 q8) ok_X2_one ml_X2_33 dX2_one_46 h0 rfl rfl (by omega) (Nat.le_refl _) (Nat.le_refl _) (Nat.le_of_ble_eq_true rfl) ?_
      refine go_istore_n 3 [some (.ref this), some (.ref a1), some (.int a2), some (.int r6)] dX2_one_49 rfl (by decide) rfl ?_
      refine go_aload_n 1 dX2_one_50 rfl rfl ?_
      refine go_bipush (-9) dX2_one_51 (by decide) ?_
      obtain ⟨r9, σ10, q11, hf⟩ := bnd_some hf
      refine go_Vv (av := [.int (-9)]) (rest := []) (t_X1_add hs h1 q11) ok_X1_add ml_X2_29 dX2_one_53 h1 rfl rfl (by omega) (Nat.le_refl _) (Nat.le_refl _) (Nat.le_of_ble_eq_true rfl) ?_
      refine go_iload_n 3 dX2_one_56 rfl rfl ?_
      obtain ⟨g12, hf⟩ := gd_some hf
      cases hf
      exact go_zret rfl (bb_of g12) dX2_one_57 (Nat.le_refl _) ⟨rfl, rfl⟩
    · replace hf := (if_neg c2).symm.trans hf
      refine go_aload_n 0 dX2_one_25 rfl rfl ?_
      refine go_fR fl_X2_10 dX2_one_26 h0 (by decide) rfl ?_
      refine go_iconst 2 dX2_one_29 (by decide) ?_
      obtain ⟨r13, σ14, q15, hf⟩ := bnd_some hf
      refine go_Vi (av := [.int 2]) (rest := []) (t_X5_refuse hs (hs.1 _ 2 0 h0 rfl) q15) ok_X5_refuse ml_X2_39 dX2_one_30 (hs.1 _ 2 0 h0 rfl) rfl rfl (by omega) (Nat.le_refl _) (Nat.le_refl _) (Nat.le_of_ble_eq_true rfl) ?_
      obtain ⟨g16, hf⟩ := gd_some hf
      cases hf
      exact go_zret rfl (bb_of g16) dX2_one_33 (Nat.le_refl _) ⟨rfl, rfl⟩
  · replace hf := (if_neg c1).symm.trans hf
    refine go_aload_n 0 dX2_one_12 rfl rfl ?_
    refine go_aload_n 1 dX2_one_13 rfl rfl ?_
    refine go_iload_n 2 dX2_one_14 rfl rfl ?_
    obtain ⟨r17, σ18, q19, hf⟩ := bnd_some hf
    refine go_Vi (av := [.ref a1, .int a2]) (rest := []) (hG_X2_relation h0 h1 q19) ok_X2_relation ml_X2_36 dX2_one_15 h0 rfl rfl (by omega) (Nat.le_refl _) (Nat.le_refl _) (Nat.le_of_ble_eq_true rfl) ?_
    obtain ⟨g20, hf⟩ := gd_some hf
    cases hf
    exact go_zret rfl (bb_of g20) dX2_one_18 (Nat.le_refl _) ⟨rfl, rfl⟩
def f_X2_both_59 (N : Nat) (ρ : Nat → Nat → Nat) (this : Nat) (a1 : Nat) (a2 : Int32) (G_X2_one : Nat → Nat → Int32 → St → Option (Int32 × St)) (x3 : Int32) (σ : St) : Option (Int32 × St) :=
  gd (bb x3) <|
  some (x3, σ)
def b_X2_both_10 (N : Nat) (ρ : Nat → Nat → Nat) (this : Nat) (a1 : Nat) (a2 : Int32) (G_X2_one : Nat → Nat → Int32 → St → Option (Int32 × St)) (rec10 : Int32 → Int32 → St → Option (Int32 × St)) (x3 : Int32) (x4 : Int32) (σ : St) : Option (Int32 × St) :=
  if (x3 : Int32) = 0 then
    f_X2_both_59 N ρ this a1 a2 G_X2_one x3 σ
  else
    if 30 ≤ (x4 : Int32) then
      f_X2_both_59 N ρ this a1 a2 G_X2_one x3 σ
    else
      if (σ.1 (ρ this 0) 4 : Int32) = 8 then
        bnd (f_X5_advance N ρ (ρ this 0) σ) fun _ σ6 =>
        bnd (G_X2_one this a1 a2 σ6) fun r8 σ9 =>
        bnd (f_X1_add N ρ a1 (-8) σ9) fun _ σ12 =>
        rec10 r8 (x4 + 1) σ12
      else
        f_X2_both_59 N ρ this a1 a2 G_X2_one x3 σ
def f_X2_both_10 (N : Nat) (ρ : Nat → Nat → Nat) (this : Nat) (a1 : Nat) (a2 : Int32) (G_X2_one : Nat → Nat → Int32 → St → Option (Int32 × St)) : Nat → Int32 → Int32 → St → Option (Int32 × St)
  | 0, _, _, _ => none
  | n + 1, x3, x4, σ => b_X2_both_10 N ρ this a1 a2 G_X2_one (f_X2_both_10 N ρ this a1 a2 G_X2_one n) x3 x4 σ
def fo_X2_both (N : Nat) (ρ : Nat → Nat → Nat) (this : Nat) (a1 : Nat) (a2 : Int32) (G_X2_one : Nat → Nat → Int32 → St → Option (Int32 × St)) (σ : St) : Option (Int32 × St) :=
  bnd (G_X2_one this a1 a2 σ) fun r14 σ15 =>
  f_X2_both_10 N ρ this a1 a2 G_X2_one N r14 0 σ15
set_option maxRecDepth 100000 in
set_option maxHeartbeats 4000000 in
theorem w_X2_both_59 {N : Nat} {Γ : SG} {ρ : Nat → Nat → Nat} {dd : Nat} (hs : Sh Γ ρ) {this : Nat} {a1 : Nat} {a2 : Int32} {G_X2_one : Nat → Nat → Int32 → St → Option (Int32 × St)} (h0 : Γ[this]? = some (0, 2)) (h1 : Γ[a1]? = some (0, 1)) (hG_X2_one : ∀ {this : Nat} {a1 : Nat} {a2 : Int32} {σ : St} {r : Int32} {σr : St}, Γ[this]? = some (0, 2) → Γ[a1]? = some (0, 1) → G_X2_one this a1 a2 σ = some (r, σr) → Tri mX2_one dd 0 0 [.ref this, .ref a1, .int a2] (hp Γ ρ σ) (Ki Γ ρ r σr)) {n0 : Nat} {r : Int32} {σr : St} (x3 : Int32) (σ : St) (hf : f_X2_both_59 N ρ this a1 a2 G_X2_one x3 σ = some (r, σr)) : Go mX2_both (dd + 8) 0 0 n0 (Ki Γ ρ r σr) 0 0 59 [none, none, none, some (.int x3), none] [] (hp Γ ρ σ) := by
  unfold f_X2_both_59 at hf
  refine go_iload_n 3 dX2_both_59 rfl rfl ?_
  obtain ⟨g1, hf⟩ := gd_some hf
  cases hf
  exact go_zret rfl (bb_of g1) dX2_both_60 (Nat.le_refl _) ⟨rfl, rfl⟩
set_option maxRecDepth 100000 in
set_option maxHeartbeats 4000000 in
theorem v_X2_both_10 {N : Nat} {Γ : SG} {ρ : Nat → Nat → Nat} {dd : Nat} (hs : Sh Γ ρ) {this : Nat} {a1 : Nat} {a2 : Int32} {G_X2_one : Nat → Nat → Int32 → St → Option (Int32 × St)} (h0 : Γ[this]? = some (0, 2)) (h1 : Γ[a1]? = some (0, 1)) (hG_X2_one : ∀ {this : Nat} {a1 : Nat} {a2 : Int32} {σ : St} {r : Int32} {σr : St}, Γ[this]? = some (0, 2) → Γ[a1]? = some (0, 1) → G_X2_one this a1 a2 σ = some (r, σr) → Tri mX2_one dd 0 0 [.ref this, .ref a1, .int a2] (hp Γ ρ σ) (Ki Γ ρ r σr)) {n0 : Nat} {r : Int32} {σr : St} (rec10 : Int32 → Int32 → St → Option (Int32 × St)) (hrec10 : ∀ (x3 : Int32) (x4 : Int32) (σ : St), rec10 x3 x4 σ = some (r, σr) → Go mX2_both (dd + 8) 0 0 n0 (Ki Γ ρ r σr) 0 0 10 [some (.ref this), some (.ref a1), some (.int a2), some (.int x3), some (.int x4)] [] (hp Γ ρ σ)) (x3 : Int32) (x4 : Int32) (σ : St) (hf : b_X2_both_10 N ρ this a1 a2 G_X2_one rec10 x3 x4 σ = some (r, σr)) : Go mX2_both (dd + 8) 0 0 n0 (Ki Γ ρ r σr) 0 0 10 [some (.ref this), some (.ref a1), some (.int a2), some (.int x3), some (.int x4)] [] (hp Γ ρ σ) := by
  unfold b_X2_both_10 at hf
  refine go_iload_n 3 dX2_both_10 rfl rfl ?_
  refine go_if_eq 59 dX2_both_11 (by decide) (fun c2 => ?_) (fun c2 => ?_)
  · replace hf := (if_pos c2).symm.trans hf
    refine go_msk [false, false, false, true, false] [none, none, none, some (.int x3), none] rfl ?_
    exact w_X2_both_59 hs h0 h1 hG_X2_one x3 σ hf
  · replace hf := (if_neg c2).symm.trans hf
    refine go_iload dX2_both_14 rfl ?_
    refine go_bipush 30 dX2_both_16 (by decide) ?_
    refine go_icmp_ge 59 dX2_both_18 (by decide) (fun c3 => ?_) (fun c3 => ?_)
    · replace hf := (if_pos c3).symm.trans hf
      refine go_msk [false, false, false, true, false] [none, none, none, some (.int x3), none] rfl ?_
      exact w_X2_both_59 hs h0 h1 hG_X2_one x3 σ hf
    · replace hf := (if_neg c3).symm.trans hf
      refine go_aload_n 0 dX2_both_21 rfl rfl ?_
      refine go_fR fl_X2_10 dX2_both_22 h0 (by decide) rfl ?_
      refine go_fI fl_X2_22 dX2_both_25 (hs.1 _ 2 0 h0 rfl) (by decide) rfl ?_
      refine go_bipush 8 dX2_both_28 (by decide) ?_
      refine go_icmp_ne 59 dX2_both_30 (by decide) (fun c4 => ?_) (fun c4 => ?_)
      · replace hf := (if_neg c4).symm.trans hf
        refine go_msk [false, false, false, true, false] [none, none, none, some (.int x3), none] rfl ?_
        exact w_X2_both_59 hs h0 h1 hG_X2_one x3 σ hf
      · replace hf := (if_pos c4).symm.trans hf
        refine go_aload_n 0 dX2_both_33 rfl rfl ?_
        refine go_fR fl_X2_10 dX2_both_34 h0 (by decide) rfl ?_
        obtain ⟨r5, σ6, q7, hf⟩ := bnd_some hf
        refine go_Vv (av := []) (rest := []) (t_X5_advance hs (hs.1 _ 2 0 h0 rfl) q7) ok_X5_advance ml_X2_26 dX2_both_37 (hs.1 _ 2 0 h0 rfl) rfl rfl (by omega) (Nat.le_refl _) (Nat.le_refl _) (Nat.le_of_ble_eq_true rfl) ?_
        refine go_aload_n 0 dX2_both_40 rfl rfl ?_
        refine go_aload_n 1 dX2_both_41 rfl rfl ?_
        refine go_iload_n 2 dX2_both_42 rfl rfl ?_
        obtain ⟨r8, σ9, q10, hf⟩ := bnd_some hf
        refine go_Vi (av := [.ref a1, .int a2]) (rest := []) (hG_X2_one h0 h1 q10) ok_X2_one ml_X2_33 dX2_both_43 h0 rfl rfl (by omega) (Nat.le_refl _) (Nat.le_refl _) (Nat.le_of_ble_eq_true rfl) ?_
        refine go_istore_n 3 [some (.ref this), some (.ref a1), some (.int a2), some (.int r8), some (.int x4)] dX2_both_46 rfl (by decide) rfl ?_
        refine go_aload_n 1 dX2_both_47 rfl rfl ?_
        refine go_bipush (-8) dX2_both_48 (by decide) ?_
        obtain ⟨r11, σ12, q13, hf⟩ := bnd_some hf
        refine go_Vv (av := [.int (-8)]) (rest := []) (t_X1_add hs h1 q13) ok_X1_add ml_X2_29 dX2_both_50 h1 rfl rfl (by omega) (Nat.le_refl _) (Nat.le_refl _) (Nat.le_of_ble_eq_true rfl) ?_
        refine go_iinc (x4 + 1) [some (.ref this), some (.ref a1), some (.int a2), some (.int r8), some (.int (x4 + 1))] dX2_both_53 rfl rfl (by decide) rfl ?_
        refine go_goto 10 dX2_both_56 (by decide) ?_
        exact hrec10 r8 (x4 + 1) σ12 hf
theorem w_X2_both_10 {N : Nat} {Γ : SG} {ρ : Nat → Nat → Nat} {dd : Nat} (hs : Sh Γ ρ) {this : Nat} {a1 : Nat} {a2 : Int32} {G_X2_one : Nat → Nat → Int32 → St → Option (Int32 × St)} (h0 : Γ[this]? = some (0, 2)) (h1 : Γ[a1]? = some (0, 1)) (hG_X2_one : ∀ {this : Nat} {a1 : Nat} {a2 : Int32} {σ : St} {r : Int32} {σr : St}, Γ[this]? = some (0, 2) → Γ[a1]? = some (0, 1) → G_X2_one this a1 a2 σ = some (r, σr) → Tri mX2_one dd 0 0 [.ref this, .ref a1, .int a2] (hp Γ ρ σ) (Ki Γ ρ r σr)) {n0 : Nat} {r : Int32} {σr : St} : ∀ (n : Nat) (x3 : Int32) (x4 : Int32) (σ : St), f_X2_both_10 N ρ this a1 a2 G_X2_one n x3 x4 σ = some (r, σr) → Go mX2_both (dd + 8) 0 0 n0 (Ki Γ ρ r σr) 0 0 10 [some (.ref this), some (.ref a1), some (.int a2), some (.int x3), some (.int x4)] [] (hp Γ ρ σ) := by
  intro n
  induction n with
  | zero => intro x3 x4 σ hf; cases hf
  | succ n ih => intro x3 x4 σ hf; exact v_X2_both_10 hs h0 h1 hG_X2_one _ ih x3 x4 σ hf
set_option maxRecDepth 100000 in
set_option maxHeartbeats 4000000 in
theorem to_X2_both {N : Nat} {Γ : SG} {ρ : Nat → Nat → Nat} {dd : Nat} (hs : Sh Γ ρ) {this : Nat} {a1 : Nat} {a2 : Int32} {G_X2_one : Nat → Nat → Int32 → St → Option (Int32 × St)} (h0 : Γ[this]? = some (0, 2)) (h1 : Γ[a1]? = some (0, 1)) (hG_X2_one : ∀ {this : Nat} {a1 : Nat} {a2 : Int32} {σ : St} {r : Int32} {σr : St}, Γ[this]? = some (0, 2) → Γ[a1]? = some (0, 1) → G_X2_one this a1 a2 σ = some (r, σr) → Tri mX2_one dd 0 0 [.ref this, .ref a1, .int a2] (hp Γ ρ σ) (Ki Γ ρ r σr)) {σ : St} {r : Int32} {σr : St} (hf : fo_X2_both N ρ this a1 a2 G_X2_one σ = some (r, σr)) : Tri mX2_both (dd + 8) 0 0 [.ref this, .ref a1, .int a2] (hp Γ ρ σ) (Ki Γ ρ r σr) := by
  unfold fo_X2_both at hf
  refine tri_of [some (.ref this), some (.ref a1), some (.int a2), none, none] (plainFor_of_name rfl) rfl (Nat.le_of_ble_eq_true rfl) ?_
  refine go_aload_n 0 dX2_both_0 rfl rfl ?_
  refine go_aload_n 1 dX2_both_1 rfl rfl ?_
  refine go_iload_n 2 dX2_both_2 rfl rfl ?_
  obtain ⟨r14, σ15, q16, hf⟩ := bnd_some hf
  refine go_Vi (av := [.ref a1, .int a2]) (rest := []) (hG_X2_one h0 h1 q16) ok_X2_one ml_X2_33 dX2_both_3 h0 rfl rfl (by omega) (Nat.le_refl _) (Nat.le_refl _) (Nat.le_of_ble_eq_true rfl) ?_
  refine go_istore_n 3 [some (.ref this), some (.ref a1), some (.int a2), some (.int r14), none] dX2_both_6 rfl (by decide) rfl ?_
  refine go_iconst 0 dX2_both_7 (by decide) ?_
  refine go_istore [some (.ref this), some (.ref a1), some (.int a2), some (.int r14), some (.int 0)] dX2_both_8 (by decide) rfl ?_
  exact w_X2_both_10 hs h0 h1 hG_X2_one N r14 0 σ15 hf
def f_X2_either_59 (N : Nat) (ρ : Nat → Nat → Nat) (this : Nat) (a1 : Nat) (a2 : Int32) (G_X2_both : Nat → Nat → Int32 → St → Option (Int32 × St)) (x3 : Int32) (σ : St) : Option (Int32 × St) :=
  gd (bb x3) <|
  some (x3, σ)
def b_X2_either_10 (N : Nat) (ρ : Nat → Nat → Nat) (this : Nat) (a1 : Nat) (a2 : Int32) (G_X2_both : Nat → Nat → Int32 → St → Option (Int32 × St)) (rec10 : Int32 → Int32 → St → Option (Int32 × St)) (x3 : Int32) (x4 : Int32) (σ : St) : Option (Int32 × St) :=
  if (x3 : Int32) = 0 then
    f_X2_either_59 N ρ this a1 a2 G_X2_both x3 σ
  else
    if 30 ≤ (x4 : Int32) then
      f_X2_either_59 N ρ this a1 a2 G_X2_both x3 σ
    else
      if (σ.1 (ρ this 0) 4 : Int32) = 7 then
        bnd (f_X5_advance N ρ (ρ this 0) σ) fun _ σ6 =>
        bnd (G_X2_both this a1 a2 σ6) fun r8 σ9 =>
        bnd (f_X1_add N ρ a1 (-7) σ9) fun _ σ12 =>
        rec10 r8 (x4 + 1) σ12
      else
        f_X2_either_59 N ρ this a1 a2 G_X2_both x3 σ
def f_X2_either_10 (N : Nat) (ρ : Nat → Nat → Nat) (this : Nat) (a1 : Nat) (a2 : Int32) (G_X2_both : Nat → Nat → Int32 → St → Option (Int32 × St)) : Nat → Int32 → Int32 → St → Option (Int32 × St)
  | 0, _, _, _ => none
  | n + 1, x3, x4, σ => b_X2_either_10 N ρ this a1 a2 G_X2_both (f_X2_either_10 N ρ this a1 a2 G_X2_both n) x3 x4 σ
def fo_X2_either (N : Nat) (ρ : Nat → Nat → Nat) (this : Nat) (a1 : Nat) (a2 : Int32) (G_X2_both : Nat → Nat → Int32 → St → Option (Int32 × St)) (σ : St) : Option (Int32 × St) :=
  bnd (G_X2_both this a1 a2 σ) fun r14 σ15 =>
  f_X2_either_10 N ρ this a1 a2 G_X2_both N r14 0 σ15
set_option maxRecDepth 100000 in
set_option maxHeartbeats 4000000 in
theorem w_X2_either_59 {N : Nat} {Γ : SG} {ρ : Nat → Nat → Nat} {dd : Nat} (hs : Sh Γ ρ) {this : Nat} {a1 : Nat} {a2 : Int32} {G_X2_both : Nat → Nat → Int32 → St → Option (Int32 × St)} (h0 : Γ[this]? = some (0, 2)) (h1 : Γ[a1]? = some (0, 1)) (hG_X2_both : ∀ {this : Nat} {a1 : Nat} {a2 : Int32} {σ : St} {r : Int32} {σr : St}, Γ[this]? = some (0, 2) → Γ[a1]? = some (0, 1) → G_X2_both this a1 a2 σ = some (r, σr) → Tri mX2_both dd 0 0 [.ref this, .ref a1, .int a2] (hp Γ ρ σ) (Ki Γ ρ r σr)) {n0 : Nat} {r : Int32} {σr : St} (x3 : Int32) (σ : St) (hf : f_X2_either_59 N ρ this a1 a2 G_X2_both x3 σ = some (r, σr)) : Go mX2_either (dd + 8) 0 0 n0 (Ki Γ ρ r σr) 0 0 59 [none, none, none, some (.int x3), none] [] (hp Γ ρ σ) := by
  unfold f_X2_either_59 at hf
  refine go_iload_n 3 dX2_either_59 rfl rfl ?_
  obtain ⟨g1, hf⟩ := gd_some hf
  cases hf
  exact go_zret rfl (bb_of g1) dX2_either_60 (Nat.le_refl _) ⟨rfl, rfl⟩
set_option maxRecDepth 100000 in
set_option maxHeartbeats 4000000 in
theorem v_X2_either_10 {N : Nat} {Γ : SG} {ρ : Nat → Nat → Nat} {dd : Nat} (hs : Sh Γ ρ) {this : Nat} {a1 : Nat} {a2 : Int32} {G_X2_both : Nat → Nat → Int32 → St → Option (Int32 × St)} (h0 : Γ[this]? = some (0, 2)) (h1 : Γ[a1]? = some (0, 1)) (hG_X2_both : ∀ {this : Nat} {a1 : Nat} {a2 : Int32} {σ : St} {r : Int32} {σr : St}, Γ[this]? = some (0, 2) → Γ[a1]? = some (0, 1) → G_X2_both this a1 a2 σ = some (r, σr) → Tri mX2_both dd 0 0 [.ref this, .ref a1, .int a2] (hp Γ ρ σ) (Ki Γ ρ r σr)) {n0 : Nat} {r : Int32} {σr : St} (rec10 : Int32 → Int32 → St → Option (Int32 × St)) (hrec10 : ∀ (x3 : Int32) (x4 : Int32) (σ : St), rec10 x3 x4 σ = some (r, σr) → Go mX2_either (dd + 8) 0 0 n0 (Ki Γ ρ r σr) 0 0 10 [some (.ref this), some (.ref a1), some (.int a2), some (.int x3), some (.int x4)] [] (hp Γ ρ σ)) (x3 : Int32) (x4 : Int32) (σ : St) (hf : b_X2_either_10 N ρ this a1 a2 G_X2_both rec10 x3 x4 σ = some (r, σr)) : Go mX2_either (dd + 8) 0 0 n0 (Ki Γ ρ r σr) 0 0 10 [some (.ref this), some (.ref a1), some (.int a2), some (.int x3), some (.int x4)] [] (hp Γ ρ σ) := by
  unfold b_X2_either_10 at hf
  refine go_iload_n 3 dX2_either_10 rfl rfl ?_
  refine go_if_eq 59 dX2_either_11 (by decide) (fun c2 => ?_) (fun c2 => ?_)
  · replace hf := (if_pos c2).symm.trans hf
    refine go_msk [false, false, false, true, false] [none, none, none, some (.int x3), none] rfl ?_
    exact w_X2_either_59 hs h0 h1 hG_X2_both x3 σ hf
  · replace hf := (if_neg c2).symm.trans hf
    refine go_iload dX2_either_14 rfl ?_
    refine go_bipush 30 dX2_either_16 (by decide) ?_
    refine go_icmp_ge 59 dX2_either_18 (by decide) (fun c3 => ?_) (fun c3 => ?_)
    · replace hf := (if_pos c3).symm.trans hf
      refine go_msk [false, false, false, true, false] [none, none, none, some (.int x3), none] rfl ?_
      exact w_X2_either_59 hs h0 h1 hG_X2_both x3 σ hf
    · replace hf := (if_neg c3).symm.trans hf
      refine go_aload_n 0 dX2_either_21 rfl rfl ?_
      refine go_fR fl_X2_10 dX2_either_22 h0 (by decide) rfl ?_
      refine go_fI fl_X2_22 dX2_either_25 (hs.1 _ 2 0 h0 rfl) (by decide) rfl ?_
      refine go_bipush 7 dX2_either_28 (by decide) ?_
      refine go_icmp_ne 59 dX2_either_30 (by decide) (fun c4 => ?_) (fun c4 => ?_)
      · replace hf := (if_neg c4).symm.trans hf
        refine go_msk [false, false, false, true, false] [none, none, none, some (.int x3), none] rfl ?_
        exact w_X2_either_59 hs h0 h1 hG_X2_both x3 σ hf
      · replace hf := (if_pos c4).symm.trans hf
        refine go_aload_n 0 dX2_either_33 rfl rfl ?_
        refine go_fR fl_X2_10 dX2_either_34 h0 (by decide) rfl ?_
        obtain ⟨r5, σ6, q7, hf⟩ := bnd_some hf
        refine go_Vv (av := []) (rest := []) (t_X5_advance hs (hs.1 _ 2 0 h0 rfl) q7) ok_X5_advance ml_X2_26 dX2_either_37 (hs.1 _ 2 0 h0 rfl) rfl rfl (by omega) (Nat.le_refl _) (Nat.le_refl _) (Nat.le_of_ble_eq_true rfl) ?_
        refine go_aload_n 0 dX2_either_40 rfl rfl ?_
        refine go_aload_n 1 dX2_either_41 rfl rfl ?_
        refine go_iload_n 2 dX2_either_42 rfl rfl ?_
        obtain ⟨r8, σ9, q10, hf⟩ := bnd_some hf
        refine go_Vi (av := [.ref a1, .int a2]) (rest := []) (hG_X2_both h0 h1 q10) ok_X2_both ml_X2_16 dX2_either_43 h0 rfl rfl (by omega) (Nat.le_refl _) (Nat.le_refl _) (Nat.le_of_ble_eq_true rfl) ?_
        refine go_istore_n 3 [some (.ref this), some (.ref a1), some (.int a2), some (.int r8), some (.int x4)] dX2_either_46 rfl (by decide) rfl ?_
        refine go_aload_n 1 dX2_either_47 rfl rfl ?_
        refine go_bipush (-7) dX2_either_48 (by decide) ?_
        obtain ⟨r11, σ12, q13, hf⟩ := bnd_some hf
        refine go_Vv (av := [.int (-7)]) (rest := []) (t_X1_add hs h1 q13) ok_X1_add ml_X2_29 dX2_either_50 h1 rfl rfl (by omega) (Nat.le_refl _) (Nat.le_refl _) (Nat.le_of_ble_eq_true rfl) ?_
        refine go_iinc (x4 + 1) [some (.ref this), some (.ref a1), some (.int a2), some (.int r8), some (.int (x4 + 1))] dX2_either_53 rfl rfl (by decide) rfl ?_
        refine go_goto 10 dX2_either_56 (by decide) ?_
        exact hrec10 r8 (x4 + 1) σ12 hf
theorem w_X2_either_10 {N : Nat} {Γ : SG} {ρ : Nat → Nat → Nat} {dd : Nat} (hs : Sh Γ ρ) {this : Nat} {a1 : Nat} {a2 : Int32} {G_X2_both : Nat → Nat → Int32 → St → Option (Int32 × St)} (h0 : Γ[this]? = some (0, 2)) (h1 : Γ[a1]? = some (0, 1)) (hG_X2_both : ∀ {this : Nat} {a1 : Nat} {a2 : Int32} {σ : St} {r : Int32} {σr : St}, Γ[this]? = some (0, 2) → Γ[a1]? = some (0, 1) → G_X2_both this a1 a2 σ = some (r, σr) → Tri mX2_both dd 0 0 [.ref this, .ref a1, .int a2] (hp Γ ρ σ) (Ki Γ ρ r σr)) {n0 : Nat} {r : Int32} {σr : St} : ∀ (n : Nat) (x3 : Int32) (x4 : Int32) (σ : St), f_X2_either_10 N ρ this a1 a2 G_X2_both n x3 x4 σ = some (r, σr) → Go mX2_either (dd + 8) 0 0 n0 (Ki Γ ρ r σr) 0 0 10 [some (.ref this), some (.ref a1), some (.int a2), some (.int x3), some (.int x4)] [] (hp Γ ρ σ) := by
  intro n
  induction n with
  | zero => intro x3 x4 σ hf; cases hf
  | succ n ih => intro x3 x4 σ hf; exact v_X2_either_10 hs h0 h1 hG_X2_both _ ih x3 x4 σ hf
set_option maxRecDepth 100000 in
set_option maxHeartbeats 4000000 in
theorem to_X2_either {N : Nat} {Γ : SG} {ρ : Nat → Nat → Nat} {dd : Nat} (hs : Sh Γ ρ) {this : Nat} {a1 : Nat} {a2 : Int32} {G_X2_both : Nat → Nat → Int32 → St → Option (Int32 × St)} (h0 : Γ[this]? = some (0, 2)) (h1 : Γ[a1]? = some (0, 1)) (hG_X2_both : ∀ {this : Nat} {a1 : Nat} {a2 : Int32} {σ : St} {r : Int32} {σr : St}, Γ[this]? = some (0, 2) → Γ[a1]? = some (0, 1) → G_X2_both this a1 a2 σ = some (r, σr) → Tri mX2_both dd 0 0 [.ref this, .ref a1, .int a2] (hp Γ ρ σ) (Ki Γ ρ r σr)) {σ : St} {r : Int32} {σr : St} (hf : fo_X2_either N ρ this a1 a2 G_X2_both σ = some (r, σr)) : Tri mX2_either (dd + 8) 0 0 [.ref this, .ref a1, .int a2] (hp Γ ρ σ) (Ki Γ ρ r σr) := by
  unfold fo_X2_either at hf
  refine tri_of [some (.ref this), some (.ref a1), some (.int a2), none, none] (plainFor_of_name rfl) rfl (Nat.le_of_ble_eq_true rfl) ?_
  refine go_aload_n 0 dX2_either_0 rfl rfl ?_
  refine go_aload_n 1 dX2_either_1 rfl rfl ?_
  refine go_iload_n 2 dX2_either_2 rfl rfl ?_
  obtain ⟨r14, σ15, q16, hf⟩ := bnd_some hf
  refine go_Vi (av := [.ref a1, .int a2]) (rest := []) (hG_X2_both h0 h1 q16) ok_X2_both ml_X2_16 dX2_either_3 h0 rfl rfl (by omega) (Nat.le_refl _) (Nat.le_refl _) (Nat.le_of_ble_eq_true rfl) ?_
  refine go_istore_n 3 [some (.ref this), some (.ref a1), some (.int a2), some (.int r14), none] dX2_either_6 rfl (by decide) rfl ?_
  refine go_iconst 0 dX2_either_7 (by decide) ?_
  refine go_istore [some (.ref this), some (.ref a1), some (.int a2), some (.int r14), some (.int 0)] dX2_either_8 (by decide) rfl ?_
  exact w_X2_either_10 hs h0 h1 hG_X2_both N r14 0 σ15 hf
def fr_X2 (N : Nat) (ρ : Nat → Nat → Nat) : Nat → Nat → Nat → Nat → Int32 → St → Option (Int32 × St)
  | 0, _, _, _, _, _ => none
  | D + 1, tag, this, a1, a2, σ => match tag with
    | 0 => fo_X2_either N ρ this a1 a2 (fr_X2 N ρ D 1) σ
    | 1 => fo_X2_both N ρ this a1 a2 (fr_X2 N ρ D 2) σ
    | 2 => fo_X2_one N ρ this a1 a2 (fr_X2 N ρ D 2) (fr_X2 N ρ D 3) σ
    | 3 => fo_X2_relation N ρ this a1 a2 (fr_X2 N ρ D 4) σ
    | 4 => fo_X2_sum N ρ this a1 a2 (fr_X2 N ρ D 5) σ
    | 5 => fo_X2_term N ρ this a1 a2 (fr_X2 N ρ D 6) σ
    | _ => fo_X2_unit N ρ this a1 a2 (fr_X2 N ρ D 0) σ
theorem tr_X2 {N : Nat} {Γ : SG} {ρ : Nat → Nat → Nat} (hs : Sh Γ ρ) : ∀ D : Nat, (∀ {this : Nat} {a1 : Nat} {a2 : Int32} {σ : St} {r : Int32} {σr : St}, Γ[this]? = some (0, 2) → Γ[a1]? = some (0, 1) → fr_X2 N ρ D 0 this a1 a2 σ = some (r, σr) → Tri mX2_either (8 * D) 0 0 [.ref this, .ref a1, .int a2] (hp Γ ρ σ) (Ki Γ ρ r σr)) ∧ (∀ {this : Nat} {a1 : Nat} {a2 : Int32} {σ : St} {r : Int32} {σr : St}, Γ[this]? = some (0, 2) → Γ[a1]? = some (0, 1) → fr_X2 N ρ D 1 this a1 a2 σ = some (r, σr) → Tri mX2_both (8 * D) 0 0 [.ref this, .ref a1, .int a2] (hp Γ ρ σ) (Ki Γ ρ r σr)) ∧ (∀ {this : Nat} {a1 : Nat} {a2 : Int32} {σ : St} {r : Int32} {σr : St}, Γ[this]? = some (0, 2) → Γ[a1]? = some (0, 1) → fr_X2 N ρ D 2 this a1 a2 σ = some (r, σr) → Tri mX2_one (8 * D) 0 0 [.ref this, .ref a1, .int a2] (hp Γ ρ σ) (Ki Γ ρ r σr)) ∧ (∀ {this : Nat} {a1 : Nat} {a2 : Int32} {σ : St} {r : Int32} {σr : St}, Γ[this]? = some (0, 2) → Γ[a1]? = some (0, 1) → fr_X2 N ρ D 3 this a1 a2 σ = some (r, σr) → Tri mX2_relation (8 * D) 0 0 [.ref this, .ref a1, .int a2] (hp Γ ρ σ) (Ki Γ ρ r σr)) ∧ (∀ {this : Nat} {a1 : Nat} {a2 : Int32} {σ : St} {r : Int32} {σr : St}, Γ[this]? = some (0, 2) → Γ[a1]? = some (0, 1) → fr_X2 N ρ D 4 this a1 a2 σ = some (r, σr) → Tri mX2_sum (8 * D) 0 0 [.ref this, .ref a1, .int a2] (hp Γ ρ σ) (Ki Γ ρ r σr)) ∧ (∀ {this : Nat} {a1 : Nat} {a2 : Int32} {σ : St} {r : Int32} {σr : St}, Γ[this]? = some (0, 2) → Γ[a1]? = some (0, 1) → fr_X2 N ρ D 5 this a1 a2 σ = some (r, σr) → Tri mX2_term (8 * D) 0 0 [.ref this, .ref a1, .int a2] (hp Γ ρ σ) (Ki Γ ρ r σr)) ∧ (∀ {this : Nat} {a1 : Nat} {a2 : Int32} {σ : St} {r : Int32} {σr : St}, Γ[this]? = some (0, 2) → Γ[a1]? = some (0, 1) → fr_X2 N ρ D 6 this a1 a2 σ = some (r, σr) → Tri mX2_unit (8 * D) 0 0 [.ref this, .ref a1, .int a2] (hp Γ ρ σ) (Ki Γ ρ r σr)) := by
  intro D
  induction D with
  | zero => exact ⟨fun h0 h1 hf => (by cases hf), fun h0 h1 hf => (by cases hf), fun h0 h1 hf => (by cases hf), fun h0 h1 hf => (by cases hf), fun h0 h1 hf => (by cases hf), fun h0 h1 hf => (by cases hf), fun h0 h1 hf => (by cases hf)⟩
  | succ D ih => exact ⟨fun h0 h1 hf => to_X2_either (dd := 8 * D) hs h0 h1 ih.2.1 hf, fun h0 h1 hf => to_X2_both (dd := 8 * D) hs h0 h1 ih.2.2.1 hf, fun h0 h1 hf => to_X2_one (dd := 8 * D) hs h0 h1 ih.2.2.1 ih.2.2.2.1 hf, fun h0 h1 hf => to_X2_relation (dd := 8 * D) hs h0 h1 ih.2.2.2.2.1 hf, fun h0 h1 hf => to_X2_sum (dd := 8 * D) hs h0 h1 ih.2.2.2.2.2.1 hf, fun h0 h1 hf => to_X2_term (dd := 8 * D) hs h0 h1 ih.2.2.2.2.2.2 hf, fun h0 h1 hf => to_X2_unit (dd := 8 * D) hs h0 h1 ih.1 hf⟩
def f_X2_either (N : Nat) (ρ : Nat → Nat → Nat) (this : Nat) (a1 : Nat) (a2 : Int32) (σ : St) : Option (Int32 × St) := fr_X2 N ρ 100 0 this a1 a2 σ
theorem t_X2_either {N : Nat} {Γ : SG} {ρ : Nat → Nat → Nat} (hs : Sh Γ ρ) {this : Nat} {a1 : Nat} {a2 : Int32} (h0 : Γ[this]? = some (0, 2)) (h1 : Γ[a1]? = some (0, 1)) {σ : St} {r : Int32} {σr : St} (hf : f_X2_either N ρ this a1 a2 σ = some (r, σr)) : Tri mX2_either 800 0 0 [.ref this, .ref a1, .int a2] (hp Γ ρ σ) (Ki Γ ρ r σr) := (tr_X2 hs 100).1 h0 h1 hf

def f_X7_formulaLine (N : Nat) (ρ : Nat → Nat → Nat) (this : Nat) (a1 : Nat) (σ : St) : Option (Int32 × St) :=
  bnd (f_X1_isTold N ρ a1 σ) fun r1 σ2 =>
  if (r1 : Int32) = 0 then
    bnd (f_X5_advance N ρ (ρ this 1) σ2) fun _ σ6 =>
    bnd (f_X2_either N ρ (ρ this 0) a1 0 σ6) fun r8 σ9 =>
    gd (bb r8) <|
    some (r8, σ9)
  else
    bnd (f_X5_refuse N ρ (ρ this 1) 2 σ2) fun r12 σ13 =>
    gd (bb r12) <|
    some (r12, σ13)
set_option maxRecDepth 100000 in
set_option maxHeartbeats 4000000 in
theorem t_X7_formulaLine {N : Nat} {Γ : SG} {ρ : Nat → Nat → Nat} (hs : Sh Γ ρ) {this : Nat} {a1 : Nat} (h0 : Γ[this]? = some (0, 7)) (h1 : Γ[a1]? = some (0, 1)) {σ : St} {r : Int32} {σr : St} (hf : f_X7_formulaLine N ρ this a1 σ = some (r, σr)) : Tri mX7_formulaLine 801 0 0 [.ref this, .ref a1] (hp Γ ρ σ) (Ki Γ ρ r σr) := by
  unfold f_X7_formulaLine at hf
  refine tri_of [some (.ref this), some (.ref a1)] (plainFor_of_name rfl) rfl (Nat.le_of_ble_eq_true rfl) ?_
  refine go_aload_n 1 dX7_formulaLine_0 rfl rfl ?_
  obtain ⟨r1, σ2, q3, hf⟩ := bnd_some hf
  refine go_Vi (av := []) (rest := []) (t_X1_isTold hs h1 q3) ok_X1_isTold ml_X7_133 dX7_formulaLine_1 h1 rfl rfl (by decide) (Nat.le_refl _) (Nat.le_refl _) (Nat.le_of_ble_eq_true rfl) ?_
  refine go_if_eq 16 dX7_formulaLine_4 (by decide) (fun c4 => ?_) (fun c4 => ?_)
  · replace hf := (if_pos c4).symm.trans hf
    refine go_aload_n 0 dX7_formulaLine_16 rfl rfl ?_
    refine go_fR fl_X7_20 dX7_formulaLine_17 h0 (by decide) rfl ?_
    obtain ⟨r5, σ6, q7, hf⟩ := bnd_some hf
    refine go_Vv (av := []) (rest := []) (t_X5_advance hs (hs.1 _ 7 1 h0 rfl) q7) ok_X5_advance ml_X7_94 dX7_formulaLine_20 (hs.1 _ 7 1 h0 rfl) rfl rfl (by decide) (Nat.le_refl _) (Nat.le_refl _) (Nat.le_of_ble_eq_true rfl) ?_
    refine go_aload_n 0 dX7_formulaLine_23 rfl rfl ?_
    refine go_fR fl_X7_10 dX7_formulaLine_24 h0 (by decide) rfl ?_
    refine go_aload_n 1 dX7_formulaLine_27 rfl rfl ?_
    refine go_iconst 0 dX7_formulaLine_28 (by decide) ?_
    obtain ⟨r8, σ9, q10, hf⟩ := bnd_some hf
    refine go_Ni (av := [.ref a1, .int 0]) (rest := []) (t_X2_either hs (hs.1 _ 7 0 h0 rfl) h1 q10) ok_X2_either mn_X7_139 dX7_formulaLine_29 (hs.1 _ 7 0 h0 rfl) rfl rfl (by decide) (Nat.le_refl _) (Nat.le_refl _) (Nat.le_of_ble_eq_true rfl) ?_
    obtain ⟨g11, hf⟩ := gd_some hf
    cases hf
    exact go_zret rfl (bb_of g11) dX7_formulaLine_32 (Nat.le_refl _) ⟨rfl, rfl⟩
  · replace hf := (if_neg c4).symm.trans hf
    refine go_aload_n 0 dX7_formulaLine_7 rfl rfl ?_
    refine go_fR fl_X7_20 dX7_formulaLine_8 h0 (by decide) rfl ?_
    refine go_iconst 2 dX7_formulaLine_11 (by decide) ?_
    obtain ⟨r12, σ13, q14, hf⟩ := bnd_some hf
    refine go_Vi (av := [.int 2]) (rest := []) (t_X5_refuse hs (hs.1 _ 7 1 h0 rfl) q14) ok_X5_refuse ml_X7_88 dX7_formulaLine_12 (hs.1 _ 7 1 h0 rfl) rfl rfl (by decide) (Nat.le_refl _) (Nat.le_refl _) (Nat.le_of_ble_eq_true rfl) ?_
    obtain ⟨g15, hf⟩ := gd_some hf
    cases hf
    exact go_zret rfl (bb_of g15) dX7_formulaLine_15 (Nat.le_refl _) ⟨rfl, rfl⟩
def f_X7_newName_18 (N : Nat) (ρ : Nat → Nat → Nat) (this : Nat) (a1 n1 : Nat) (a2 : Int32) (σ : St) : Option (Int32 × St) :=
  bnd (f_X5_refuse N ρ (ρ this 1) 2 σ) fun r1 σ2 =>
  gd (bb r1) <|
  some (r1, σ2)
def b_X7_newName_29 (N : Nat) (ρ : Nat → Nat → Nat) (this : Nat) (a1 n1 : Nat) (a2 : Int32) (rec29 : Int32 → St → Option (Int32 × St)) (x3 : Int32) (σ : St) : Option (Int32 × St) :=
  if a2 ≤ (x3 : Int32) then
    gd (ib a2 n1) <|
    nmd (sJ σ a1 a2.toNatClampNeg (σ.2 (ρ this 1) 6)) fun σ7 =>
    bnd (f_X5_advance N ρ (ρ this 1) σ7) fun _ σ9 =>
    some (1, σ9)
  else
    gd (ib x3 n1) <|
    if (lg_cmp (σ.2 a1 x3.toNatClampNeg) (σ.2 (ρ this 1) 6) : Int32) = 0 then
      bnd (f_X5_refuse N ρ (ρ this 1) 3 σ) fun r13 σ14 =>
      gd (bb r13) <|
      some (r13, σ14)
    else
      rec29 (x3 + 1) σ
def f_X7_newName_29 (N : Nat) (ρ : Nat → Nat → Nat) (this : Nat) (a1 n1 : Nat) (a2 : Int32) : Nat → Int32 → St → Option (Int32 × St)
  | 0, _, _ => none
  | n + 1, x3, σ => b_X7_newName_29 N ρ this a1 n1 a2 (f_X7_newName_29 N ρ this a1 n1 a2 n) x3 σ
def f_X7_newName (N : Nat) (ρ : Nat → Nat → Nat) (this : Nat) (a1 n1 : Nat) (a2 : Int32) (σ : St) : Option (Int32 × St) :=
  if (σ.1 (ρ this 1) 4 : Int32) = 101 then
    if (a2 : Int32) < (nI n1) then
      f_X7_newName_29 N ρ this a1 n1 a2 N 0 σ
    else
      f_X7_newName_18 N ρ this a1 n1 a2 σ
  else
    f_X7_newName_18 N ρ this a1 n1 a2 σ
set_option maxRecDepth 100000 in
set_option maxHeartbeats 4000000 in
theorem w_X7_newName_18 {N : Nat} {Γ : SG} {ρ : Nat → Nat → Nat} (hs : Sh Γ ρ) {this : Nat} {a1 n1 : Nat} {a2 : Int32} (h0 : Γ[this]? = some (0, 7)) (h1 : Γ[a1]? = some (4, n1)) {n0 : Nat} {r : Int32} {σr : St} (σ : St) (hf : f_X7_newName_18 N ρ this a1 n1 a2 σ = some (r, σr)) : Go mX7_newName 5 0 0 n0 (Ki Γ ρ r σr) 0 0 18 [some (.ref this), none, none, none] [] (hp Γ ρ σ) := by
  unfold f_X7_newName_18 at hf
  refine go_aload_n 0 dX7_newName_18 rfl rfl ?_
  refine go_fR fl_X7_20 dX7_newName_19 h0 (by decide) rfl ?_
  refine go_iconst 2 dX7_newName_22 (by decide) ?_
  obtain ⟨r1, σ2, q3, hf⟩ := bnd_some hf
  refine go_Vi (av := [.int 2]) (rest := []) (t_X5_refuse hs (hs.1 _ 7 1 h0 rfl) q3) ok_X5_refuse ml_X7_88 dX7_newName_23 (hs.1 _ 7 1 h0 rfl) rfl rfl (by decide) (Nat.le_refl _) (Nat.le_refl _) (Nat.le_of_ble_eq_true rfl) ?_
  obtain ⟨g4, hf⟩ := gd_some hf
  cases hf
  exact go_zret rfl (bb_of g4) dX7_newName_26 (Nat.le_refl _) ⟨rfl, rfl⟩
set_option maxRecDepth 100000 in
set_option maxHeartbeats 4000000 in
theorem v_X7_newName_29 {N : Nat} {Γ : SG} {ρ : Nat → Nat → Nat} (hs : Sh Γ ρ) {this : Nat} {a1 n1 : Nat} {a2 : Int32} (h0 : Γ[this]? = some (0, 7)) (h1 : Γ[a1]? = some (4, n1)) {n0 : Nat} {r : Int32} {σr : St} (rec29 : Int32 → St → Option (Int32 × St)) (hrec29 : ∀ (x3 : Int32) (σ : St), rec29 x3 σ = some (r, σr) → Go mX7_newName 5 0 0 n0 (Ki Γ ρ r σr) 0 0 29 [some (.ref this), some (.ref a1), some (.int a2), some (.int x3)] [] (hp Γ ρ σ)) (x3 : Int32) (σ : St) (hf : b_X7_newName_29 N ρ this a1 n1 a2 rec29 x3 σ = some (r, σr)) : Go mX7_newName 5 0 0 n0 (Ki Γ ρ r σr) 0 0 29 [some (.ref this), some (.ref a1), some (.int a2), some (.int x3)] [] (hp Γ ρ σ) := by
  unfold b_X7_newName_29 at hf
  refine go_iload_n 3 dX7_newName_29 rfl rfl ?_
  refine go_iload_n 2 dX7_newName_30 rfl rfl ?_
  refine go_icmp_ge 63 dX7_newName_31 (by decide) (fun c5 => ?_) (fun c5 => ?_)
  · replace hf := (if_pos c5).symm.trans hf
    refine go_aload_n 1 dX7_newName_63 rfl rfl ?_
    refine go_iload_n 2 dX7_newName_64 rfl rfl ?_
    refine go_aload_n 0 dX7_newName_65 rfl rfl ?_
    refine go_fR fl_X7_20 dX7_newName_66 h0 (by decide) rfl ?_
    refine go_fJ fl_X7_144 dX7_newName_69 (hs.1 _ 7 1 h0 rfl) (by decide) rfl ?_
    obtain ⟨g6, hf⟩ := gd_some hf
    obtain ⟨σ7, eσ7, hf⟩ := nmd_some hf
    refine go_wJ dX7_newName_72 h1 (ib_in g6) ?_
    rw [eσ7]
    refine go_aload_n 0 dX7_newName_73 rfl rfl ?_
    refine go_fR fl_X7_20 dX7_newName_74 h0 (by decide) rfl ?_
    obtain ⟨r8, σ9, q10, hf⟩ := bnd_some hf
    refine go_Vv (av := []) (rest := []) (t_X5_advance hs (hs.1 _ 7 1 h0 rfl) q10) ok_X5_advance ml_X7_94 dX7_newName_77 (hs.1 _ 7 1 h0 rfl) rfl rfl (by decide) (Nat.le_refl _) (Nat.le_refl _) (Nat.le_of_ble_eq_true rfl) ?_
    refine go_iconst 1 dX7_newName_80 (by decide) ?_
    cases hf
    exact go_zret rfl (by decide) dX7_newName_81 (Nat.le_refl _) ⟨rfl, rfl⟩
  · replace hf := (if_neg c5).symm.trans hf
    refine go_aload_n 1 dX7_newName_34 rfl rfl ?_
    refine go_iload_n 3 dX7_newName_35 rfl rfl ?_
    obtain ⟨g11, hf⟩ := gd_some hf
    refine go_rJ dX7_newName_36 h1 (ib_in g11) ?_
    refine go_aload_n 0 dX7_newName_37 rfl rfl ?_
    refine go_fR fl_X7_20 dX7_newName_38 h0 (by decide) rfl ?_
    refine go_fJ fl_X7_144 dX7_newName_41 (hs.1 _ 7 1 h0 rfl) (by decide) rfl ?_
    refine go_lcmp dX7_newName_44 ?_
    refine go_if_ne 57 dX7_newName_45 (by decide) (fun c12 => ?_) (fun c12 => ?_)
    · replace hf := (if_neg c12).symm.trans hf
      refine go_iinc (x3 + 1) [some (.ref this), some (.ref a1), some (.int a2), some (.int (x3 + 1))] dX7_newName_57 rfl rfl (by decide) rfl ?_
      refine go_goto 29 dX7_newName_60 (by decide) ?_
      exact hrec29 (x3 + 1) σ hf
    · replace hf := (if_pos c12).symm.trans hf
      refine go_aload_n 0 dX7_newName_48 rfl rfl ?_
      refine go_fR fl_X7_20 dX7_newName_49 h0 (by decide) rfl ?_
      refine go_iconst 3 dX7_newName_52 (by decide) ?_
      obtain ⟨r13, σ14, q15, hf⟩ := bnd_some hf
      refine go_Vi (av := [.int 3]) (rest := []) (t_X5_refuse hs (hs.1 _ 7 1 h0 rfl) q15) ok_X5_refuse ml_X7_88 dX7_newName_53 (hs.1 _ 7 1 h0 rfl) rfl rfl (by decide) (Nat.le_refl _) (Nat.le_refl _) (Nat.le_of_ble_eq_true rfl) ?_
      obtain ⟨g16, hf⟩ := gd_some hf
      cases hf
      exact go_zret rfl (bb_of g16) dX7_newName_56 (Nat.le_refl _) ⟨rfl, rfl⟩
theorem w_X7_newName_29 {N : Nat} {Γ : SG} {ρ : Nat → Nat → Nat} (hs : Sh Γ ρ) {this : Nat} {a1 n1 : Nat} {a2 : Int32} (h0 : Γ[this]? = some (0, 7)) (h1 : Γ[a1]? = some (4, n1)) {n0 : Nat} {r : Int32} {σr : St} : ∀ (n : Nat) (x3 : Int32) (σ : St), f_X7_newName_29 N ρ this a1 n1 a2 n x3 σ = some (r, σr) → Go mX7_newName 5 0 0 n0 (Ki Γ ρ r σr) 0 0 29 [some (.ref this), some (.ref a1), some (.int a2), some (.int x3)] [] (hp Γ ρ σ) := by
  intro n
  induction n with
  | zero => intro x3 σ hf; cases hf
  | succ n ih => intro x3 σ hf; exact v_X7_newName_29 hs h0 h1 _ ih x3 σ hf
set_option maxRecDepth 100000 in
set_option maxHeartbeats 4000000 in
theorem t_X7_newName {N : Nat} {Γ : SG} {ρ : Nat → Nat → Nat} (hs : Sh Γ ρ) {this : Nat} {a1 n1 : Nat} {a2 : Int32} (h0 : Γ[this]? = some (0, 7)) (h1 : Γ[a1]? = some (4, n1)) {σ : St} {r : Int32} {σr : St} (hf : f_X7_newName N ρ this a1 n1 a2 σ = some (r, σr)) : Tri mX7_newName 5 0 0 [.ref this, .ref a1, .int a2] (hp Γ ρ σ) (Ki Γ ρ r σr) := by
  unfold f_X7_newName at hf
  refine tri_of [some (.ref this), some (.ref a1), some (.int a2), none] (plainFor_of_name rfl) rfl (Nat.le_of_ble_eq_true rfl) ?_
  refine go_aload_n 0 dX7_newName_0 rfl rfl ?_
  refine go_fR fl_X7_20 dX7_newName_1 h0 (by decide) rfl ?_
  refine go_fI fl_X7_47 dX7_newName_4 (hs.1 _ 7 1 h0 rfl) (by decide) rfl ?_
  refine go_bipush 101 dX7_newName_7 (by decide) ?_
  refine go_icmp_ne 18 dX7_newName_9 (by decide) (fun c17 => ?_) (fun c17 => ?_)
  · replace hf := (if_neg c17).symm.trans hf
    refine go_msk [true, false, false, false] [some (.ref this), none, none, none] rfl ?_
    exact w_X7_newName_18 hs h0 h1 σ hf
  · replace hf := (if_pos c17).symm.trans hf
    refine go_iload_n 2 dX7_newName_12 rfl rfl ?_
    refine go_aload_n 1 dX7_newName_13 rfl rfl ?_
    refine go_len dX7_newName_14 h1 (by decide) ?_
    refine go_icmp_lt 27 dX7_newName_15 (by decide) (fun c18 => ?_) (fun c18 => ?_)
    · replace hf := (if_pos c18).symm.trans hf
      refine go_iconst 0 dX7_newName_27 (by decide) ?_
      refine go_istore_n 3 [some (.ref this), some (.ref a1), some (.int a2), some (.int 0)] dX7_newName_28 rfl (by decide) rfl ?_
      exact w_X7_newName_29 hs h0 h1 N 0 σ hf
    · replace hf := (if_neg c18).symm.trans hf
      refine go_msk [true, false, false, false] [some (.ref this), none, none, none] rfl ?_
      exact w_X7_newName_18 hs h0 h1 σ hf
def f_X7_told_75 (N : Nat) (ρ : Nat → Nat → Nat) (this : Nat) (a1 : Int32) (a2 : Int32) (a3 : Int32) (σ : St) : Option (Int32 × St) :=
  bnd (f_X5_refuse N ρ (ρ this 1) 4 σ) fun r1 σ2 =>
  gd (bb r1) <|
  some (r1, σ2)
def f_X7_told (N : Nat) (ρ : Nat → Nat → Nat) (this : Nat) (a1 : Int32) (a2 : Int32) (a3 : Int32) (σ : St) : Option (Int32 × St) :=
  if (σ.1 (ρ this 1) 4 : Int32) = a1 then
    bnd (f_X5_advance N ρ (ρ this 1) σ) fun _ σ7 =>
    if (σ7.1 (ρ this 1) 4 : Int32) = 100 then
      nmd (sI σ7 this 5 (σ7.1 (ρ this 1) 5)) fun σ10 =>
      if (σ10.1 this 5 : Int32) < a2 then
        f_X7_told_75 N ρ this a1 a2 a3 σ10
      else
        if (σ10.1 this 5 : Int32) ≤ a3 then
          bnd (f_X5_advance N ρ (ρ this 1) σ10) fun _ σ14 =>
          some (1, σ14)
        else
          f_X7_told_75 N ρ this a1 a2 a3 σ10
    else
      bnd (f_X5_refuse N ρ (ρ this 1) 2 σ7) fun r16 σ17 =>
      gd (bb r16) <|
      some (r16, σ17)
  else
    bnd (f_X5_refuse N ρ (ρ this 1) 2 σ) fun r20 σ21 =>
    gd (bb r20) <|
    some (r20, σ21)
set_option maxRecDepth 100000 in
set_option maxHeartbeats 4000000 in
theorem w_X7_told_75 {N : Nat} {Γ : SG} {ρ : Nat → Nat → Nat} (hs : Sh Γ ρ) {this : Nat} {a1 : Int32} {a2 : Int32} {a3 : Int32} (h0 : Γ[this]? = some (0, 7)) {n0 : Nat} {r : Int32} {σr : St} (σ : St) (hf : f_X7_told_75 N ρ this a1 a2 a3 σ = some (r, σr)) : Go mX7_told 5 0 0 n0 (Ki Γ ρ r σr) 0 0 75 [some (.ref this), none, none, none] [] (hp Γ ρ σ) := by
  unfold f_X7_told_75 at hf
  refine go_aload_n 0 dX7_told_75 rfl rfl ?_
  refine go_fR fl_X7_20 dX7_told_76 h0 (by decide) rfl ?_
  refine go_iconst 4 dX7_told_79 (by decide) ?_
  obtain ⟨r1, σ2, q3, hf⟩ := bnd_some hf
  refine go_Vi (av := [.int 4]) (rest := []) (t_X5_refuse hs (hs.1 _ 7 1 h0 rfl) q3) ok_X5_refuse ml_X7_88 dX7_told_80 (hs.1 _ 7 1 h0 rfl) rfl rfl (by decide) (Nat.le_refl _) (Nat.le_refl _) (Nat.le_of_ble_eq_true rfl) ?_
  obtain ⟨g4, hf⟩ := gd_some hf
  cases hf
  exact go_zret rfl (bb_of g4) dX7_told_83 (Nat.le_refl _) ⟨rfl, rfl⟩
set_option maxRecDepth 100000 in
set_option maxHeartbeats 4000000 in
theorem t_X7_told {N : Nat} {Γ : SG} {ρ : Nat → Nat → Nat} (hs : Sh Γ ρ) {this : Nat} {a1 : Int32} {a2 : Int32} {a3 : Int32} (h0 : Γ[this]? = some (0, 7)) {σ : St} {r : Int32} {σr : St} (hf : f_X7_told N ρ this a1 a2 a3 σ = some (r, σr)) : Tri mX7_told 5 0 0 [.ref this, .int a1, .int a2, .int a3] (hp Γ ρ σ) (Ki Γ ρ r σr) := by
  unfold f_X7_told at hf
  refine tri_of [some (.ref this), some (.int a1), some (.int a2), some (.int a3)] (plainFor_of_name rfl) rfl (Nat.le_of_ble_eq_true rfl) ?_
  refine go_aload_n 0 dX7_told_0 rfl rfl ?_
  refine go_fR fl_X7_20 dX7_told_1 h0 (by decide) rfl ?_
  refine go_fI fl_X7_47 dX7_told_4 (hs.1 _ 7 1 h0 rfl) (by decide) rfl ?_
  refine go_iload_n 1 dX7_told_7 rfl rfl ?_
  refine go_icmp_eq 20 dX7_told_8 (by decide) (fun c5 => ?_) (fun c5 => ?_)
  · replace hf := (if_pos c5).symm.trans hf
    refine go_aload_n 0 dX7_told_20 rfl rfl ?_
    refine go_fR fl_X7_20 dX7_told_21 h0 (by decide) rfl ?_
    obtain ⟨r6, σ7, q8, hf⟩ := bnd_some hf
    refine go_Vv (av := []) (rest := []) (t_X5_advance hs (hs.1 _ 7 1 h0 rfl) q8) ok_X5_advance ml_X7_94 dX7_told_24 (hs.1 _ 7 1 h0 rfl) rfl rfl (by decide) (Nat.le_refl _) (Nat.le_refl _) (Nat.le_of_ble_eq_true rfl) ?_
    refine go_aload_n 0 dX7_told_27 rfl rfl ?_
    refine go_fR fl_X7_20 dX7_told_28 h0 (by decide) rfl ?_
    refine go_fI fl_X7_47 dX7_told_31 (hs.1 _ 7 1 h0 rfl) (by decide) rfl ?_
    refine go_bipush 100 dX7_told_34 (by decide) ?_
    refine go_icmp_eq 48 dX7_told_36 (by decide) (fun c9 => ?_) (fun c9 => ?_)
    · replace hf := (if_pos c9).symm.trans hf
      refine go_aload_n 0 dX7_told_48 rfl rfl ?_
      refine go_aload_n 0 dX7_told_49 rfl rfl ?_
      refine go_fR fl_X7_20 dX7_told_50 h0 (by decide) rfl ?_
      refine go_fI fl_X7_143 dX7_told_53 (hs.1 _ 7 1 h0 rfl) (by decide) rfl ?_
      obtain ⟨σ10, eσ10, hf⟩ := nmd_some hf
      refine go_pI fl_X7_34 ft_7_5 (okv_i _) dX7_told_56 h0 (by decide) rfl ?_
      rw [eσ10]
      refine go_aload_n 0 dX7_told_59 rfl rfl ?_
      refine go_fI fl_X7_34 dX7_told_60 h0 (by decide) rfl ?_
      refine go_iload_n 2 dX7_told_63 rfl rfl ?_
      refine go_icmp_lt 75 dX7_told_64 (by decide) (fun c11 => ?_) (fun c11 => ?_)
      · replace hf := (if_pos c11).symm.trans hf
        refine go_msk [true, false, false, false] [some (.ref this), none, none, none] rfl ?_
        exact w_X7_told_75 hs h0 σ10 hf
      · replace hf := (if_neg c11).symm.trans hf
        refine go_aload_n 0 dX7_told_67 rfl rfl ?_
        refine go_fI fl_X7_34 dX7_told_68 h0 (by decide) rfl ?_
        refine go_iload_n 3 dX7_told_71 rfl rfl ?_
        refine go_icmp_le 84 dX7_told_72 (by decide) (fun c12 => ?_) (fun c12 => ?_)
        · replace hf := (if_pos c12).symm.trans hf
          refine go_aload_n 0 dX7_told_84 rfl rfl ?_
          refine go_fR fl_X7_20 dX7_told_85 h0 (by decide) rfl ?_
          obtain ⟨r13, σ14, q15, hf⟩ := bnd_some hf
          refine go_Vv (av := []) (rest := []) (t_X5_advance hs (hs.1 _ 7 1 h0 rfl) q15) ok_X5_advance ml_X7_94 dX7_told_88 (hs.1 _ 7 1 h0 rfl) rfl rfl (by decide) (Nat.le_refl _) (Nat.le_refl _) (Nat.le_of_ble_eq_true rfl) ?_
          refine go_iconst 1 dX7_told_91 (by decide) ?_
          cases hf
          exact go_zret rfl (by decide) dX7_told_92 (Nat.le_refl _) ⟨rfl, rfl⟩
        · replace hf := (if_neg c12).symm.trans hf
          refine go_msk [true, false, false, false] [some (.ref this), none, none, none] rfl ?_
          exact w_X7_told_75 hs h0 σ10 hf
    · replace hf := (if_neg c9).symm.trans hf
      refine go_aload_n 0 dX7_told_39 rfl rfl ?_
      refine go_fR fl_X7_20 dX7_told_40 h0 (by decide) rfl ?_
      refine go_iconst 2 dX7_told_43 (by decide) ?_
      obtain ⟨r16, σ17, q18, hf⟩ := bnd_some hf
      refine go_Vi (av := [.int 2]) (rest := []) (t_X5_refuse hs (hs.1 _ 7 1 h0 rfl) q18) ok_X5_refuse ml_X7_88 dX7_told_44 (hs.1 _ 7 1 h0 rfl) rfl rfl (by decide) (Nat.le_refl _) (Nat.le_refl _) (Nat.le_of_ble_eq_true rfl) ?_
      obtain ⟨g19, hf⟩ := gd_some hf
      cases hf
      exact go_zret rfl (bb_of g19) dX7_told_47 (Nat.le_refl _) ⟨rfl, rfl⟩
  · replace hf := (if_neg c5).symm.trans hf
    refine go_aload_n 0 dX7_told_11 rfl rfl ?_
    refine go_fR fl_X7_20 dX7_told_12 h0 (by decide) rfl ?_
    refine go_iconst 2 dX7_told_15 (by decide) ?_
    obtain ⟨r20, σ21, q22, hf⟩ := bnd_some hf
    refine go_Vi (av := [.int 2]) (rest := []) (t_X5_refuse hs (hs.1 _ 7 1 h0 rfl) q22) ok_X5_refuse ml_X7_88 dX7_told_16 (hs.1 _ 7 1 h0 rfl) rfl rfl (by decide) (Nat.le_refl _) (Nat.le_refl _) (Nat.le_of_ble_eq_true rfl) ?_
    obtain ⟨g23, hf⟩ := gd_some hf
    cases hf
    exact go_zret rfl (bb_of g23) dX7_told_19 (Nat.le_refl _) ⟨rfl, rfl⟩
def f_X7_hearthLine_15 (N : Nat) (ρ : Nat → Nat → Nat) (this : Nat) (a1 : Nat) (σ : St) : Option (Int32 × St) :=
  bnd (f_X5_refuse N ρ (ρ this 1) 2 σ) fun r1 σ2 =>
  gd (bb r1) <|
  some (r1, σ2)
def f_X7_hearthLine_55 (N : Nat) (ρ : Nat → Nat → Nat) (this : Nat) (a1 : Nat) (σ : St) : Option (Int32 × St) :=
  some (0, σ)
def f_X7_hearthLine_159 (N : Nat) (ρ : Nat → Nat → Nat) (this : Nat) (a1 : Nat) (x2 : Int32) (σ : St) : Option (Int32 × St) :=
  gd (ib x2 6) <|
  nmd (sI σ (ρ a1 3) x2.toNatClampNeg (σ.1 this 5)) fun σ6 =>
  nmd (sI σ6 a1 11 (x2 + 1)) fun σ7 =>
  some (1, σ7)
def f_X7_hearthLine_120 (N : Nat) (ρ : Nat → Nat → Nat) (this : Nat) (a1 : Nat) (x2 : Int32) (σ : St) : Option (Int32 × St) :=
  gd (ib x2 6) <|
  nmd (sI σ (ρ a1 2) x2.toNatClampNeg (σ.1 this 5)) fun σ9 =>
  nmd (sI σ9 this 5 0) fun σ10 =>
  if (σ10.1 (ρ this 1) 4 : Int32) = 3 then
    bnd (f_X7_told N ρ this 3 0 9 σ10) fun r12 σ13 =>
    if (r12 : Int32) = 0 then
      some (0, σ13)
    else
      f_X7_hearthLine_159 N ρ this a1 x2 σ13
  else
    f_X7_hearthLine_159 N ρ this a1 x2 σ10
def f_X7_hearthLine (N : Nat) (ρ : Nat → Nat → Nat) (this : Nat) (a1 : Nat) (σ : St) : Option (Int32 × St) :=
  nmd (σ.1 a1 11) fun y16 =>
  if (y16 : Int32) < 0 then
    f_X7_hearthLine_15 N ρ this a1 σ
  else
    if (y16 : Int32) < 6 then
      bnd (f_X5_advance N ρ (ρ this 1) σ) fun _ σ20 =>
      bnd (f_X7_newName N ρ this (ρ this 2) 6 y16 σ20) fun r22 σ23 =>
      if (r22 : Int32) = 0 then
        f_X7_hearthLine_55 N ρ this a1 σ23
      else
        bnd (f_X7_told N ρ this 11 0 99 σ23) fun r26 σ27 =>
        if (r26 : Int32) = 0 then
          f_X7_hearthLine_55 N ρ this a1 σ27
        else
          gd (ib y16 6) <|
          nmd (sI σ27 (ρ a1 0) y16.toNatClampNeg (σ27.1 this 5)) fun σ31 =>
          bnd (f_X7_told N ρ this 1 0 99 σ31) fun r32 σ33 =>
          if (r32 : Int32) = 0 then
            some (0, σ33)
          else
            gd (ib y16 6) <|
            nmd (sI σ33 (ρ a1 1) y16.toNatClampNeg (σ33.1 this 5)) fun σ37 =>
            nmd (sI σ37 this 5 1) fun σ38 =>
            if (σ38.1 (ρ this 1) 4 : Int32) = 12 then
              bnd (f_X7_told N ρ this 12 1 5 σ38) fun r40 σ41 =>
              if (r40 : Int32) = 0 then
                some (0, σ41)
              else
                f_X7_hearthLine_120 N ρ this a1 y16 σ41
            else
              f_X7_hearthLine_120 N ρ this a1 y16 σ38
    else
      f_X7_hearthLine_15 N ρ this a1 σ
set_option maxRecDepth 100000 in
set_option maxHeartbeats 4000000 in
theorem w_X7_hearthLine_15 {N : Nat} {Γ : SG} {ρ : Nat → Nat → Nat} (hs : Sh Γ ρ) {this : Nat} {a1 : Nat} (h0 : Γ[this]? = some (0, 7)) (h1 : Γ[a1]? = some (0, 0)) {n0 : Nat} {r : Int32} {σr : St} (σ : St) (hf : f_X7_hearthLine_15 N ρ this a1 σ = some (r, σr)) : Go mX7_hearthLine 6 0 0 n0 (Ki Γ ρ r σr) 0 0 15 [some (.ref this), none, none] [] (hp Γ ρ σ) := by
  unfold f_X7_hearthLine_15 at hf
  refine go_aload_n 0 dX7_hearthLine_15 rfl rfl ?_
  refine go_fR fl_X7_20 dX7_hearthLine_16 h0 (by decide) rfl ?_
  refine go_iconst 2 dX7_hearthLine_19 (by decide) ?_
  obtain ⟨r1, σ2, q3, hf⟩ := bnd_some hf
  refine go_Vi (av := [.int 2]) (rest := []) (t_X5_refuse hs (hs.1 _ 7 1 h0 rfl) q3) ok_X5_refuse ml_X7_88 dX7_hearthLine_20 (hs.1 _ 7 1 h0 rfl) rfl rfl (by decide) (Nat.le_refl _) (Nat.le_refl _) (Nat.le_of_ble_eq_true rfl) ?_
  obtain ⟨g4, hf⟩ := gd_some hf
  cases hf
  exact go_zret rfl (bb_of g4) dX7_hearthLine_23 (Nat.le_refl _) ⟨rfl, rfl⟩
set_option maxRecDepth 100000 in
set_option maxHeartbeats 4000000 in
theorem w_X7_hearthLine_55 {N : Nat} {Γ : SG} {ρ : Nat → Nat → Nat} (hs : Sh Γ ρ) {this : Nat} {a1 : Nat} (h0 : Γ[this]? = some (0, 7)) (h1 : Γ[a1]? = some (0, 0)) {n0 : Nat} {r : Int32} {σr : St} (σ : St) (hf : f_X7_hearthLine_55 N ρ this a1 σ = some (r, σr)) : Go mX7_hearthLine 6 0 0 n0 (Ki Γ ρ r σr) 0 0 55 [none, none, none] [] (hp Γ ρ σ) := by
  unfold f_X7_hearthLine_55 at hf
  refine go_iconst 0 dX7_hearthLine_55 (by decide) ?_
  cases hf
  exact go_zret rfl (by decide) dX7_hearthLine_56 (Nat.le_refl _) ⟨rfl, rfl⟩
set_option maxRecDepth 100000 in
set_option maxHeartbeats 4000000 in
theorem w_X7_hearthLine_159 {N : Nat} {Γ : SG} {ρ : Nat → Nat → Nat} (hs : Sh Γ ρ) {this : Nat} {a1 : Nat} (h0 : Γ[this]? = some (0, 7)) (h1 : Γ[a1]? = some (0, 0)) {n0 : Nat} {r : Int32} {σr : St} (x2 : Int32) (σ : St) (hf : f_X7_hearthLine_159 N ρ this a1 x2 σ = some (r, σr)) : Go mX7_hearthLine 6 0 0 n0 (Ki Γ ρ r σr) 0 0 159 [some (.ref this), some (.ref a1), some (.int x2)] [] (hp Γ ρ σ) := by
  unfold f_X7_hearthLine_159 at hf
  refine go_aload_n 1 dX7_hearthLine_159 rfl rfl ?_
  refine go_fR fl_X7_115 dX7_hearthLine_160 h1 (by decide) rfl ?_
  refine go_iload_n 2 dX7_hearthLine_163 rfl rfl ?_
  refine go_aload_n 0 dX7_hearthLine_164 rfl rfl ?_
  refine go_fI fl_X7_34 dX7_hearthLine_165 h0 (by decide) rfl ?_
  obtain ⟨g5, hf⟩ := gd_some hf
  obtain ⟨σ6, eσ6, hf⟩ := nmd_some hf
  refine go_wI dX7_hearthLine_168 (hs.1 _ 0 3 h1 rfl) (ib_in g5) ?_
  rw [eσ6]
  refine go_aload_n 1 dX7_hearthLine_169 rfl rfl ?_
  refine go_iload_n 2 dX7_hearthLine_170 rfl rfl ?_
  refine go_iconst 1 dX7_hearthLine_171 (by decide) ?_
  refine go_iadd dX7_hearthLine_172 ?_
  obtain ⟨σ7, eσ7, hf⟩ := nmd_some hf
  refine go_pI fl_X7_91 ft_0_11 (okv_i _) dX7_hearthLine_173 h1 (by decide) rfl ?_
  rw [eσ7]
  refine go_iconst 1 dX7_hearthLine_176 (by decide) ?_
  cases hf
  exact go_zret rfl (by decide) dX7_hearthLine_177 (Nat.le_refl _) ⟨rfl, rfl⟩
set_option maxRecDepth 100000 in
set_option maxHeartbeats 4000000 in
theorem w_X7_hearthLine_120 {N : Nat} {Γ : SG} {ρ : Nat → Nat → Nat} (hs : Sh Γ ρ) {this : Nat} {a1 : Nat} (h0 : Γ[this]? = some (0, 7)) (h1 : Γ[a1]? = some (0, 0)) {n0 : Nat} {r : Int32} {σr : St} (x2 : Int32) (σ : St) (hf : f_X7_hearthLine_120 N ρ this a1 x2 σ = some (r, σr)) : Go mX7_hearthLine 6 0 0 n0 (Ki Γ ρ r σr) 0 0 120 [some (.ref this), some (.ref a1), some (.int x2)] [] (hp Γ ρ σ) := by
  unfold f_X7_hearthLine_120 at hf
  refine go_aload_n 1 dX7_hearthLine_120 rfl rfl ?_
  refine go_fR fl_X7_112 dX7_hearthLine_121 h1 (by decide) rfl ?_
  refine go_iload_n 2 dX7_hearthLine_124 rfl rfl ?_
  refine go_aload_n 0 dX7_hearthLine_125 rfl rfl ?_
  refine go_fI fl_X7_34 dX7_hearthLine_126 h0 (by decide) rfl ?_
  obtain ⟨g8, hf⟩ := gd_some hf
  obtain ⟨σ9, eσ9, hf⟩ := nmd_some hf
  refine go_wI dX7_hearthLine_129 (hs.1 _ 0 2 h1 rfl) (ib_in g8) ?_
  rw [eσ9]
  refine go_aload_n 0 dX7_hearthLine_130 rfl rfl ?_
  refine go_iconst 0 dX7_hearthLine_131 (by decide) ?_
  obtain ⟨σ10, eσ10, hf⟩ := nmd_some hf
  refine go_pI fl_X7_34 ft_7_5 (okv_i _) dX7_hearthLine_132 h0 (by decide) rfl ?_
  rw [eσ10]
  refine go_aload_n 0 dX7_hearthLine_135 rfl rfl ?_
  refine go_fR fl_X7_20 dX7_hearthLine_136 h0 (by decide) rfl ?_
  refine go_fI fl_X7_47 dX7_hearthLine_139 (hs.1 _ 7 1 h0 rfl) (by decide) rfl ?_
  refine go_iconst 3 dX7_hearthLine_142 (by decide) ?_
  refine go_icmp_ne 159 dX7_hearthLine_143 (by decide) (fun c11 => ?_) (fun c11 => ?_)
  · replace hf := (if_neg c11).symm.trans hf
    exact w_X7_hearthLine_159 hs h0 h1 x2 σ10 hf
  · replace hf := (if_pos c11).symm.trans hf
    refine go_aload_n 0 dX7_hearthLine_146 rfl rfl ?_
    refine go_iconst 3 dX7_hearthLine_147 (by decide) ?_
    refine go_iconst 0 dX7_hearthLine_148 (by decide) ?_
    refine go_bipush 9 dX7_hearthLine_149 (by decide) ?_
    obtain ⟨r12, σ13, q14, hf⟩ := bnd_some hf
    refine go_Vi (av := [.int 3, .int 0, .int 9]) (rest := []) (t_X7_told hs h0 q14) ok_X7_told ml_X7_101 dX7_hearthLine_151 h0 rfl rfl (by decide) (Nat.le_refl _) (Nat.le_refl _) (Nat.le_of_ble_eq_true rfl) ?_
    refine go_if_ne 159 dX7_hearthLine_154 (by decide) (fun c15 => ?_) (fun c15 => ?_)
    · replace hf := (if_neg c15).symm.trans hf
      exact w_X7_hearthLine_159 hs h0 h1 x2 σ13 hf
    · replace hf := (if_pos c15).symm.trans hf
      refine go_iconst 0 dX7_hearthLine_157 (by decide) ?_
      cases hf
      exact go_zret rfl (by decide) dX7_hearthLine_158 (Nat.le_refl _) ⟨rfl, rfl⟩
set_option maxRecDepth 100000 in
set_option maxHeartbeats 4000000 in
theorem t_X7_hearthLine {N : Nat} {Γ : SG} {ρ : Nat → Nat → Nat} (hs : Sh Γ ρ) {this : Nat} {a1 : Nat} (h0 : Γ[this]? = some (0, 7)) (h1 : Γ[a1]? = some (0, 0)) {σ : St} {r : Int32} {σr : St} (hf : f_X7_hearthLine N ρ this a1 σ = some (r, σr)) : Tri mX7_hearthLine 6 0 0 [.ref this, .ref a1] (hp Γ ρ σ) (Ki Γ ρ r σr) := by
  unfold f_X7_hearthLine at hf
  refine tri_of [some (.ref this), some (.ref a1), none] (plainFor_of_name rfl) rfl (Nat.le_of_ble_eq_true rfl) ?_
  refine go_aload_n 1 dX7_hearthLine_0 rfl rfl ?_
  refine go_fI fl_X7_91 dX7_hearthLine_1 h1 (by decide) rfl ?_
  obtain ⟨y16, ey16, hf⟩ := nmd_some hf
  refine go_nm ey16 ?_
  refine go_istore_n 2 [some (.ref this), some (.ref a1), some (.int y16)] dX7_hearthLine_4 rfl (by decide) rfl ?_
  refine go_iload_n 2 dX7_hearthLine_5 rfl rfl ?_
  refine go_if_lt 15 dX7_hearthLine_6 (by decide) (fun c17 => ?_) (fun c17 => ?_)
  · replace hf := (if_pos c17).symm.trans hf
    refine go_msk [true, false, false] [some (.ref this), none, none] rfl ?_
    exact w_X7_hearthLine_15 hs h0 h1 σ hf
  · replace hf := (if_neg c17).symm.trans hf
    refine go_iload_n 2 dX7_hearthLine_9 rfl rfl ?_
    refine go_bipush 6 dX7_hearthLine_10 (by decide) ?_
    refine go_icmp_lt 24 dX7_hearthLine_12 (by decide) (fun c18 => ?_) (fun c18 => ?_)
    · replace hf := (if_pos c18).symm.trans hf
      refine go_aload_n 0 dX7_hearthLine_24 rfl rfl ?_
      refine go_fR fl_X7_20 dX7_hearthLine_25 h0 (by decide) rfl ?_
      obtain ⟨r19, σ20, q21, hf⟩ := bnd_some hf
      refine go_Vv (av := []) (rest := []) (t_X5_advance hs (hs.1 _ 7 1 h0 rfl) q21) ok_X5_advance ml_X7_94 dX7_hearthLine_28 (hs.1 _ 7 1 h0 rfl) rfl rfl (by decide) (Nat.le_refl _) (Nat.le_refl _) (Nat.le_of_ble_eq_true rfl) ?_
      refine go_aload_n 0 dX7_hearthLine_31 rfl rfl ?_
      refine go_aload_n 0 dX7_hearthLine_32 rfl rfl ?_
      refine go_fR fl_X7_23 dX7_hearthLine_33 h0 (by decide) rfl ?_
      refine go_iload_n 2 dX7_hearthLine_36 rfl rfl ?_
      obtain ⟨r22, σ23, q24, hf⟩ := bnd_some hf
      refine go_Vi (av := [.ref (ρ this 2), .int y16]) (rest := []) (t_X7_newName hs h0 (hs.1 _ 7 2 h0 rfl) q24) ok_X7_newName ml_X7_97 dX7_hearthLine_37 h0 rfl rfl (by decide) (Nat.le_refl _) (Nat.le_refl _) (Nat.le_of_ble_eq_true rfl) ?_
      refine go_if_eq 55 dX7_hearthLine_40 (by decide) (fun c25 => ?_) (fun c25 => ?_)
      · replace hf := (if_pos c25).symm.trans hf
        refine go_msk [false, false, false] [none, none, none] rfl ?_
        exact w_X7_hearthLine_55 hs h0 h1 σ23 hf
      · replace hf := (if_neg c25).symm.trans hf
        refine go_aload_n 0 dX7_hearthLine_43 rfl rfl ?_
        refine go_bipush 11 dX7_hearthLine_44 (by decide) ?_
        refine go_iconst 0 dX7_hearthLine_46 (by decide) ?_
        refine go_bipush 99 dX7_hearthLine_47 (by decide) ?_
        obtain ⟨r26, σ27, q28, hf⟩ := bnd_some hf
        refine go_Vi (av := [.int 11, .int 0, .int 99]) (rest := []) (t_X7_told hs h0 q28) ok_X7_told ml_X7_101 dX7_hearthLine_49 h0 rfl rfl (by decide) (Nat.le_refl _) (Nat.le_refl _) (Nat.le_of_ble_eq_true rfl) ?_
        refine go_if_ne 57 dX7_hearthLine_52 (by decide) (fun c29 => ?_) (fun c29 => ?_)
        · replace hf := (if_neg c29).symm.trans hf
          refine go_aload_n 1 dX7_hearthLine_57 rfl rfl ?_
          refine go_fR fl_X7_105 dX7_hearthLine_58 h1 (by decide) rfl ?_
          refine go_iload_n 2 dX7_hearthLine_61 rfl rfl ?_
          refine go_aload_n 0 dX7_hearthLine_62 rfl rfl ?_
          refine go_fI fl_X7_34 dX7_hearthLine_63 h0 (by decide) rfl ?_
          obtain ⟨g30, hf⟩ := gd_some hf
          obtain ⟨σ31, eσ31, hf⟩ := nmd_some hf
          refine go_wI dX7_hearthLine_66 (hs.1 _ 0 0 h1 rfl) (ib_in g30) ?_
          rw [eσ31]
          refine go_aload_n 0 dX7_hearthLine_67 rfl rfl ?_
          refine go_iconst 1 dX7_hearthLine_68 (by decide) ?_
          refine go_iconst 0 dX7_hearthLine_69 (by decide) ?_
          refine go_bipush 99 dX7_hearthLine_70 (by decide) ?_
          obtain ⟨r32, σ33, q34, hf⟩ := bnd_some hf
          refine go_Vi (av := [.int 1, .int 0, .int 99]) (rest := []) (t_X7_told hs h0 q34) ok_X7_told ml_X7_101 dX7_hearthLine_72 h0 rfl rfl (by decide) (Nat.le_refl _) (Nat.le_refl _) (Nat.le_of_ble_eq_true rfl) ?_
          refine go_if_ne 80 dX7_hearthLine_75 (by decide) (fun c35 => ?_) (fun c35 => ?_)
          · replace hf := (if_neg c35).symm.trans hf
            refine go_aload_n 1 dX7_hearthLine_80 rfl rfl ?_
            refine go_fR fl_X7_109 dX7_hearthLine_81 h1 (by decide) rfl ?_
            refine go_iload_n 2 dX7_hearthLine_84 rfl rfl ?_
            refine go_aload_n 0 dX7_hearthLine_85 rfl rfl ?_
            refine go_fI fl_X7_34 dX7_hearthLine_86 h0 (by decide) rfl ?_
            obtain ⟨g36, hf⟩ := gd_some hf
            obtain ⟨σ37, eσ37, hf⟩ := nmd_some hf
            refine go_wI dX7_hearthLine_89 (hs.1 _ 0 1 h1 rfl) (ib_in g36) ?_
            rw [eσ37]
            refine go_aload_n 0 dX7_hearthLine_90 rfl rfl ?_
            refine go_iconst 1 dX7_hearthLine_91 (by decide) ?_
            obtain ⟨σ38, eσ38, hf⟩ := nmd_some hf
            refine go_pI fl_X7_34 ft_7_5 (okv_i _) dX7_hearthLine_92 h0 (by decide) rfl ?_
            rw [eσ38]
            refine go_aload_n 0 dX7_hearthLine_95 rfl rfl ?_
            refine go_fR fl_X7_20 dX7_hearthLine_96 h0 (by decide) rfl ?_
            refine go_fI fl_X7_47 dX7_hearthLine_99 (hs.1 _ 7 1 h0 rfl) (by decide) rfl ?_
            refine go_bipush 12 dX7_hearthLine_102 (by decide) ?_
            refine go_icmp_ne 120 dX7_hearthLine_104 (by decide) (fun c39 => ?_) (fun c39 => ?_)
            · replace hf := (if_neg c39).symm.trans hf
              exact w_X7_hearthLine_120 hs h0 h1 y16 σ38 hf
            · replace hf := (if_pos c39).symm.trans hf
              refine go_aload_n 0 dX7_hearthLine_107 rfl rfl ?_
              refine go_bipush 12 dX7_hearthLine_108 (by decide) ?_
              refine go_iconst 1 dX7_hearthLine_110 (by decide) ?_
              refine go_iconst 5 dX7_hearthLine_111 (by decide) ?_
              obtain ⟨r40, σ41, q42, hf⟩ := bnd_some hf
              refine go_Vi (av := [.int 12, .int 1, .int 5]) (rest := []) (t_X7_told hs h0 q42) ok_X7_told ml_X7_101 dX7_hearthLine_112 h0 rfl rfl (by decide) (Nat.le_refl _) (Nat.le_refl _) (Nat.le_of_ble_eq_true rfl) ?_
              refine go_if_ne 120 dX7_hearthLine_115 (by decide) (fun c43 => ?_) (fun c43 => ?_)
              · replace hf := (if_neg c43).symm.trans hf
                exact w_X7_hearthLine_120 hs h0 h1 y16 σ41 hf
              · replace hf := (if_pos c43).symm.trans hf
                refine go_iconst 0 dX7_hearthLine_118 (by decide) ?_
                cases hf
                exact go_zret rfl (by decide) dX7_hearthLine_119 (Nat.le_refl _) ⟨rfl, rfl⟩
          · replace hf := (if_pos c35).symm.trans hf
            refine go_iconst 0 dX7_hearthLine_78 (by decide) ?_
            cases hf
            exact go_zret rfl (by decide) dX7_hearthLine_79 (Nat.le_refl _) ⟨rfl, rfl⟩
        · replace hf := (if_pos c29).symm.trans hf
          refine go_msk [false, false, false] [none, none, none] rfl ?_
          exact w_X7_hearthLine_55 hs h0 h1 σ27 hf
    · replace hf := (if_neg c18).symm.trans hf
      refine go_msk [true, false, false] [some (.ref this), none, none] rfl ?_
      exact w_X7_hearthLine_15 hs h0 h1 σ hf
def f_X7_stoolLine_14 (N : Nat) (ρ : Nat → Nat → Nat) (this : Nat) (a1 : Nat) (σ : St) : Option (Int32 × St) :=
  bnd (f_X5_refuse N ρ (ρ this 1) 2 σ) fun r1 σ2 =>
  gd (bb r1) <|
  some (r1, σ2)
def f_X7_stoolLine_54 (N : Nat) (ρ : Nat → Nat → Nat) (this : Nat) (a1 : Nat) (σ : St) : Option (Int32 × St) :=
  some (0, σ)
def f_X7_stoolLine_158 (N : Nat) (ρ : Nat → Nat → Nat) (this : Nat) (a1 : Nat) (x2 : Int32) (σ : St) : Option (Int32 × St) :=
  gd (ib x2 5) <|
  nmd (sI σ (ρ a1 7) x2.toNatClampNeg (σ.1 this 5)) fun σ6 =>
  nmd (sI σ6 a1 12 (x2 + 1)) fun σ7 =>
  some (1, σ7)
def f_X7_stoolLine_119 (N : Nat) (ρ : Nat → Nat → Nat) (this : Nat) (a1 : Nat) (x2 : Int32) (σ : St) : Option (Int32 × St) :=
  gd (ib x2 5) <|
  nmd (sI σ (ρ a1 6) x2.toNatClampNeg (σ.1 this 5)) fun σ9 =>
  nmd (sI σ9 this 5 0) fun σ10 =>
  if (σ10.1 (ρ this 1) 4 : Int32) = 4 then
    bnd (f_X7_told N ρ this 4 0 99 σ10) fun r12 σ13 =>
    if (r12 : Int32) = 0 then
      some (0, σ13)
    else
      f_X7_stoolLine_158 N ρ this a1 x2 σ13
  else
    f_X7_stoolLine_158 N ρ this a1 x2 σ10
def f_X7_stoolLine (N : Nat) (ρ : Nat → Nat → Nat) (this : Nat) (a1 : Nat) (σ : St) : Option (Int32 × St) :=
  nmd (σ.1 a1 12) fun y16 =>
  if (y16 : Int32) < 0 then
    f_X7_stoolLine_14 N ρ this a1 σ
  else
    if (y16 : Int32) < 5 then
      bnd (f_X5_advance N ρ (ρ this 1) σ) fun _ σ20 =>
      bnd (f_X7_newName N ρ this (ρ this 3) 5 y16 σ20) fun r22 σ23 =>
      if (r22 : Int32) = 0 then
        f_X7_stoolLine_54 N ρ this a1 σ23
      else
        bnd (f_X7_told N ρ this 11 0 99 σ23) fun r26 σ27 =>
        if (r26 : Int32) = 0 then
          f_X7_stoolLine_54 N ρ this a1 σ27
        else
          gd (ib y16 5) <|
          nmd (sI σ27 (ρ a1 4) y16.toNatClampNeg (σ27.1 this 5)) fun σ31 =>
          bnd (f_X7_told N ρ this 5 0 99 σ31) fun r32 σ33 =>
          if (r32 : Int32) = 0 then
            some (0, σ33)
          else
            gd (ib y16 5) <|
            nmd (sI σ33 (ρ a1 5) y16.toNatClampNeg (σ33.1 this 5)) fun σ37 =>
            nmd (sI σ37 this 5 0) fun σ38 =>
            if (σ38.1 (ρ this 1) 4 : Int32) = 14 then
              bnd (f_X7_told N ρ this 14 0 3 σ38) fun r40 σ41 =>
              if (r40 : Int32) = 0 then
                some (0, σ41)
              else
                f_X7_stoolLine_119 N ρ this a1 y16 σ41
            else
              f_X7_stoolLine_119 N ρ this a1 y16 σ38
    else
      f_X7_stoolLine_14 N ρ this a1 σ
set_option maxRecDepth 100000 in
set_option maxHeartbeats 4000000 in
theorem w_X7_stoolLine_14 {N : Nat} {Γ : SG} {ρ : Nat → Nat → Nat} (hs : Sh Γ ρ) {this : Nat} {a1 : Nat} (h0 : Γ[this]? = some (0, 7)) (h1 : Γ[a1]? = some (0, 0)) {n0 : Nat} {r : Int32} {σr : St} (σ : St) (hf : f_X7_stoolLine_14 N ρ this a1 σ = some (r, σr)) : Go mX7_stoolLine 6 0 0 n0 (Ki Γ ρ r σr) 0 0 14 [some (.ref this), none, none] [] (hp Γ ρ σ) := by
  unfold f_X7_stoolLine_14 at hf
  refine go_aload_n 0 dX7_stoolLine_14 rfl rfl ?_
  refine go_fR fl_X7_20 dX7_stoolLine_15 h0 (by decide) rfl ?_
  refine go_iconst 2 dX7_stoolLine_18 (by decide) ?_
  obtain ⟨r1, σ2, q3, hf⟩ := bnd_some hf
  refine go_Vi (av := [.int 2]) (rest := []) (t_X5_refuse hs (hs.1 _ 7 1 h0 rfl) q3) ok_X5_refuse ml_X7_88 dX7_stoolLine_19 (hs.1 _ 7 1 h0 rfl) rfl rfl (by decide) (Nat.le_refl _) (Nat.le_refl _) (Nat.le_of_ble_eq_true rfl) ?_
  obtain ⟨g4, hf⟩ := gd_some hf
  cases hf
  exact go_zret rfl (bb_of g4) dX7_stoolLine_22 (Nat.le_refl _) ⟨rfl, rfl⟩
set_option maxRecDepth 100000 in
set_option maxHeartbeats 4000000 in
theorem w_X7_stoolLine_54 {N : Nat} {Γ : SG} {ρ : Nat → Nat → Nat} (hs : Sh Γ ρ) {this : Nat} {a1 : Nat} (h0 : Γ[this]? = some (0, 7)) (h1 : Γ[a1]? = some (0, 0)) {n0 : Nat} {r : Int32} {σr : St} (σ : St) (hf : f_X7_stoolLine_54 N ρ this a1 σ = some (r, σr)) : Go mX7_stoolLine 6 0 0 n0 (Ki Γ ρ r σr) 0 0 54 [none, none, none] [] (hp Γ ρ σ) := by
  unfold f_X7_stoolLine_54 at hf
  refine go_iconst 0 dX7_stoolLine_54 (by decide) ?_
  cases hf
  exact go_zret rfl (by decide) dX7_stoolLine_55 (Nat.le_refl _) ⟨rfl, rfl⟩
set_option maxRecDepth 100000 in
set_option maxHeartbeats 4000000 in
theorem w_X7_stoolLine_158 {N : Nat} {Γ : SG} {ρ : Nat → Nat → Nat} (hs : Sh Γ ρ) {this : Nat} {a1 : Nat} (h0 : Γ[this]? = some (0, 7)) (h1 : Γ[a1]? = some (0, 0)) {n0 : Nat} {r : Int32} {σr : St} (x2 : Int32) (σ : St) (hf : f_X7_stoolLine_158 N ρ this a1 x2 σ = some (r, σr)) : Go mX7_stoolLine 6 0 0 n0 (Ki Γ ρ r σr) 0 0 158 [some (.ref this), some (.ref a1), some (.int x2)] [] (hp Γ ρ σ) := by
  unfold f_X7_stoolLine_158 at hf
  refine go_aload_n 1 dX7_stoolLine_158 rfl rfl ?_
  refine go_fR fl_X7_130 dX7_stoolLine_159 h1 (by decide) rfl ?_
  refine go_iload_n 2 dX7_stoolLine_162 rfl rfl ?_
  refine go_aload_n 0 dX7_stoolLine_163 rfl rfl ?_
  refine go_fI fl_X7_34 dX7_stoolLine_164 h0 (by decide) rfl ?_
  obtain ⟨g5, hf⟩ := gd_some hf
  obtain ⟨σ6, eσ6, hf⟩ := nmd_some hf
  refine go_wI dX7_stoolLine_167 (hs.1 _ 0 7 h1 rfl) (ib_in g5) ?_
  rw [eσ6]
  refine go_aload_n 1 dX7_stoolLine_168 rfl rfl ?_
  refine go_iload_n 2 dX7_stoolLine_169 rfl rfl ?_
  refine go_iconst 1 dX7_stoolLine_170 (by decide) ?_
  refine go_iadd dX7_stoolLine_171 ?_
  obtain ⟨σ7, eσ7, hf⟩ := nmd_some hf
  refine go_pI fl_X7_118 ft_0_12 (okv_i _) dX7_stoolLine_172 h1 (by decide) rfl ?_
  rw [eσ7]
  refine go_iconst 1 dX7_stoolLine_175 (by decide) ?_
  cases hf
  exact go_zret rfl (by decide) dX7_stoolLine_176 (Nat.le_refl _) ⟨rfl, rfl⟩
set_option maxRecDepth 100000 in
set_option maxHeartbeats 4000000 in
theorem w_X7_stoolLine_119 {N : Nat} {Γ : SG} {ρ : Nat → Nat → Nat} (hs : Sh Γ ρ) {this : Nat} {a1 : Nat} (h0 : Γ[this]? = some (0, 7)) (h1 : Γ[a1]? = some (0, 0)) {n0 : Nat} {r : Int32} {σr : St} (x2 : Int32) (σ : St) (hf : f_X7_stoolLine_119 N ρ this a1 x2 σ = some (r, σr)) : Go mX7_stoolLine 6 0 0 n0 (Ki Γ ρ r σr) 0 0 119 [some (.ref this), some (.ref a1), some (.int x2)] [] (hp Γ ρ σ) := by
  unfold f_X7_stoolLine_119 at hf
  refine go_aload_n 1 dX7_stoolLine_119 rfl rfl ?_
  refine go_fR fl_X7_127 dX7_stoolLine_120 h1 (by decide) rfl ?_
  refine go_iload_n 2 dX7_stoolLine_123 rfl rfl ?_
  refine go_aload_n 0 dX7_stoolLine_124 rfl rfl ?_
  refine go_fI fl_X7_34 dX7_stoolLine_125 h0 (by decide) rfl ?_
  obtain ⟨g8, hf⟩ := gd_some hf
  obtain ⟨σ9, eσ9, hf⟩ := nmd_some hf
  refine go_wI dX7_stoolLine_128 (hs.1 _ 0 6 h1 rfl) (ib_in g8) ?_
  rw [eσ9]
  refine go_aload_n 0 dX7_stoolLine_129 rfl rfl ?_
  refine go_iconst 0 dX7_stoolLine_130 (by decide) ?_
  obtain ⟨σ10, eσ10, hf⟩ := nmd_some hf
  refine go_pI fl_X7_34 ft_7_5 (okv_i _) dX7_stoolLine_131 h0 (by decide) rfl ?_
  rw [eσ10]
  refine go_aload_n 0 dX7_stoolLine_134 rfl rfl ?_
  refine go_fR fl_X7_20 dX7_stoolLine_135 h0 (by decide) rfl ?_
  refine go_fI fl_X7_47 dX7_stoolLine_138 (hs.1 _ 7 1 h0 rfl) (by decide) rfl ?_
  refine go_iconst 4 dX7_stoolLine_141 (by decide) ?_
  refine go_icmp_ne 158 dX7_stoolLine_142 (by decide) (fun c11 => ?_) (fun c11 => ?_)
  · replace hf := (if_neg c11).symm.trans hf
    exact w_X7_stoolLine_158 hs h0 h1 x2 σ10 hf
  · replace hf := (if_pos c11).symm.trans hf
    refine go_aload_n 0 dX7_stoolLine_145 rfl rfl ?_
    refine go_iconst 4 dX7_stoolLine_146 (by decide) ?_
    refine go_iconst 0 dX7_stoolLine_147 (by decide) ?_
    refine go_bipush 99 dX7_stoolLine_148 (by decide) ?_
    obtain ⟨r12, σ13, q14, hf⟩ := bnd_some hf
    refine go_Vi (av := [.int 4, .int 0, .int 99]) (rest := []) (t_X7_told hs h0 q14) ok_X7_told ml_X7_101 dX7_stoolLine_150 h0 rfl rfl (by decide) (Nat.le_refl _) (Nat.le_refl _) (Nat.le_of_ble_eq_true rfl) ?_
    refine go_if_ne 158 dX7_stoolLine_153 (by decide) (fun c15 => ?_) (fun c15 => ?_)
    · replace hf := (if_neg c15).symm.trans hf
      exact w_X7_stoolLine_158 hs h0 h1 x2 σ13 hf
    · replace hf := (if_pos c15).symm.trans hf
      refine go_iconst 0 dX7_stoolLine_156 (by decide) ?_
      cases hf
      exact go_zret rfl (by decide) dX7_stoolLine_157 (Nat.le_refl _) ⟨rfl, rfl⟩
set_option maxRecDepth 100000 in
set_option maxHeartbeats 4000000 in
theorem t_X7_stoolLine {N : Nat} {Γ : SG} {ρ : Nat → Nat → Nat} (hs : Sh Γ ρ) {this : Nat} {a1 : Nat} (h0 : Γ[this]? = some (0, 7)) (h1 : Γ[a1]? = some (0, 0)) {σ : St} {r : Int32} {σr : St} (hf : f_X7_stoolLine N ρ this a1 σ = some (r, σr)) : Tri mX7_stoolLine 6 0 0 [.ref this, .ref a1] (hp Γ ρ σ) (Ki Γ ρ r σr) := by
  unfold f_X7_stoolLine at hf
  refine tri_of [some (.ref this), some (.ref a1), none] (plainFor_of_name rfl) rfl (Nat.le_of_ble_eq_true rfl) ?_
  refine go_aload_n 1 dX7_stoolLine_0 rfl rfl ?_
  refine go_fI fl_X7_118 dX7_stoolLine_1 h1 (by decide) rfl ?_
  obtain ⟨y16, ey16, hf⟩ := nmd_some hf
  refine go_nm ey16 ?_
  refine go_istore_n 2 [some (.ref this), some (.ref a1), some (.int y16)] dX7_stoolLine_4 rfl (by decide) rfl ?_
  refine go_iload_n 2 dX7_stoolLine_5 rfl rfl ?_
  refine go_if_lt 14 dX7_stoolLine_6 (by decide) (fun c17 => ?_) (fun c17 => ?_)
  · replace hf := (if_pos c17).symm.trans hf
    refine go_msk [true, false, false] [some (.ref this), none, none] rfl ?_
    exact w_X7_stoolLine_14 hs h0 h1 σ hf
  · replace hf := (if_neg c17).symm.trans hf
    refine go_iload_n 2 dX7_stoolLine_9 rfl rfl ?_
    refine go_iconst 5 dX7_stoolLine_10 (by decide) ?_
    refine go_icmp_lt 23 dX7_stoolLine_11 (by decide) (fun c18 => ?_) (fun c18 => ?_)
    · replace hf := (if_pos c18).symm.trans hf
      refine go_aload_n 0 dX7_stoolLine_23 rfl rfl ?_
      refine go_fR fl_X7_20 dX7_stoolLine_24 h0 (by decide) rfl ?_
      obtain ⟨r19, σ20, q21, hf⟩ := bnd_some hf
      refine go_Vv (av := []) (rest := []) (t_X5_advance hs (hs.1 _ 7 1 h0 rfl) q21) ok_X5_advance ml_X7_94 dX7_stoolLine_27 (hs.1 _ 7 1 h0 rfl) rfl rfl (by decide) (Nat.le_refl _) (Nat.le_refl _) (Nat.le_of_ble_eq_true rfl) ?_
      refine go_aload_n 0 dX7_stoolLine_30 rfl rfl ?_
      refine go_aload_n 0 dX7_stoolLine_31 rfl rfl ?_
      refine go_fR fl_X7_27 dX7_stoolLine_32 h0 (by decide) rfl ?_
      refine go_iload_n 2 dX7_stoolLine_35 rfl rfl ?_
      obtain ⟨r22, σ23, q24, hf⟩ := bnd_some hf
      refine go_Vi (av := [.ref (ρ this 3), .int y16]) (rest := []) (t_X7_newName hs h0 (hs.1 _ 7 3 h0 rfl) q24) ok_X7_newName ml_X7_97 dX7_stoolLine_36 h0 rfl rfl (by decide) (Nat.le_refl _) (Nat.le_refl _) (Nat.le_of_ble_eq_true rfl) ?_
      refine go_if_eq 54 dX7_stoolLine_39 (by decide) (fun c25 => ?_) (fun c25 => ?_)
      · replace hf := (if_pos c25).symm.trans hf
        refine go_msk [false, false, false] [none, none, none] rfl ?_
        exact w_X7_stoolLine_54 hs h0 h1 σ23 hf
      · replace hf := (if_neg c25).symm.trans hf
        refine go_aload_n 0 dX7_stoolLine_42 rfl rfl ?_
        refine go_bipush 11 dX7_stoolLine_43 (by decide) ?_
        refine go_iconst 0 dX7_stoolLine_45 (by decide) ?_
        refine go_bipush 99 dX7_stoolLine_46 (by decide) ?_
        obtain ⟨r26, σ27, q28, hf⟩ := bnd_some hf
        refine go_Vi (av := [.int 11, .int 0, .int 99]) (rest := []) (t_X7_told hs h0 q28) ok_X7_told ml_X7_101 dX7_stoolLine_48 h0 rfl rfl (by decide) (Nat.le_refl _) (Nat.le_refl _) (Nat.le_of_ble_eq_true rfl) ?_
        refine go_if_ne 56 dX7_stoolLine_51 (by decide) (fun c29 => ?_) (fun c29 => ?_)
        · replace hf := (if_neg c29).symm.trans hf
          refine go_aload_n 1 dX7_stoolLine_56 rfl rfl ?_
          refine go_fR fl_X7_121 dX7_stoolLine_57 h1 (by decide) rfl ?_
          refine go_iload_n 2 dX7_stoolLine_60 rfl rfl ?_
          refine go_aload_n 0 dX7_stoolLine_61 rfl rfl ?_
          refine go_fI fl_X7_34 dX7_stoolLine_62 h0 (by decide) rfl ?_
          obtain ⟨g30, hf⟩ := gd_some hf
          obtain ⟨σ31, eσ31, hf⟩ := nmd_some hf
          refine go_wI dX7_stoolLine_65 (hs.1 _ 0 4 h1 rfl) (ib_in g30) ?_
          rw [eσ31]
          refine go_aload_n 0 dX7_stoolLine_66 rfl rfl ?_
          refine go_iconst 5 dX7_stoolLine_67 (by decide) ?_
          refine go_iconst 0 dX7_stoolLine_68 (by decide) ?_
          refine go_bipush 99 dX7_stoolLine_69 (by decide) ?_
          obtain ⟨r32, σ33, q34, hf⟩ := bnd_some hf
          refine go_Vi (av := [.int 5, .int 0, .int 99]) (rest := []) (t_X7_told hs h0 q34) ok_X7_told ml_X7_101 dX7_stoolLine_71 h0 rfl rfl (by decide) (Nat.le_refl _) (Nat.le_refl _) (Nat.le_of_ble_eq_true rfl) ?_
          refine go_if_ne 79 dX7_stoolLine_74 (by decide) (fun c35 => ?_) (fun c35 => ?_)
          · replace hf := (if_neg c35).symm.trans hf
            refine go_aload_n 1 dX7_stoolLine_79 rfl rfl ?_
            refine go_fR fl_X7_124 dX7_stoolLine_80 h1 (by decide) rfl ?_
            refine go_iload_n 2 dX7_stoolLine_83 rfl rfl ?_
            refine go_aload_n 0 dX7_stoolLine_84 rfl rfl ?_
            refine go_fI fl_X7_34 dX7_stoolLine_85 h0 (by decide) rfl ?_
            obtain ⟨g36, hf⟩ := gd_some hf
            obtain ⟨σ37, eσ37, hf⟩ := nmd_some hf
            refine go_wI dX7_stoolLine_88 (hs.1 _ 0 5 h1 rfl) (ib_in g36) ?_
            rw [eσ37]
            refine go_aload_n 0 dX7_stoolLine_89 rfl rfl ?_
            refine go_iconst 0 dX7_stoolLine_90 (by decide) ?_
            obtain ⟨σ38, eσ38, hf⟩ := nmd_some hf
            refine go_pI fl_X7_34 ft_7_5 (okv_i _) dX7_stoolLine_91 h0 (by decide) rfl ?_
            rw [eσ38]
            refine go_aload_n 0 dX7_stoolLine_94 rfl rfl ?_
            refine go_fR fl_X7_20 dX7_stoolLine_95 h0 (by decide) rfl ?_
            refine go_fI fl_X7_47 dX7_stoolLine_98 (hs.1 _ 7 1 h0 rfl) (by decide) rfl ?_
            refine go_bipush 14 dX7_stoolLine_101 (by decide) ?_
            refine go_icmp_ne 119 dX7_stoolLine_103 (by decide) (fun c39 => ?_) (fun c39 => ?_)
            · replace hf := (if_neg c39).symm.trans hf
              exact w_X7_stoolLine_119 hs h0 h1 y16 σ38 hf
            · replace hf := (if_pos c39).symm.trans hf
              refine go_aload_n 0 dX7_stoolLine_106 rfl rfl ?_
              refine go_bipush 14 dX7_stoolLine_107 (by decide) ?_
              refine go_iconst 0 dX7_stoolLine_109 (by decide) ?_
              refine go_iconst 3 dX7_stoolLine_110 (by decide) ?_
              obtain ⟨r40, σ41, q42, hf⟩ := bnd_some hf
              refine go_Vi (av := [.int 14, .int 0, .int 3]) (rest := []) (t_X7_told hs h0 q42) ok_X7_told ml_X7_101 dX7_stoolLine_111 h0 rfl rfl (by decide) (Nat.le_refl _) (Nat.le_refl _) (Nat.le_of_ble_eq_true rfl) ?_
              refine go_if_ne 119 dX7_stoolLine_114 (by decide) (fun c43 => ?_) (fun c43 => ?_)
              · replace hf := (if_neg c43).symm.trans hf
                exact w_X7_stoolLine_119 hs h0 h1 y16 σ41 hf
              · replace hf := (if_pos c43).symm.trans hf
                refine go_iconst 0 dX7_stoolLine_117 (by decide) ?_
                cases hf
                exact go_zret rfl (by decide) dX7_stoolLine_118 (Nat.le_refl _) ⟨rfl, rfl⟩
          · replace hf := (if_pos c35).symm.trans hf
            refine go_iconst 0 dX7_stoolLine_77 (by decide) ?_
            cases hf
            exact go_zret rfl (by decide) dX7_stoolLine_78 (Nat.le_refl _) ⟨rfl, rfl⟩
        · replace hf := (if_pos c29).symm.trans hf
          refine go_msk [false, false, false] [none, none, none] rfl ?_
          exact w_X7_stoolLine_54 hs h0 h1 σ27 hf
    · replace hf := (if_neg c18).symm.trans hf
      refine go_msk [true, false, false] [some (.ref this), none, none] rfl ?_
      exact w_X7_stoolLine_14 hs h0 h1 σ hf
def f_X7_toldOnce (N : Nat) (ρ : Nat → Nat → Nat) (this : Nat) (a1 : Int32) (a2 : Int32) (σ : St) : Option (Int32 × St) :=
  nmd (σ.1 (ρ this 1) 4) fun y1 =>
  if (((σ.1 this 4) >>> (y1 &&& 31)) &&& 1 : Int32) = 0 then
    nmd (sI σ this 4 ((σ.1 this 4) ||| (1 <<< (y1 &&& 31)))) fun σ3 =>
    bnd (f_X7_told N ρ this y1 a1 a2 σ3) fun r4 σ5 =>
    gd (bb r4) <|
    some (r4, σ5)
  else
    bnd (f_X5_refuse N ρ (ρ this 1) 2 σ) fun r8 σ9 =>
    gd (bb r8) <|
    some (r8, σ9)
set_option maxRecDepth 100000 in
set_option maxHeartbeats 4000000 in
theorem t_X7_toldOnce {N : Nat} {Γ : SG} {ρ : Nat → Nat → Nat} (hs : Sh Γ ρ) {this : Nat} {a1 : Int32} {a2 : Int32} (h0 : Γ[this]? = some (0, 7)) {σ : St} {r : Int32} {σr : St} (hf : f_X7_toldOnce N ρ this a1 a2 σ = some (r, σr)) : Tri mX7_toldOnce 6 0 0 [.ref this, .int a1, .int a2] (hp Γ ρ σ) (Ki Γ ρ r σr) := by
  unfold f_X7_toldOnce at hf
  refine tri_of [some (.ref this), some (.int a1), some (.int a2), none] (plainFor_of_name rfl) rfl (Nat.le_of_ble_eq_true rfl) ?_
  refine go_aload_n 0 dX7_toldOnce_0 rfl rfl ?_
  refine go_fR fl_X7_20 dX7_toldOnce_1 h0 (by decide) rfl ?_
  refine go_fI fl_X7_47 dX7_toldOnce_4 (hs.1 _ 7 1 h0 rfl) (by decide) rfl ?_
  obtain ⟨y1, ey1, hf⟩ := nmd_some hf
  refine go_nm ey1 ?_
  refine go_istore_n 3 [some (.ref this), some (.int a1), some (.int a2), some (.int y1)] dX7_toldOnce_7 rfl (by decide) rfl ?_
  refine go_aload_n 0 dX7_toldOnce_8 rfl rfl ?_
  refine go_fI fl_X7_30 dX7_toldOnce_9 h0 (by decide) rfl ?_
  refine go_iload_n 3 dX7_toldOnce_12 rfl rfl ?_
  refine go_ishr dX7_toldOnce_13 ?_
  refine go_iconst 1 dX7_toldOnce_14 (by decide) ?_
  refine go_iand dX7_toldOnce_15 ?_
  refine go_if_eq 28 dX7_toldOnce_16 (by decide) (fun c2 => ?_) (fun c2 => ?_)
  · replace hf := (if_pos c2).symm.trans hf
    refine go_aload_n 0 dX7_toldOnce_28 rfl rfl ?_
    refine go_dup dX7_toldOnce_29 rfl ?_
    refine go_fI fl_X7_30 dX7_toldOnce_30 h0 (by decide) rfl ?_
    refine go_iconst 1 dX7_toldOnce_33 (by decide) ?_
    refine go_iload_n 3 dX7_toldOnce_34 rfl rfl ?_
    refine go_ishl dX7_toldOnce_35 ?_
    refine go_ior dX7_toldOnce_36 ?_
    obtain ⟨σ3, eσ3, hf⟩ := nmd_some hf
    refine go_pI fl_X7_30 ft_7_4 (okv_i _) dX7_toldOnce_37 h0 (by decide) rfl ?_
    rw [eσ3]
    refine go_aload_n 0 dX7_toldOnce_40 rfl rfl ?_
    refine go_iload_n 3 dX7_toldOnce_41 rfl rfl ?_
    refine go_iload_n 1 dX7_toldOnce_42 rfl rfl ?_
    refine go_iload_n 2 dX7_toldOnce_43 rfl rfl ?_
    obtain ⟨r4, σ5, q6, hf⟩ := bnd_some hf
    refine go_Vi (av := [.int y1, .int a1, .int a2]) (rest := []) (t_X7_told hs h0 q6) ok_X7_told ml_X7_101 dX7_toldOnce_44 h0 rfl rfl (by decide) (Nat.le_refl _) (Nat.le_refl _) (Nat.le_of_ble_eq_true rfl) ?_
    obtain ⟨g7, hf⟩ := gd_some hf
    cases hf
    exact go_zret rfl (bb_of g7) dX7_toldOnce_47 (Nat.le_refl _) ⟨rfl, rfl⟩
  · replace hf := (if_neg c2).symm.trans hf
    refine go_aload_n 0 dX7_toldOnce_19 rfl rfl ?_
    refine go_fR fl_X7_20 dX7_toldOnce_20 h0 (by decide) rfl ?_
    refine go_iconst 2 dX7_toldOnce_23 (by decide) ?_
    obtain ⟨r8, σ9, q10, hf⟩ := bnd_some hf
    refine go_Vi (av := [.int 2]) (rest := []) (t_X5_refuse hs (hs.1 _ 7 1 h0 rfl) q10) ok_X5_refuse ml_X7_88 dX7_toldOnce_24 (hs.1 _ 7 1 h0 rfl) rfl rfl (by decide) (Nat.le_refl _) (Nat.le_refl _) (Nat.le_of_ble_eq_true rfl) ?_
    obtain ⟨g11, hf⟩ := gd_some hf
    cases hf
    exact go_zret rfl (bb_of g11) dX7_toldOnce_27 (Nat.le_refl _) ⟨rfl, rfl⟩
def f_X7_line_145 (N : Nat) (ρ : Nat → Nat → Nat) (this : Nat) (a1 : Nat) (σ : St) : Option (Int32 × St) :=
  bnd (f_X5_refuse N ρ (ρ this 1) 2 σ) fun r1 σ2 =>
  gd (bb r1) <|
  some (r1, σ2)
def f_X7_line (N : Nat) (ρ : Nat → Nat → Nat) (this : Nat) (a1 : Nat) (σ : St) : Option (Int32 × St) :=
  if (σ.1 (ρ this 1) 4 : Int32) = 10 then
    bnd (f_X7_hearthLine N ρ this a1 σ) fun r6 σ7 =>
    gd (bb r6) <|
    some (r6, σ7)
  else
  if (σ.1 (ρ this 1) 4 : Int32) = 11 then
    f_X7_line_145 N ρ this a1 σ
  else
  if (σ.1 (ρ this 1) 4 : Int32) = 12 then
    f_X7_line_145 N ρ this a1 σ
  else
  if (σ.1 (ρ this 1) 4 : Int32) = 13 then
    bnd (f_X7_stoolLine N ρ this a1 σ) fun r13 σ14 =>
    gd (bb r13) <|
    some (r13, σ14)
  else
  if (σ.1 (ρ this 1) 4 : Int32) = 14 then
    f_X7_line_145 N ρ this a1 σ
  else
  if (σ.1 (ρ this 1) 4 : Int32) = 15 then
    bnd (f_X7_formulaLine N ρ this (ρ a1 8) σ) fun r19 σ20 =>
    gd (bb r19) <|
    some (r19, σ20)
  else
  if (σ.1 (ρ this 1) 4 : Int32) = 16 then
    bnd (f_X7_formulaLine N ρ this (ρ a1 9) σ) fun r24 σ25 =>
    gd (bb r24) <|
    some (r24, σ25)
  else
  if (σ.1 (ρ this 1) 4 : Int32) = 17 then
    bnd (f_X7_toldOnce N ρ this 1 99 σ) fun r29 σ30 =>
    nmd (sI σ30 a1 13 (σ30.1 this 5)) fun σ32 =>
    gd (bb r29) <|
    some (r29, σ32)
  else
  if (σ.1 (ρ this 1) 4 : Int32) = 18 then
    bnd (f_X7_toldOnce N ρ this 0 100 σ) fun r35 σ36 =>
    nmd (sI σ36 a1 14 (σ36.1 this 5)) fun σ38 =>
    gd (bb r35) <|
    some (r35, σ38)
  else
  if (σ.1 (ρ this 1) 4 : Int32) = 19 then
    bnd (f_X7_toldOnce N ρ this 0 999 σ) fun r41 σ42 =>
    nmd (sI σ42 a1 15 (σ42.1 this 5)) fun σ44 =>
    gd (bb r41) <|
    some (r41, σ44)
  else
    f_X7_line_145 N ρ this a1 σ
set_option maxRecDepth 100000 in
set_option maxHeartbeats 4000000 in
theorem w_X7_line_145 {N : Nat} {Γ : SG} {ρ : Nat → Nat → Nat} (hs : Sh Γ ρ) {this : Nat} {a1 : Nat} (h0 : Γ[this]? = some (0, 7)) (h1 : Γ[a1]? = some (0, 0)) {n0 : Nat} {r : Int32} {σr : St} (σ : St) (hf : f_X7_line_145 N ρ this a1 σ = some (r, σr)) : Go mX7_line 802 0 0 n0 (Ki Γ ρ r σr) 0 0 145 [some (.ref this), none, none] [] (hp Γ ρ σ) := by
  unfold f_X7_line_145 at hf
  refine go_aload_n 0 dX7_line_145 rfl rfl ?_
  refine go_fR fl_X7_20 dX7_line_146 h0 (by decide) rfl ?_
  refine go_iconst 2 dX7_line_149 (by decide) ?_
  obtain ⟨r1, σ2, q3, hf⟩ := bnd_some hf
  refine go_Vi (av := [.int 2]) (rest := []) (t_X5_refuse hs (hs.1 _ 7 1 h0 rfl) q3) ok_X5_refuse ml_X7_88 dX7_line_150 (hs.1 _ 7 1 h0 rfl) rfl rfl (by decide) (Nat.le_refl _) (Nat.le_refl _) (Nat.le_of_ble_eq_true rfl) ?_
  obtain ⟨g4, hf⟩ := gd_some hf
  cases hf
  exact go_zret rfl (bb_of g4) dX7_line_153 (Nat.le_refl _) ⟨rfl, rfl⟩
set_option maxRecDepth 100000 in
set_option maxHeartbeats 4000000 in
theorem t_X7_line {N : Nat} {Γ : SG} {ρ : Nat → Nat → Nat} (hs : Sh Γ ρ) {this : Nat} {a1 : Nat} (h0 : Γ[this]? = some (0, 7)) (h1 : Γ[a1]? = some (0, 0)) {σ : St} {r : Int32} {σr : St} (hf : f_X7_line N ρ this a1 σ = some (r, σr)) : Tri mX7_line 802 0 0 [.ref this, .ref a1] (hp Γ ρ σ) (Ki Γ ρ r σr) := by
  unfold f_X7_line at hf
  refine tri_of [some (.ref this), some (.ref a1), none] (plainFor_of_name rfl) rfl (Nat.le_of_ble_eq_true rfl) ?_
  refine go_aload_n 0 dX7_line_0 rfl rfl ?_
  refine go_fR fl_X7_20 dX7_line_1 h0 (by decide) rfl ?_
  refine go_fI fl_X7_47 dX7_line_4 (hs.1 _ 7 1 h0 rfl) (by decide) rfl ?_
  by_cases c5 : (σ.1 (ρ this 1) 4 : Int32) = 10
  · replace hf := (if_pos c5).symm.trans hf
    refine go_tableIn 60 dX7_line_7 (by rw [c5]; decide) (by rw [c5]; decide) (by rw [c5]; rfl) (by decide) ?_
    refine go_aload_n 0 dX7_line_60 rfl rfl ?_
    refine go_aload_n 1 dX7_line_61 rfl rfl ?_
    obtain ⟨r6, σ7, q8, hf⟩ := bnd_some hf
    refine go_Vi (av := [.ref a1]) (rest := []) (t_X7_hearthLine hs h0 h1 q8) ok_X7_hearthLine ml_X7_58 dX7_line_62 h0 rfl rfl (by decide) (Nat.le_refl _) (Nat.le_refl _) (Nat.le_of_ble_eq_true rfl) ?_
    obtain ⟨g9, hf⟩ := gd_some hf
    cases hf
    exact go_zret rfl (bb_of g9) dX7_line_65 (Nat.le_refl _) ⟨rfl, rfl⟩
  replace hf := (if_neg c5).symm.trans hf
  by_cases c10 : (σ.1 (ρ this 1) 4 : Int32) = 11
  · replace hf := (if_pos c10).symm.trans hf
    refine go_tableIn 145 dX7_line_7 (by rw [c10]; decide) (by rw [c10]; decide) (by rw [c10]; rfl) (by decide) ?_
    refine go_msk [true, false, false] [some (.ref this), none, none] rfl ?_
    exact w_X7_line_145 hs h0 h1 σ hf
  replace hf := (if_neg c10).symm.trans hf
  by_cases c11 : (σ.1 (ρ this 1) 4 : Int32) = 12
  · replace hf := (if_pos c11).symm.trans hf
    refine go_tableIn 145 dX7_line_7 (by rw [c11]; decide) (by rw [c11]; decide) (by rw [c11]; rfl) (by decide) ?_
    refine go_msk [true, false, false] [some (.ref this), none, none] rfl ?_
    exact w_X7_line_145 hs h0 h1 σ hf
  replace hf := (if_neg c11).symm.trans hf
  by_cases c12 : (σ.1 (ρ this 1) 4 : Int32) = 13
  · replace hf := (if_pos c12).symm.trans hf
    refine go_tableIn 66 dX7_line_7 (by rw [c12]; decide) (by rw [c12]; decide) (by rw [c12]; rfl) (by decide) ?_
    refine go_aload_n 0 dX7_line_66 rfl rfl ?_
    refine go_aload_n 1 dX7_line_67 rfl rfl ?_
    obtain ⟨r13, σ14, q15, hf⟩ := bnd_some hf
    refine go_Vi (av := [.ref a1]) (rest := []) (t_X7_stoolLine hs h0 h1 q15) ok_X7_stoolLine ml_X7_61 dX7_line_68 h0 rfl rfl (by decide) (Nat.le_refl _) (Nat.le_refl _) (Nat.le_of_ble_eq_true rfl) ?_
    obtain ⟨g16, hf⟩ := gd_some hf
    cases hf
    exact go_zret rfl (bb_of g16) dX7_line_71 (Nat.le_refl _) ⟨rfl, rfl⟩
  replace hf := (if_neg c12).symm.trans hf
  by_cases c17 : (σ.1 (ρ this 1) 4 : Int32) = 14
  · replace hf := (if_pos c17).symm.trans hf
    refine go_tableIn 145 dX7_line_7 (by rw [c17]; decide) (by rw [c17]; decide) (by rw [c17]; rfl) (by decide) ?_
    refine go_msk [true, false, false] [some (.ref this), none, none] rfl ?_
    exact w_X7_line_145 hs h0 h1 σ hf
  replace hf := (if_neg c17).symm.trans hf
  by_cases c18 : (σ.1 (ρ this 1) 4 : Int32) = 15
  · replace hf := (if_pos c18).symm.trans hf
    refine go_tableIn 72 dX7_line_7 (by rw [c18]; decide) (by rw [c18]; decide) (by rw [c18]; rfl) (by decide) ?_
    refine go_aload_n 0 dX7_line_72 rfl rfl ?_
    refine go_aload_n 1 dX7_line_73 rfl rfl ?_
    refine go_fR fl_X7_64 dX7_line_74 h1 (by decide) rfl ?_
    obtain ⟨r19, σ20, q21, hf⟩ := bnd_some hf
    refine go_Vi (av := [.ref (ρ a1 8)]) (rest := []) (t_X7_formulaLine hs h0 (hs.1 _ 0 8 h1 rfl) q21) ok_X7_formulaLine ml_X7_68 dX7_line_77 h0 rfl rfl (by decide) (Nat.le_refl _) (Nat.le_refl _) (Nat.le_of_ble_eq_true rfl) ?_
    obtain ⟨g22, hf⟩ := gd_some hf
    cases hf
    exact go_zret rfl (bb_of g22) dX7_line_80 (Nat.le_refl _) ⟨rfl, rfl⟩
  replace hf := (if_neg c18).symm.trans hf
  by_cases c23 : (σ.1 (ρ this 1) 4 : Int32) = 16
  · replace hf := (if_pos c23).symm.trans hf
    refine go_tableIn 81 dX7_line_7 (by rw [c23]; decide) (by rw [c23]; decide) (by rw [c23]; rfl) (by decide) ?_
    refine go_aload_n 0 dX7_line_81 rfl rfl ?_
    refine go_aload_n 1 dX7_line_82 rfl rfl ?_
    refine go_fR fl_X7_72 dX7_line_83 h1 (by decide) rfl ?_
    obtain ⟨r24, σ25, q26, hf⟩ := bnd_some hf
    refine go_Vi (av := [.ref (ρ a1 9)]) (rest := []) (t_X7_formulaLine hs h0 (hs.1 _ 0 9 h1 rfl) q26) ok_X7_formulaLine ml_X7_68 dX7_line_86 h0 rfl rfl (by decide) (Nat.le_refl _) (Nat.le_refl _) (Nat.le_of_ble_eq_true rfl) ?_
    obtain ⟨g27, hf⟩ := gd_some hf
    cases hf
    exact go_zret rfl (bb_of g27) dX7_line_89 (Nat.le_refl _) ⟨rfl, rfl⟩
  replace hf := (if_neg c23).symm.trans hf
  by_cases c28 : (σ.1 (ρ this 1) 4 : Int32) = 17
  · replace hf := (if_pos c28).symm.trans hf
    refine go_tableIn 90 dX7_line_7 (by rw [c28]; decide) (by rw [c28]; decide) (by rw [c28]; rfl) (by decide) ?_
    refine go_aload_n 0 dX7_line_90 rfl rfl ?_
    refine go_iconst 1 dX7_line_91 (by decide) ?_
    refine go_bipush 99 dX7_line_92 (by decide) ?_
    obtain ⟨r29, σ30, q31, hf⟩ := bnd_some hf
    refine go_Vi (av := [.int 1, .int 99]) (rest := []) (t_X7_toldOnce hs h0 q31) ok_X7_toldOnce ml_X7_75 dX7_line_94 h0 rfl rfl (by decide) (Nat.le_refl _) (Nat.le_refl _) (Nat.le_of_ble_eq_true rfl) ?_
    refine go_istore_n 2 [some (.ref this), some (.ref a1), some (.int r29)] dX7_line_97 rfl (by decide) rfl ?_
    refine go_aload_n 1 dX7_line_98 rfl rfl ?_
    refine go_aload_n 0 dX7_line_99 rfl rfl ?_
    refine go_fI fl_X7_34 dX7_line_100 h0 (by decide) rfl ?_
    obtain ⟨σ32, eσ32, hf⟩ := nmd_some hf
    refine go_pI fl_X7_79 ft_0_13 (okv_i _) dX7_line_103 h1 (by decide) rfl ?_
    rw [eσ32]
    refine go_iload_n 2 dX7_line_106 rfl rfl ?_
    obtain ⟨g33, hf⟩ := gd_some hf
    cases hf
    exact go_zret rfl (bb_of g33) dX7_line_107 (Nat.le_refl _) ⟨rfl, rfl⟩
  replace hf := (if_neg c28).symm.trans hf
  by_cases c34 : (σ.1 (ρ this 1) 4 : Int32) = 18
  · replace hf := (if_pos c34).symm.trans hf
    refine go_tableIn 108 dX7_line_7 (by rw [c34]; decide) (by rw [c34]; decide) (by rw [c34]; rfl) (by decide) ?_
    refine go_aload_n 0 dX7_line_108 rfl rfl ?_
    refine go_iconst 0 dX7_line_109 (by decide) ?_
    refine go_bipush 100 dX7_line_110 (by decide) ?_
    obtain ⟨r35, σ36, q37, hf⟩ := bnd_some hf
    refine go_Vi (av := [.int 0, .int 100]) (rest := []) (t_X7_toldOnce hs h0 q37) ok_X7_toldOnce ml_X7_75 dX7_line_112 h0 rfl rfl (by decide) (Nat.le_refl _) (Nat.le_refl _) (Nat.le_of_ble_eq_true rfl) ?_
    refine go_istore_n 2 [some (.ref this), some (.ref a1), some (.int r35)] dX7_line_115 rfl (by decide) rfl ?_
    refine go_aload_n 1 dX7_line_116 rfl rfl ?_
    refine go_aload_n 0 dX7_line_117 rfl rfl ?_
    refine go_fI fl_X7_34 dX7_line_118 h0 (by decide) rfl ?_
    obtain ⟨σ38, eσ38, hf⟩ := nmd_some hf
    refine go_pI fl_X7_82 ft_0_14 (okv_i _) dX7_line_121 h1 (by decide) rfl ?_
    rw [eσ38]
    refine go_iload_n 2 dX7_line_124 rfl rfl ?_
    obtain ⟨g39, hf⟩ := gd_some hf
    cases hf
    exact go_zret rfl (bb_of g39) dX7_line_125 (Nat.le_refl _) ⟨rfl, rfl⟩
  replace hf := (if_neg c34).symm.trans hf
  by_cases c40 : (σ.1 (ρ this 1) 4 : Int32) = 19
  · replace hf := (if_pos c40).symm.trans hf
    refine go_tableIn 126 dX7_line_7 (by rw [c40]; decide) (by rw [c40]; decide) (by rw [c40]; rfl) (by decide) ?_
    refine go_aload_n 0 dX7_line_126 rfl rfl ?_
    refine go_iconst 0 dX7_line_127 (by decide) ?_
    refine go_sipush 999 dX7_line_128 (by decide) ?_
    obtain ⟨r41, σ42, q43, hf⟩ := bnd_some hf
    refine go_Vi (av := [.int 0, .int 999]) (rest := []) (t_X7_toldOnce hs h0 q43) ok_X7_toldOnce ml_X7_75 dX7_line_131 h0 rfl rfl (by decide) (Nat.le_refl _) (Nat.le_refl _) (Nat.le_of_ble_eq_true rfl) ?_
    refine go_istore_n 2 [some (.ref this), some (.ref a1), some (.int r41)] dX7_line_134 rfl (by decide) rfl ?_
    refine go_aload_n 1 dX7_line_135 rfl rfl ?_
    refine go_aload_n 0 dX7_line_136 rfl rfl ?_
    refine go_fI fl_X7_34 dX7_line_137 h0 (by decide) rfl ?_
    obtain ⟨σ44, eσ44, hf⟩ := nmd_some hf
    refine go_pI fl_X7_85 ft_0_15 (okv_i _) dX7_line_140 h1 (by decide) rfl ?_
    rw [eσ44]
    refine go_iload_n 2 dX7_line_143 rfl rfl ?_
    obtain ⟨g45, hf⟩ := gd_some hf
    cases hf
    exact go_zret rfl (bb_of g45) dX7_line_144 (Nat.le_refl _) ⟨rfl, rfl⟩
  replace hf := (if_neg c40).symm.trans hf
  refine go_tableOut 145 dX7_line_7 (tab_out 10 19 [10, 11, 12, 13, 14, 15, 16, 17, 18, 19] (by decide) (by simp only [List.forall_mem_cons]; exact ⟨c5, c10, c11, c12, c17, c18, c23, c28, c34, c40, by simp⟩)) (by decide) ?_
  refine go_msk [true, false, false] [some (.ref this), none, none] rfl ?_
  exact w_X7_line_145 hs h0 h1 σ hf
def f_X7_readInto_68 (N : Nat) (ρ : Nat → Nat → Nat) (this : Nat) (a1 : Nat) (rec20 : Int32 → Int32 → St → Option (Int32 × St)) (x3 : Int32) (s0 : Int32) (σ : St) : Option (Int32 × St) :=
  rec20 s0 (x3 + 1) σ
def f_X7_readInto_67 (N : Nat) (ρ : Nat → Nat → Nat) (this : Nat) (a1 : Nat) (rec20 : Int32 → Int32 → St → Option (Int32 × St)) (x3 : Int32) (σ : St) : Option (Int32 × St) :=
  f_X7_readInto_68 N ρ this a1 rec20 x3 0 σ
def f_X7_readInto_75 (N : Nat) (ρ : Nat → Nat → Nat) (this : Nat) (a1 : Nat) (x2 : Int32) (σ : St) : Option (Int32 × St) :=
  gd (bb x2) <|
  some (x2, σ)
def b_X7_readInto_20 (N : Nat) (ρ : Nat → Nat → Nat) (this : Nat) (a1 : Nat) (rec20 : Int32 → Int32 → St → Option (Int32 × St)) (x2 : Int32) (x3 : Int32) (σ : St) : Option (Int32 × St) :=
  if (x2 : Int32) = 0 then
    f_X7_readInto_75 N ρ this a1 x2 σ
  else
    if 1600 ≤ (x3 : Int32) then
      f_X7_readInto_75 N ρ this a1 x2 σ
    else
      if (σ.1 (ρ this 1) 4 : Int32) = 102 then
        f_X7_readInto_75 N ρ this a1 x2 σ
      else
        bnd (f_X7_line N ρ this a1 σ) fun r5 σ6 =>
        if (r5 : Int32) = 0 then
          f_X7_readInto_67 N ρ this a1 rec20 x3 σ6
        else
          bnd (f_X5_pass N ρ (ρ this 1) 59 σ6) fun r9 σ10 =>
          if (r9 : Int32) = 0 then
            f_X7_readInto_67 N ρ this a1 rec20 x3 σ10
          else
            f_X7_readInto_68 N ρ this a1 rec20 x3 1 σ10
def f_X7_readInto_20 (N : Nat) (ρ : Nat → Nat → Nat) (this : Nat) (a1 : Nat) : Nat → Int32 → Int32 → St → Option (Int32 × St)
  | 0, _, _, _ => none
  | n + 1, x2, x3, σ => b_X7_readInto_20 N ρ this a1 (f_X7_readInto_20 N ρ this a1 n) x2 x3 σ
def f_X7_readInto (N : Nat) (ρ : Nat → Nat → Nat) (this : Nat) (a1 : Nat) (σ : St) : Option (Int32 × St) :=
  bnd (f_X0_clear N ρ a1 σ) fun _ σ14 =>
  nmd (sI σ14 this 4 0) fun σ16 =>
  bnd (f_X5_begin N ρ (ρ this 1) σ16) fun _ σ18 =>
  f_X7_readInto_20 N ρ this a1 N 1 0 σ18
set_option maxRecDepth 100000 in
set_option maxHeartbeats 4000000 in
theorem w_X7_readInto_68 {N : Nat} {Γ : SG} {ρ : Nat → Nat → Nat} (hs : Sh Γ ρ) {this : Nat} {a1 : Nat} (h0 : Γ[this]? = some (0, 7)) (h1 : Γ[a1]? = some (0, 0)) {n0 : Nat} {r : Int32} {σr : St} (rec20 : Int32 → Int32 → St → Option (Int32 × St)) (hrec20 : ∀ (x2 : Int32) (x3 : Int32) (σ : St), rec20 x2 x3 σ = some (r, σr) → Go mX7_readInto 803 0 0 n0 (Ki Γ ρ r σr) 0 0 20 [some (.ref this), some (.ref a1), some (.int x2), some (.int x3)] [] (hp Γ ρ σ)) (x3 : Int32) (s0 : Int32) (σ : St) (hf : f_X7_readInto_68 N ρ this a1 rec20 x3 s0 σ = some (r, σr)) : Go mX7_readInto 803 0 0 n0 (Ki Γ ρ r σr) 0 0 68 [some (.ref this), some (.ref a1), none, some (.int x3)] [.int s0] (hp Γ ρ σ) := by
  unfold f_X7_readInto_68 at hf
  refine go_istore_n 2 [some (.ref this), some (.ref a1), some (.int s0), some (.int x3)] dX7_readInto_68 rfl (by decide) rfl ?_
  refine go_iinc (x3 + 1) [some (.ref this), some (.ref a1), some (.int s0), some (.int (x3 + 1))] dX7_readInto_69 rfl rfl (by decide) rfl ?_
  refine go_goto 20 dX7_readInto_72 (by decide) ?_
  exact hrec20 s0 (x3 + 1) σ hf
set_option maxRecDepth 100000 in
set_option maxHeartbeats 4000000 in
theorem w_X7_readInto_67 {N : Nat} {Γ : SG} {ρ : Nat → Nat → Nat} (hs : Sh Γ ρ) {this : Nat} {a1 : Nat} (h0 : Γ[this]? = some (0, 7)) (h1 : Γ[a1]? = some (0, 0)) {n0 : Nat} {r : Int32} {σr : St} (rec20 : Int32 → Int32 → St → Option (Int32 × St)) (hrec20 : ∀ (x2 : Int32) (x3 : Int32) (σ : St), rec20 x2 x3 σ = some (r, σr) → Go mX7_readInto 803 0 0 n0 (Ki Γ ρ r σr) 0 0 20 [some (.ref this), some (.ref a1), some (.int x2), some (.int x3)] [] (hp Γ ρ σ)) (x3 : Int32) (σ : St) (hf : f_X7_readInto_67 N ρ this a1 rec20 x3 σ = some (r, σr)) : Go mX7_readInto 803 0 0 n0 (Ki Γ ρ r σr) 0 0 67 [some (.ref this), some (.ref a1), none, some (.int x3)] [] (hp Γ ρ σ) := by
  unfold f_X7_readInto_67 at hf
  refine go_iconst 0 dX7_readInto_67 (by decide) ?_
  exact w_X7_readInto_68 hs h0 h1 rec20 hrec20 x3 0 σ hf
set_option maxRecDepth 100000 in
set_option maxHeartbeats 4000000 in
theorem w_X7_readInto_75 {N : Nat} {Γ : SG} {ρ : Nat → Nat → Nat} (hs : Sh Γ ρ) {this : Nat} {a1 : Nat} (h0 : Γ[this]? = some (0, 7)) (h1 : Γ[a1]? = some (0, 0)) {n0 : Nat} {r : Int32} {σr : St} (x2 : Int32) (σ : St) (hf : f_X7_readInto_75 N ρ this a1 x2 σ = some (r, σr)) : Go mX7_readInto 803 0 0 n0 (Ki Γ ρ r σr) 0 0 75 [none, none, some (.int x2), none] [] (hp Γ ρ σ) := by
  unfold f_X7_readInto_75 at hf
  refine go_iload_n 2 dX7_readInto_75 rfl rfl ?_
  obtain ⟨g1, hf⟩ := gd_some hf
  cases hf
  exact go_zret rfl (bb_of g1) dX7_readInto_76 (Nat.le_refl _) ⟨rfl, rfl⟩
set_option maxRecDepth 100000 in
set_option maxHeartbeats 4000000 in
theorem v_X7_readInto_20 {N : Nat} {Γ : SG} {ρ : Nat → Nat → Nat} (hs : Sh Γ ρ) {this : Nat} {a1 : Nat} (h0 : Γ[this]? = some (0, 7)) (h1 : Γ[a1]? = some (0, 0)) {n0 : Nat} {r : Int32} {σr : St} (rec20 : Int32 → Int32 → St → Option (Int32 × St)) (hrec20 : ∀ (x2 : Int32) (x3 : Int32) (σ : St), rec20 x2 x3 σ = some (r, σr) → Go mX7_readInto 803 0 0 n0 (Ki Γ ρ r σr) 0 0 20 [some (.ref this), some (.ref a1), some (.int x2), some (.int x3)] [] (hp Γ ρ σ)) (x2 : Int32) (x3 : Int32) (σ : St) (hf : b_X7_readInto_20 N ρ this a1 rec20 x2 x3 σ = some (r, σr)) : Go mX7_readInto 803 0 0 n0 (Ki Γ ρ r σr) 0 0 20 [some (.ref this), some (.ref a1), some (.int x2), some (.int x3)] [] (hp Γ ρ σ) := by
  unfold b_X7_readInto_20 at hf
  refine go_iload_n 2 dX7_readInto_20 rfl rfl ?_
  refine go_if_eq 75 dX7_readInto_21 (by decide) (fun c2 => ?_) (fun c2 => ?_)
  · replace hf := (if_pos c2).symm.trans hf
    refine go_msk [false, false, true, false] [none, none, some (.int x2), none] rfl ?_
    exact w_X7_readInto_75 hs h0 h1 x2 σ hf
  · replace hf := (if_neg c2).symm.trans hf
    refine go_iload_n 3 dX7_readInto_24 rfl rfl ?_
    refine go_sipush 1600 dX7_readInto_25 (by decide) ?_
    refine go_icmp_ge 75 dX7_readInto_28 (by decide) (fun c3 => ?_) (fun c3 => ?_)
    · replace hf := (if_pos c3).symm.trans hf
      refine go_msk [false, false, true, false] [none, none, some (.int x2), none] rfl ?_
      exact w_X7_readInto_75 hs h0 h1 x2 σ hf
    · replace hf := (if_neg c3).symm.trans hf
      refine go_aload_n 0 dX7_readInto_31 rfl rfl ?_
      refine go_fR fl_X7_20 dX7_readInto_32 h0 (by decide) rfl ?_
      refine go_fI fl_X7_47 dX7_readInto_35 (hs.1 _ 7 1 h0 rfl) (by decide) rfl ?_
      refine go_bipush 102 dX7_readInto_38 (by decide) ?_
      refine go_icmp_eq 75 dX7_readInto_40 (by decide) (fun c4 => ?_) (fun c4 => ?_)
      · replace hf := (if_pos c4).symm.trans hf
        refine go_msk [false, false, true, false] [none, none, some (.int x2), none] rfl ?_
        exact w_X7_readInto_75 hs h0 h1 x2 σ hf
      · replace hf := (if_neg c4).symm.trans hf
        refine go_aload_n 0 dX7_readInto_43 rfl rfl ?_
        refine go_aload_n 1 dX7_readInto_44 rfl rfl ?_
        obtain ⟨r5, σ6, q7, hf⟩ := bnd_some hf
        refine go_Vi (av := [.ref a1]) (rest := []) (t_X7_line hs h0 h1 q7) ok_X7_line ml_X7_50 dX7_readInto_45 h0 rfl rfl (by decide) (Nat.le_refl _) (Nat.le_refl _) (Nat.le_of_ble_eq_true rfl) ?_
        refine go_if_eq 67 dX7_readInto_48 (by decide) (fun c8 => ?_) (fun c8 => ?_)
        · replace hf := (if_pos c8).symm.trans hf
          refine go_msk [true, true, false, true] [some (.ref this), some (.ref a1), none, some (.int x3)] rfl ?_
          exact w_X7_readInto_67 hs h0 h1 rec20 hrec20 x3 σ6 hf
        · replace hf := (if_neg c8).symm.trans hf
          refine go_aload_n 0 dX7_readInto_51 rfl rfl ?_
          refine go_fR fl_X7_20 dX7_readInto_52 h0 (by decide) rfl ?_
          refine go_bipush 59 dX7_readInto_55 (by decide) ?_
          obtain ⟨r9, σ10, q11, hf⟩ := bnd_some hf
          refine go_Vi (av := [.int 59]) (rest := []) (t_X5_pass hs (hs.1 _ 7 1 h0 rfl) q11) ok_X5_pass ml_X7_54 dX7_readInto_57 (hs.1 _ 7 1 h0 rfl) rfl rfl (by decide) (Nat.le_refl _) (Nat.le_refl _) (Nat.le_of_ble_eq_true rfl) ?_
          refine go_if_eq 67 dX7_readInto_60 (by decide) (fun c12 => ?_) (fun c12 => ?_)
          · replace hf := (if_pos c12).symm.trans hf
            refine go_msk [true, true, false, true] [some (.ref this), some (.ref a1), none, some (.int x3)] rfl ?_
            exact w_X7_readInto_67 hs h0 h1 rec20 hrec20 x3 σ10 hf
          · replace hf := (if_neg c12).symm.trans hf
            refine go_iconst 1 dX7_readInto_63 (by decide) ?_
            refine go_goto 68 dX7_readInto_64 (by decide) ?_
            refine go_msk [true, true, false, true] [some (.ref this), some (.ref a1), none, some (.int x3)] rfl ?_
            exact w_X7_readInto_68 hs h0 h1 rec20 hrec20 x3 1 σ10 hf
theorem w_X7_readInto_20 {N : Nat} {Γ : SG} {ρ : Nat → Nat → Nat} (hs : Sh Γ ρ) {this : Nat} {a1 : Nat} (h0 : Γ[this]? = some (0, 7)) (h1 : Γ[a1]? = some (0, 0)) {n0 : Nat} {r : Int32} {σr : St} : ∀ (n : Nat) (x2 : Int32) (x3 : Int32) (σ : St), f_X7_readInto_20 N ρ this a1 n x2 x3 σ = some (r, σr) → Go mX7_readInto 803 0 0 n0 (Ki Γ ρ r σr) 0 0 20 [some (.ref this), some (.ref a1), some (.int x2), some (.int x3)] [] (hp Γ ρ σ) := by
  intro n
  induction n with
  | zero => intro x2 x3 σ hf; cases hf
  | succ n ih => intro x2 x3 σ hf; exact v_X7_readInto_20 hs h0 h1 _ ih x2 x3 σ hf
set_option maxRecDepth 100000 in
set_option maxHeartbeats 4000000 in
theorem t_X7_readInto {N : Nat} {Γ : SG} {ρ : Nat → Nat → Nat} (hs : Sh Γ ρ) {this : Nat} {a1 : Nat} (h0 : Γ[this]? = some (0, 7)) (h1 : Γ[a1]? = some (0, 0)) {σ : St} {r : Int32} {σr : St} (hf : f_X7_readInto N ρ this a1 σ = some (r, σr)) : Tri mX7_readInto 803 0 0 [.ref this, .ref a1] (hp Γ ρ σ) (Ki Γ ρ r σr) := by
  unfold f_X7_readInto at hf
  refine tri_of [some (.ref this), some (.ref a1), none, none] (plainFor_of_name rfl) rfl (Nat.le_of_ble_eq_true rfl) ?_
  refine go_aload_n 1 dX7_readInto_0 rfl rfl ?_
  obtain ⟨r13, σ14, q15, hf⟩ := bnd_some hf
  refine go_Vv (av := []) (rest := []) (t_X0_clear hs h1 q15) ok_X0_clear ml_X7_37 dX7_readInto_1 h1 rfl rfl (by decide) (Nat.le_refl _) (Nat.le_refl _) (Nat.le_of_ble_eq_true rfl) ?_
  refine go_aload_n 0 dX7_readInto_4 rfl rfl ?_
  refine go_iconst 0 dX7_readInto_5 (by decide) ?_
  obtain ⟨σ16, eσ16, hf⟩ := nmd_some hf
  refine go_pI fl_X7_30 ft_7_4 (okv_i _) dX7_readInto_6 h0 (by decide) rfl ?_
  rw [eσ16]
  refine go_aload_n 0 dX7_readInto_9 rfl rfl ?_
  refine go_fR fl_X7_20 dX7_readInto_10 h0 (by decide) rfl ?_
  obtain ⟨r17, σ18, q19, hf⟩ := bnd_some hf
  refine go_Vv (av := []) (rest := []) (t_X5_begin hs (hs.1 _ 7 1 h0 rfl) q19) ok_X5_begin ml_X7_40 dX7_readInto_13 (hs.1 _ 7 1 h0 rfl) rfl rfl (by decide) (Nat.le_refl _) (Nat.le_refl _) (Nat.le_of_ble_eq_true rfl) ?_
  refine go_iconst 1 dX7_readInto_16 (by decide) ?_
  refine go_istore_n 2 [some (.ref this), some (.ref a1), some (.int 1), none] dX7_readInto_17 rfl (by decide) rfl ?_
  refine go_iconst 0 dX7_readInto_18 (by decide) ?_
  refine go_istore_n 3 [some (.ref this), some (.ref a1), some (.int 1), some (.int 0)] dX7_readInto_19 rfl (by decide) rfl ?_
  exact w_X7_readInto_20 hs h0 h1 N 1 0 σ18 hf
