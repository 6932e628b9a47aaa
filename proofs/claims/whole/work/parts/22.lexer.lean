def f_X5_takeNumber_129 (N : Nat) (ρ : Nat → Nat → Nat) (this : Nat) (s0 : Int32) (σ : St) : Option (Int32 × St) :=
  nmd (sI σ this 4 s0) fun σ1 =>
  some (0, σ1)
def f_X5_takeNumber_122 (N : Nat) (ρ : Nat → Nat → Nat) (this : Nat) (σ : St) : Option (Int32 × St) :=
  f_X5_takeNumber_129 N ρ this 103 σ
def f_X5_takeNumber_106 (N : Nat) (ρ : Nat → Nat → Nat) (this : Nat) (x2 : Int32) (s0 : Int32) (σ : St) : Option (Int32 × St) :=
  if (s0 : Int32) = 0 then
    if (x2 - (σ.1 this 3) : Int32) ≤ 4 then
      f_X5_takeNumber_129 N ρ this 100 σ
    else
      f_X5_takeNumber_122 N ρ this σ
  else
    f_X5_takeNumber_122 N ρ this σ
def f_X5_takeNumber_105 (N : Nat) (ρ : Nat → Nat → Nat) (this : Nat) (x2 : Int32) (σ : St) : Option (Int32 × St) :=
  f_X5_takeNumber_106 N ρ this x2 0 σ
def f_X5_takeNumber_69 (N : Nat) (ρ : Nat → Nat → Nat) (this : Nat) (x2 : Int32) (σ : St) : Option (Int32 × St) :=
  nmd (sI σ this 2 x2) fun σ4 =>
  if (σ4.1 (ρ this 0) 1) ≤ (x2 : Int32) then
    f_X5_takeNumber_105 N ρ this x2 σ4
  else
    gd (ib x2 1600) <|
    if (σ4.1 (ρ (ρ this 0) 0) x2.toNatClampNeg : Int32) < 97 then
      f_X5_takeNumber_105 N ρ this x2 σ4
    else
      gd (ib x2 1600) <|
      if 122 < (σ4.1 (ρ (ρ this 0) 0) x2.toNatClampNeg : Int32) then
        f_X5_takeNumber_105 N ρ this x2 σ4
      else
        f_X5_takeNumber_106 N ρ this x2 1 σ4
def b_X5_takeNumber_18 (N : Nat) (ρ : Nat → Nat → Nat) (this : Nat) (rec18 : Int32 → St → Option (Int32 × St)) (x2 : Int32) (σ : St) : Option (Int32 × St) :=
  if (σ.1 (ρ this 0) 1) ≤ (x2 : Int32) then
    f_X5_takeNumber_69 N ρ this x2 σ
  else
    gd (ib x2 1600) <|
    if (σ.1 (ρ (ρ this 0) 0) x2.toNatClampNeg : Int32) < 48 then
      f_X5_takeNumber_69 N ρ this x2 σ
    else
      gd (ib x2 1600) <|
      if 57 < (σ.1 (ρ (ρ this 0) 0) x2.toNatClampNeg : Int32) then
        f_X5_takeNumber_69 N ρ this x2 σ
      else
        gd (ib x2 1600) <|
        nmd (sI σ this 5 (((σ.1 this 5) * 10) + ((σ.1 (ρ (ρ this 0) 0) x2.toNatClampNeg) - 48))) fun σ16 =>
        rec18 (x2 + 1) σ16
def f_X5_takeNumber_18 (N : Nat) (ρ : Nat → Nat → Nat) (this : Nat) : Nat → Int32 → St → Option (Int32 × St)
  | 0, _, _ => none
  | n + 1, x2, σ => b_X5_takeNumber_18 N ρ this (f_X5_takeNumber_18 N ρ this n) x2 σ
def f_X5_takeNumber (N : Nat) (ρ : Nat → Nat → Nat) (this : Nat) (σ : St) : Option (Int32 × St) :=
  nmd (σ.1 this 3) fun y17 =>
  nmd (sI σ this 5 0) fun σ18 =>
  f_X5_takeNumber_18 N ρ this N y17 σ18
set_option maxRecDepth 100000 in
set_option maxHeartbeats 4000000 in
theorem w_X5_takeNumber_129 {N : Nat} {Γ : SG} {ρ : Nat → Nat → Nat} (hs : Sh Γ ρ) {this : Nat} (h0 : Γ[this]? = some (0, 5)) {n0 : Nat} {r : Int32} {σr : St} (s0 : Int32) (σ : St) (hf : f_X5_takeNumber_129 N ρ this s0 σ = some (r, σr)) : Go mX5_takeNumber 0 0 0 n0 (Kv Γ ρ σr) 0 0 129 [none, none, none, none] [.int s0, .ref this] (hp Γ ρ σ) := by
  unfold f_X5_takeNumber_129 at hf
  obtain ⟨σ1, eσ1, hf⟩ := nmd_some hf
  refine go_pI fl_X5_29 ft_5_4 (okv_i _) dX5_takeNumber_129 h0 (by decide) rfl ?_
  rw [eσ1]
  cases hf
  exact go_vret rfl dX5_takeNumber_132 (Nat.le_refl _) ⟨rfl, rfl⟩
set_option maxRecDepth 100000 in
set_option maxHeartbeats 4000000 in
theorem w_X5_takeNumber_122 {N : Nat} {Γ : SG} {ρ : Nat → Nat → Nat} (hs : Sh Γ ρ) {this : Nat} (h0 : Γ[this]? = some (0, 5)) {n0 : Nat} {r : Int32} {σr : St} (σ : St) (hf : f_X5_takeNumber_122 N ρ this σ = some (r, σr)) : Go mX5_takeNumber 0 0 0 n0 (Kv Γ ρ σr) 0 0 122 [none, none, none, none] [.ref this] (hp Γ ρ σ) := by
  unfold f_X5_takeNumber_122 at hf
  refine go_bipush 103 dX5_takeNumber_122 (by decide) ?_
  refine go_goto 129 dX5_takeNumber_124 (by decide) ?_
  exact w_X5_takeNumber_129 hs h0 103 σ hf
set_option maxRecDepth 100000 in
set_option maxHeartbeats 4000000 in
theorem w_X5_takeNumber_106 {N : Nat} {Γ : SG} {ρ : Nat → Nat → Nat} (hs : Sh Γ ρ) {this : Nat} (h0 : Γ[this]? = some (0, 5)) {n0 : Nat} {r : Int32} {σr : St} (x2 : Int32) (s0 : Int32) (σ : St) (hf : f_X5_takeNumber_106 N ρ this x2 s0 σ = some (r, σr)) : Go mX5_takeNumber 0 0 0 n0 (Kv Γ ρ σr) 0 0 106 [some (.ref this), none, some (.int x2), none] [.int s0] (hp Γ ρ σ) := by
  unfold f_X5_takeNumber_106 at hf
  refine go_istore_n 3 [some (.ref this), none, some (.int x2), some (.int s0)] dX5_takeNumber_106 rfl (by decide) rfl ?_
  refine go_aload_n 0 dX5_takeNumber_107 rfl rfl ?_
  refine go_iload_n 3 dX5_takeNumber_108 rfl rfl ?_
  refine go_if_ne 122 dX5_takeNumber_109 (by decide) (fun c2 => ?_) (fun c2 => ?_)
  · replace hf := (if_neg c2).symm.trans hf
    refine go_msk [false, false, false, false] [none, none, none, none] rfl ?_
    exact w_X5_takeNumber_122 hs h0 σ hf
  · replace hf := (if_pos c2).symm.trans hf
    refine go_iload_n 2 dX5_takeNumber_112 rfl rfl ?_
    refine go_aload_n 0 dX5_takeNumber_113 rfl rfl ?_
    refine go_fI fl_X5_26 dX5_takeNumber_114 h0 (by decide) rfl ?_
    refine go_isub dX5_takeNumber_117 ?_
    refine go_iconst 4 dX5_takeNumber_118 (by decide) ?_
    refine go_icmp_le 127 dX5_takeNumber_119 (by decide) (fun c3 => ?_) (fun c3 => ?_)
    · replace hf := (if_pos c3).symm.trans hf
      refine go_bipush 100 dX5_takeNumber_127 (by decide) ?_
      refine go_msk [false, false, false, false] [none, none, none, none] rfl ?_
      exact w_X5_takeNumber_129 hs h0 100 σ hf
    · replace hf := (if_neg c3).symm.trans hf
      refine go_msk [false, false, false, false] [none, none, none, none] rfl ?_
      exact w_X5_takeNumber_122 hs h0 σ hf
set_option maxRecDepth 100000 in
set_option maxHeartbeats 4000000 in
theorem w_X5_takeNumber_105 {N : Nat} {Γ : SG} {ρ : Nat → Nat → Nat} (hs : Sh Γ ρ) {this : Nat} (h0 : Γ[this]? = some (0, 5)) {n0 : Nat} {r : Int32} {σr : St} (x2 : Int32) (σ : St) (hf : f_X5_takeNumber_105 N ρ this x2 σ = some (r, σr)) : Go mX5_takeNumber 0 0 0 n0 (Kv Γ ρ σr) 0 0 105 [some (.ref this), none, some (.int x2), none] [] (hp Γ ρ σ) := by
  unfold f_X5_takeNumber_105 at hf
  refine go_iconst 0 dX5_takeNumber_105 (by decide) ?_
  exact w_X5_takeNumber_106 hs h0 x2 0 σ hf
set_option maxRecDepth 100000 in
set_option maxHeartbeats 4000000 in
theorem w_X5_takeNumber_69 {N : Nat} {Γ : SG} {ρ : Nat → Nat → Nat} (hs : Sh Γ ρ) {this : Nat} (h0 : Γ[this]? = some (0, 5)) {n0 : Nat} {r : Int32} {σr : St} (x2 : Int32) (σ : St) (hf : f_X5_takeNumber_69 N ρ this x2 σ = some (r, σr)) : Go mX5_takeNumber 0 0 0 n0 (Kv Γ ρ σr) 0 0 69 [some (.ref this), some (.ref (ρ (ρ this 0) 0)), some (.int x2), none] [] (hp Γ ρ σ) := by
  unfold f_X5_takeNumber_69 at hf
  refine go_aload_n 0 dX5_takeNumber_69 rfl rfl ?_
  refine go_iload_n 2 dX5_takeNumber_70 rfl rfl ?_
  obtain ⟨σ4, eσ4, hf⟩ := nmd_some hf
  refine go_pI fl_X5_22 ft_5_2 (okv_i _) dX5_takeNumber_71 h0 (by decide) rfl ?_
  rw [eσ4]
  refine go_iload_n 2 dX5_takeNumber_74 rfl rfl ?_
  refine go_aload_n 0 dX5_takeNumber_75 rfl rfl ?_
  refine go_fR fl_X5_12 dX5_takeNumber_76 h0 (by decide) rfl ?_
  refine go_fI fl_X5_66 dX5_takeNumber_79 (hs.1 _ 5 0 h0 rfl) (by decide) rfl ?_
  refine go_icmp_ge 105 dX5_takeNumber_82 (by decide) (fun c5 => ?_) (fun c5 => ?_)
  · replace hf := (if_pos c5).symm.trans hf
    refine go_msk [true, false, true, false] [some (.ref this), none, some (.int x2), none] rfl ?_
    exact w_X5_takeNumber_105 hs h0 x2 σ4 hf
  · replace hf := (if_neg c5).symm.trans hf
    refine go_aload_n 1 dX5_takeNumber_85 rfl rfl ?_
    refine go_iload_n 2 dX5_takeNumber_86 rfl rfl ?_
    obtain ⟨g6, hf⟩ := gd_some hf
    refine go_rB dX5_takeNumber_87 (hs.1 _ 10 0 (hs.1 _ 5 0 h0 rfl) rfl) (ib_in g6) ?_
    refine go_bipush 97 dX5_takeNumber_88 (by decide) ?_
    refine go_icmp_lt 105 dX5_takeNumber_90 (by decide) (fun c7 => ?_) (fun c7 => ?_)
    · replace hf := (if_pos c7).symm.trans hf
      refine go_msk [true, false, true, false] [some (.ref this), none, some (.int x2), none] rfl ?_
      exact w_X5_takeNumber_105 hs h0 x2 σ4 hf
    · replace hf := (if_neg c7).symm.trans hf
      refine go_aload_n 1 dX5_takeNumber_93 rfl rfl ?_
      refine go_iload_n 2 dX5_takeNumber_94 rfl rfl ?_
      obtain ⟨g8, hf⟩ := gd_some hf
      refine go_rB dX5_takeNumber_95 (hs.1 _ 10 0 (hs.1 _ 5 0 h0 rfl) rfl) (ib_in g8) ?_
      refine go_bipush 122 dX5_takeNumber_96 (by decide) ?_
      refine go_icmp_gt 105 dX5_takeNumber_98 (by decide) (fun c9 => ?_) (fun c9 => ?_)
      · replace hf := (if_pos c9).symm.trans hf
        refine go_msk [true, false, true, false] [some (.ref this), none, some (.int x2), none] rfl ?_
        exact w_X5_takeNumber_105 hs h0 x2 σ4 hf
      · replace hf := (if_neg c9).symm.trans hf
        refine go_iconst 1 dX5_takeNumber_101 (by decide) ?_
        refine go_goto 106 dX5_takeNumber_102 (by decide) ?_
        refine go_msk [true, false, true, false] [some (.ref this), none, some (.int x2), none] rfl ?_
        exact w_X5_takeNumber_106 hs h0 x2 1 σ4 hf
set_option maxRecDepth 100000 in
set_option maxHeartbeats 4000000 in
theorem v_X5_takeNumber_18 {N : Nat} {Γ : SG} {ρ : Nat → Nat → Nat} (hs : Sh Γ ρ) {this : Nat} (h0 : Γ[this]? = some (0, 5)) {n0 : Nat} {r : Int32} {σr : St} (rec18 : Int32 → St → Option (Int32 × St)) (hrec18 : ∀ (x2 : Int32) (σ : St), rec18 x2 σ = some (r, σr) → Go mX5_takeNumber 0 0 0 n0 (Kv Γ ρ σr) 0 0 18 [some (.ref this), some (.ref (ρ (ρ this 0) 0)), some (.int x2), none] [] (hp Γ ρ σ)) (x2 : Int32) (σ : St) (hf : b_X5_takeNumber_18 N ρ this rec18 x2 σ = some (r, σr)) : Go mX5_takeNumber 0 0 0 n0 (Kv Γ ρ σr) 0 0 18 [some (.ref this), some (.ref (ρ (ρ this 0) 0)), some (.int x2), none] [] (hp Γ ρ σ) := by
  unfold b_X5_takeNumber_18 at hf
  refine go_iload_n 2 dX5_takeNumber_18 rfl rfl ?_
  refine go_aload_n 0 dX5_takeNumber_19 rfl rfl ?_
  refine go_fR fl_X5_12 dX5_takeNumber_20 h0 (by decide) rfl ?_
  refine go_fI fl_X5_66 dX5_takeNumber_23 (hs.1 _ 5 0 h0 rfl) (by decide) rfl ?_
  refine go_icmp_ge 69 dX5_takeNumber_26 (by decide) (fun c10 => ?_) (fun c10 => ?_)
  · replace hf := (if_pos c10).symm.trans hf
    exact w_X5_takeNumber_69 hs h0 x2 σ hf
  · replace hf := (if_neg c10).symm.trans hf
    refine go_aload_n 1 dX5_takeNumber_29 rfl rfl ?_
    refine go_iload_n 2 dX5_takeNumber_30 rfl rfl ?_
    obtain ⟨g11, hf⟩ := gd_some hf
    refine go_rB dX5_takeNumber_31 (hs.1 _ 10 0 (hs.1 _ 5 0 h0 rfl) rfl) (ib_in g11) ?_
    refine go_bipush 48 dX5_takeNumber_32 (by decide) ?_
    refine go_icmp_lt 69 dX5_takeNumber_34 (by decide) (fun c12 => ?_) (fun c12 => ?_)
    · replace hf := (if_pos c12).symm.trans hf
      exact w_X5_takeNumber_69 hs h0 x2 σ hf
    · replace hf := (if_neg c12).symm.trans hf
      refine go_aload_n 1 dX5_takeNumber_37 rfl rfl ?_
      refine go_iload_n 2 dX5_takeNumber_38 rfl rfl ?_
      obtain ⟨g13, hf⟩ := gd_some hf
      refine go_rB dX5_takeNumber_39 (hs.1 _ 10 0 (hs.1 _ 5 0 h0 rfl) rfl) (ib_in g13) ?_
      refine go_bipush 57 dX5_takeNumber_40 (by decide) ?_
      refine go_icmp_gt 69 dX5_takeNumber_42 (by decide) (fun c14 => ?_) (fun c14 => ?_)
      · replace hf := (if_pos c14).symm.trans hf
        exact w_X5_takeNumber_69 hs h0 x2 σ hf
      · replace hf := (if_neg c14).symm.trans hf
        refine go_aload_n 0 dX5_takeNumber_45 rfl rfl ?_
        refine go_aload_n 0 dX5_takeNumber_46 rfl rfl ?_
        refine go_fI fl_X5_32 dX5_takeNumber_47 h0 (by decide) rfl ?_
        refine go_bipush 10 dX5_takeNumber_50 (by decide) ?_
        refine go_imul dX5_takeNumber_52 ?_
        refine go_aload_n 1 dX5_takeNumber_53 rfl rfl ?_
        refine go_iload_n 2 dX5_takeNumber_54 rfl rfl ?_
        obtain ⟨g15, hf⟩ := gd_some hf
        refine go_rB dX5_takeNumber_55 (hs.1 _ 10 0 (hs.1 _ 5 0 h0 rfl) rfl) (ib_in g15) ?_
        refine go_bipush 48 dX5_takeNumber_56 (by decide) ?_
        refine go_isub dX5_takeNumber_58 ?_
        refine go_iadd dX5_takeNumber_59 ?_
        obtain ⟨σ16, eσ16, hf⟩ := nmd_some hf
        refine go_pI fl_X5_32 ft_5_5 (okv_i _) dX5_takeNumber_60 h0 (by decide) rfl ?_
        rw [eσ16]
        refine go_iinc (x2 + 1) [some (.ref this), some (.ref (ρ (ρ this 0) 0)), some (.int (x2 + 1)), none] dX5_takeNumber_63 rfl rfl (by decide) rfl ?_
        refine go_goto 18 dX5_takeNumber_66 (by decide) ?_
        exact hrec18 (x2 + 1) σ16 hf
theorem w_X5_takeNumber_18 {N : Nat} {Γ : SG} {ρ : Nat → Nat → Nat} (hs : Sh Γ ρ) {this : Nat} (h0 : Γ[this]? = some (0, 5)) {n0 : Nat} {r : Int32} {σr : St} : ∀ (n : Nat) (x2 : Int32) (σ : St), f_X5_takeNumber_18 N ρ this n x2 σ = some (r, σr) → Go mX5_takeNumber 0 0 0 n0 (Kv Γ ρ σr) 0 0 18 [some (.ref this), some (.ref (ρ (ρ this 0) 0)), some (.int x2), none] [] (hp Γ ρ σ) := by
  intro n
  induction n with
  | zero => intro x2 σ hf; cases hf
  | succ n ih => intro x2 σ hf; exact v_X5_takeNumber_18 hs h0 _ ih x2 σ hf
set_option maxRecDepth 100000 in
set_option maxHeartbeats 4000000 in
theorem t_X5_takeNumber {N : Nat} {Γ : SG} {ρ : Nat → Nat → Nat} (hs : Sh Γ ρ) {this : Nat} (h0 : Γ[this]? = some (0, 5)) {σ : St} {r : Int32} {σr : St} (hf : f_X5_takeNumber N ρ this σ = some (r, σr)) : Tri mX5_takeNumber 0 0 0 [.ref this] (hp Γ ρ σ) (Kv Γ ρ σr) := by
  unfold f_X5_takeNumber at hf
  refine tri_of [some (.ref this), none, none, none] (plainFor_of_name rfl) rfl (Nat.le_of_ble_eq_true rfl) ?_
  refine go_aload_n 0 dX5_takeNumber_0 rfl rfl ?_
  refine go_fR fl_X5_12 dX5_takeNumber_1 h0 (by decide) rfl ?_
  refine go_fR fl_X5_62 dX5_takeNumber_4 (hs.1 _ 5 0 h0 rfl) (by decide) rfl ?_
  refine go_astore_n 1 [some (.ref this), some (.ref (ρ (ρ this 0) 0)), none, none] dX5_takeNumber_7 rfl (by decide) rfl ?_
  refine go_aload_n 0 dX5_takeNumber_8 rfl rfl ?_
  refine go_fI fl_X5_26 dX5_takeNumber_9 h0 (by decide) rfl ?_
  obtain ⟨y17, ey17, hf⟩ := nmd_some hf
  refine go_nm ey17 ?_
  refine go_istore_n 2 [some (.ref this), some (.ref (ρ (ρ this 0) 0)), some (.int y17), none] dX5_takeNumber_12 rfl (by decide) rfl ?_
  refine go_aload_n 0 dX5_takeNumber_13 rfl rfl ?_
  refine go_iconst 0 dX5_takeNumber_14 (by decide) ?_
  obtain ⟨σ18, eσ18, hf⟩ := nmd_some hf
  refine go_pI fl_X5_32 ft_5_5 (okv_i _) dX5_takeNumber_15 h0 (by decide) rfl ?_
  rw [eσ18]
  exact w_X5_takeNumber_18 hs h0 N y17 σ18 hf
def f_X5_takeWord_137 (N : Nat) (ρ : Nat → Nat → Nat) (this : Nat) (rec100 : Int32 → St → Option (Int32 × St)) (x3 : Int32) (σ : St) : Option (Int32 × St) :=
  rec100 (x3 + 1) σ
def f_X5_takeWord_143 (N : Nat) (ρ : Nat → Nat → Nat) (this : Nat) (σ : St) : Option (Int32 × St) :=
  some (0, σ)
def b_X5_takeWord_100 (N : Nat) (ρ : Nat → Nat → Nat) (this : Nat) (rec100 : Int32 → St → Option (Int32 × St)) (x3 : Int32) (σ : St) : Option (Int32 × St) :=
  if (σ.1 this 4 : Int32) = 101 then
    if (nI 20) ≤ (x3 : Int32) then
      f_X5_takeWord_143 N ρ this σ
    else
      gd (ib x3 20) <|
      if (lg_cmp (σ.2 (ρ this 1) x3.toNatClampNeg) (σ.2 this 6) : Int32) = 0 then
        nmd (sI σ this 4 x3) fun σ5 =>
        f_X5_takeWord_137 N ρ this rec100 x3 σ5
      else
        f_X5_takeWord_137 N ρ this rec100 x3 σ
  else
    f_X5_takeWord_143 N ρ this σ
def f_X5_takeWord_100 (N : Nat) (ρ : Nat → Nat → Nat) (this : Nat) : Nat → Int32 → St → Option (Int32 × St)
  | 0, _, _ => none
  | n + 1, x3, σ => b_X5_takeWord_100 N ρ this (f_X5_takeWord_100 N ρ this n) x3 σ
def f_X5_takeWord_95 (N : Nat) (ρ : Nat → Nat → Nat) (this : Nat) (s0 : Int32) (σ : St) : Option (Int32 × St) :=
  nmd (sI σ this 4 s0) fun σ6 =>
  f_X5_takeWord_100 N ρ this N 1 σ6
def f_X5_takeWord_71 (N : Nat) (ρ : Nat → Nat → Nat) (this : Nat) (x2 : Int32) (σ : St) : Option (Int32 × St) :=
  nmd (sI σ this 2 x2) fun σ7 =>
  if (x2 - (σ7.1 this 3) : Int32) ≤ 8 then
    f_X5_takeWord_95 N ρ this 101 σ7
  else
    f_X5_takeWord_95 N ρ this 103 σ7
def b_X5_takeWord_18 (N : Nat) (ρ : Nat → Nat → Nat) (this : Nat) (rec18 : Int32 → St → Option (Int32 × St)) (x2 : Int32) (σ : St) : Option (Int32 × St) :=
  if (σ.1 (ρ this 0) 1) ≤ (x2 : Int32) then
    f_X5_takeWord_71 N ρ this x2 σ
  else
    gd (ib x2 1600) <|
    if (σ.1 (ρ (ρ this 0) 0) x2.toNatClampNeg : Int32) < 97 then
      f_X5_takeWord_71 N ρ this x2 σ
    else
      gd (ib x2 1600) <|
      if 122 < (σ.1 (ρ (ρ this 0) 0) x2.toNatClampNeg : Int32) then
        f_X5_takeWord_71 N ρ this x2 σ
      else
        gd (ib x2 1600) <|
        nmd (sJ σ this 6 (((σ.2 this 6) * (32)) + (((σ.1 (ρ (ρ this 0) 0) x2.toNatClampNeg) - 96).toInt64))) fun σ15 =>
        rec18 (x2 + 1) σ15
def f_X5_takeWord_18 (N : Nat) (ρ : Nat → Nat → Nat) (this : Nat) : Nat → Int32 → St → Option (Int32 × St)
  | 0, _, _ => none
  | n + 1, x2, σ => b_X5_takeWord_18 N ρ this (f_X5_takeWord_18 N ρ this n) x2 σ
def f_X5_takeWord (N : Nat) (ρ : Nat → Nat → Nat) (this : Nat) (σ : St) : Option (Int32 × St) :=
  nmd (σ.1 this 3) fun y16 =>
  nmd (sJ σ this 6 0) fun σ17 =>
  f_X5_takeWord_18 N ρ this N y16 σ17
set_option maxRecDepth 100000 in
set_option maxHeartbeats 4000000 in
theorem w_X5_takeWord_137 {N : Nat} {Γ : SG} {ρ : Nat → Nat → Nat} (hs : Sh Γ ρ) {this : Nat} (h0 : Γ[this]? = some (0, 5)) {n0 : Nat} {r : Int32} {σr : St} (rec100 : Int32 → St → Option (Int32 × St)) (hrec100 : ∀ (x3 : Int32) (σ : St), rec100 x3 σ = some (r, σr) → Go mX5_takeWord 0 0 0 n0 (Kv Γ ρ σr) 0 0 100 [some (.ref this), none, none, some (.int x3)] [] (hp Γ ρ σ)) (x3 : Int32) (σ : St) (hf : f_X5_takeWord_137 N ρ this rec100 x3 σ = some (r, σr)) : Go mX5_takeWord 0 0 0 n0 (Kv Γ ρ σr) 0 0 137 [some (.ref this), none, none, some (.int x3)] [] (hp Γ ρ σ) := by
  unfold f_X5_takeWord_137 at hf
  refine go_iinc (x3 + 1) [some (.ref this), none, none, some (.int (x3 + 1))] dX5_takeWord_137 rfl rfl (by decide) rfl ?_
  refine go_goto 100 dX5_takeWord_140 (by decide) ?_
  exact hrec100 (x3 + 1) σ hf
set_option maxRecDepth 100000 in
set_option maxHeartbeats 4000000 in
theorem w_X5_takeWord_143 {N : Nat} {Γ : SG} {ρ : Nat → Nat → Nat} (hs : Sh Γ ρ) {this : Nat} (h0 : Γ[this]? = some (0, 5)) {n0 : Nat} {r : Int32} {σr : St} (σ : St) (hf : f_X5_takeWord_143 N ρ this σ = some (r, σr)) : Go mX5_takeWord 0 0 0 n0 (Kv Γ ρ σr) 0 0 143 [none, none, none, none] [] (hp Γ ρ σ) := by
  unfold f_X5_takeWord_143 at hf
  cases hf
  exact go_vret rfl dX5_takeWord_143 (Nat.le_refl _) ⟨rfl, rfl⟩
set_option maxRecDepth 100000 in
set_option maxHeartbeats 4000000 in
theorem v_X5_takeWord_100 {N : Nat} {Γ : SG} {ρ : Nat → Nat → Nat} (hs : Sh Γ ρ) {this : Nat} (h0 : Γ[this]? = some (0, 5)) {n0 : Nat} {r : Int32} {σr : St} (rec100 : Int32 → St → Option (Int32 × St)) (hrec100 : ∀ (x3 : Int32) (σ : St), rec100 x3 σ = some (r, σr) → Go mX5_takeWord 0 0 0 n0 (Kv Γ ρ σr) 0 0 100 [some (.ref this), none, none, some (.int x3)] [] (hp Γ ρ σ)) (x3 : Int32) (σ : St) (hf : b_X5_takeWord_100 N ρ this rec100 x3 σ = some (r, σr)) : Go mX5_takeWord 0 0 0 n0 (Kv Γ ρ σr) 0 0 100 [some (.ref this), none, none, some (.int x3)] [] (hp Γ ρ σ) := by
  unfold b_X5_takeWord_100 at hf
  refine go_aload_n 0 dX5_takeWord_100 rfl rfl ?_
  refine go_fI fl_X5_29 dX5_takeWord_101 h0 (by decide) rfl ?_
  refine go_bipush 101 dX5_takeWord_104 (by decide) ?_
  refine go_icmp_ne 143 dX5_takeWord_106 (by decide) (fun c1 => ?_) (fun c1 => ?_)
  · replace hf := (if_neg c1).symm.trans hf
    refine go_msk [false, false, false, false] [none, none, none, none] rfl ?_
    exact w_X5_takeWord_143 hs h0 σ hf
  · replace hf := (if_pos c1).symm.trans hf
    refine go_iload_n 3 dX5_takeWord_109 rfl rfl ?_
    refine go_aload_n 0 dX5_takeWord_110 rfl rfl ?_
    refine go_fR fl_X5_18 dX5_takeWord_111 h0 (by decide) rfl ?_
    refine go_len dX5_takeWord_114 (hs.1 _ 5 1 h0 rfl) (by decide) ?_
    refine go_icmp_ge 143 dX5_takeWord_115 (by decide) (fun c2 => ?_) (fun c2 => ?_)
    · replace hf := (if_pos c2).symm.trans hf
      refine go_msk [false, false, false, false] [none, none, none, none] rfl ?_
      exact w_X5_takeWord_143 hs h0 σ hf
    · replace hf := (if_neg c2).symm.trans hf
      refine go_aload_n 0 dX5_takeWord_118 rfl rfl ?_
      refine go_fR fl_X5_18 dX5_takeWord_119 h0 (by decide) rfl ?_
      refine go_iload_n 3 dX5_takeWord_122 rfl rfl ?_
      obtain ⟨g3, hf⟩ := gd_some hf
      refine go_rJ dX5_takeWord_123 (hs.1 _ 5 1 h0 rfl) (ib_in g3) ?_
      refine go_aload_n 0 dX5_takeWord_124 rfl rfl ?_
      refine go_fJ fl_X5_35 dX5_takeWord_125 h0 (by decide) rfl ?_
      refine go_lcmp dX5_takeWord_128 ?_
      refine go_if_ne 137 dX5_takeWord_129 (by decide) (fun c4 => ?_) (fun c4 => ?_)
      · replace hf := (if_neg c4).symm.trans hf
        exact w_X5_takeWord_137 hs h0 rec100 hrec100 x3 σ hf
      · replace hf := (if_pos c4).symm.trans hf
        refine go_aload_n 0 dX5_takeWord_132 rfl rfl ?_
        refine go_iload_n 3 dX5_takeWord_133 rfl rfl ?_
        obtain ⟨σ5, eσ5, hf⟩ := nmd_some hf
        refine go_pI fl_X5_29 ft_5_4 (okv_i _) dX5_takeWord_134 h0 (by decide) rfl ?_
        rw [eσ5]
        exact w_X5_takeWord_137 hs h0 rec100 hrec100 x3 σ5 hf
theorem w_X5_takeWord_100 {N : Nat} {Γ : SG} {ρ : Nat → Nat → Nat} (hs : Sh Γ ρ) {this : Nat} (h0 : Γ[this]? = some (0, 5)) {n0 : Nat} {r : Int32} {σr : St} : ∀ (n : Nat) (x3 : Int32) (σ : St), f_X5_takeWord_100 N ρ this n x3 σ = some (r, σr) → Go mX5_takeWord 0 0 0 n0 (Kv Γ ρ σr) 0 0 100 [some (.ref this), none, none, some (.int x3)] [] (hp Γ ρ σ) := by
  intro n
  induction n with
  | zero => intro x3 σ hf; cases hf
  | succ n ih => intro x3 σ hf; exact v_X5_takeWord_100 hs h0 _ ih x3 σ hf
set_option maxRecDepth 100000 in
set_option maxHeartbeats 4000000 in
theorem w_X5_takeWord_95 {N : Nat} {Γ : SG} {ρ : Nat → Nat → Nat} (hs : Sh Γ ρ) {this : Nat} (h0 : Γ[this]? = some (0, 5)) {n0 : Nat} {r : Int32} {σr : St} (s0 : Int32) (σ : St) (hf : f_X5_takeWord_95 N ρ this s0 σ = some (r, σr)) : Go mX5_takeWord 0 0 0 n0 (Kv Γ ρ σr) 0 0 95 [some (.ref this), none, none, none] [.int s0, .ref this] (hp Γ ρ σ) := by
  unfold f_X5_takeWord_95 at hf
  obtain ⟨σ6, eσ6, hf⟩ := nmd_some hf
  refine go_pI fl_X5_29 ft_5_4 (okv_i _) dX5_takeWord_95 h0 (by decide) rfl ?_
  rw [eσ6]
  refine go_iconst 1 dX5_takeWord_98 (by decide) ?_
  refine go_istore_n 3 [some (.ref this), none, none, some (.int 1)] dX5_takeWord_99 rfl (by decide) rfl ?_
  exact w_X5_takeWord_100 hs h0 N 1 σ6 hf
set_option maxRecDepth 100000 in
set_option maxHeartbeats 4000000 in
theorem w_X5_takeWord_71 {N : Nat} {Γ : SG} {ρ : Nat → Nat → Nat} (hs : Sh Γ ρ) {this : Nat} (h0 : Γ[this]? = some (0, 5)) {n0 : Nat} {r : Int32} {σr : St} (x2 : Int32) (σ : St) (hf : f_X5_takeWord_71 N ρ this x2 σ = some (r, σr)) : Go mX5_takeWord 0 0 0 n0 (Kv Γ ρ σr) 0 0 71 [some (.ref this), none, some (.int x2), none] [] (hp Γ ρ σ) := by
  unfold f_X5_takeWord_71 at hf
  refine go_aload_n 0 dX5_takeWord_71 rfl rfl ?_
  refine go_iload_n 2 dX5_takeWord_72 rfl rfl ?_
  obtain ⟨σ7, eσ7, hf⟩ := nmd_some hf
  refine go_pI fl_X5_22 ft_5_2 (okv_i _) dX5_takeWord_73 h0 (by decide) rfl ?_
  rw [eσ7]
  refine go_aload_n 0 dX5_takeWord_76 rfl rfl ?_
  refine go_iload_n 2 dX5_takeWord_77 rfl rfl ?_
  refine go_aload_n 0 dX5_takeWord_78 rfl rfl ?_
  refine go_fI fl_X5_26 dX5_takeWord_79 h0 (by decide) rfl ?_
  refine go_isub dX5_takeWord_82 ?_
  refine go_bipush 8 dX5_takeWord_83 (by decide) ?_
  refine go_icmp_le 93 dX5_takeWord_85 (by decide) (fun c8 => ?_) (fun c8 => ?_)
  · replace hf := (if_pos c8).symm.trans hf
    refine go_bipush 101 dX5_takeWord_93 (by decide) ?_
    refine go_msk [true, false, false, false] [some (.ref this), none, none, none] rfl ?_
    exact w_X5_takeWord_95 hs h0 101 σ7 hf
  · replace hf := (if_neg c8).symm.trans hf
    refine go_bipush 103 dX5_takeWord_88 (by decide) ?_
    refine go_goto 95 dX5_takeWord_90 (by decide) ?_
    refine go_msk [true, false, false, false] [some (.ref this), none, none, none] rfl ?_
    exact w_X5_takeWord_95 hs h0 103 σ7 hf
set_option maxRecDepth 100000 in
set_option maxHeartbeats 4000000 in
theorem v_X5_takeWord_18 {N : Nat} {Γ : SG} {ρ : Nat → Nat → Nat} (hs : Sh Γ ρ) {this : Nat} (h0 : Γ[this]? = some (0, 5)) {n0 : Nat} {r : Int32} {σr : St} (rec18 : Int32 → St → Option (Int32 × St)) (hrec18 : ∀ (x2 : Int32) (σ : St), rec18 x2 σ = some (r, σr) → Go mX5_takeWord 0 0 0 n0 (Kv Γ ρ σr) 0 0 18 [some (.ref this), some (.ref (ρ (ρ this 0) 0)), some (.int x2), none] [] (hp Γ ρ σ)) (x2 : Int32) (σ : St) (hf : b_X5_takeWord_18 N ρ this rec18 x2 σ = some (r, σr)) : Go mX5_takeWord 0 0 0 n0 (Kv Γ ρ σr) 0 0 18 [some (.ref this), some (.ref (ρ (ρ this 0) 0)), some (.int x2), none] [] (hp Γ ρ σ) := by
  unfold b_X5_takeWord_18 at hf
  refine go_iload_n 2 dX5_takeWord_18 rfl rfl ?_
  refine go_aload_n 0 dX5_takeWord_19 rfl rfl ?_
  refine go_fR fl_X5_12 dX5_takeWord_20 h0 (by decide) rfl ?_
  refine go_fI fl_X5_66 dX5_takeWord_23 (hs.1 _ 5 0 h0 rfl) (by decide) rfl ?_
  refine go_icmp_ge 71 dX5_takeWord_26 (by decide) (fun c9 => ?_) (fun c9 => ?_)
  · replace hf := (if_pos c9).symm.trans hf
    refine go_msk [true, false, true, false] [some (.ref this), none, some (.int x2), none] rfl ?_
    exact w_X5_takeWord_71 hs h0 x2 σ hf
  · replace hf := (if_neg c9).symm.trans hf
    refine go_aload_n 1 dX5_takeWord_29 rfl rfl ?_
    refine go_iload_n 2 dX5_takeWord_30 rfl rfl ?_
    obtain ⟨g10, hf⟩ := gd_some hf
    refine go_rB dX5_takeWord_31 (hs.1 _ 10 0 (hs.1 _ 5 0 h0 rfl) rfl) (ib_in g10) ?_
    refine go_bipush 97 dX5_takeWord_32 (by decide) ?_
    refine go_icmp_lt 71 dX5_takeWord_34 (by decide) (fun c11 => ?_) (fun c11 => ?_)
    · replace hf := (if_pos c11).symm.trans hf
      refine go_msk [true, false, true, false] [some (.ref this), none, some (.int x2), none] rfl ?_
      exact w_X5_takeWord_71 hs h0 x2 σ hf
    · replace hf := (if_neg c11).symm.trans hf
      refine go_aload_n 1 dX5_takeWord_37 rfl rfl ?_
      refine go_iload_n 2 dX5_takeWord_38 rfl rfl ?_
      obtain ⟨g12, hf⟩ := gd_some hf
      refine go_rB dX5_takeWord_39 (hs.1 _ 10 0 (hs.1 _ 5 0 h0 rfl) rfl) (ib_in g12) ?_
      refine go_bipush 122 dX5_takeWord_40 (by decide) ?_
      refine go_icmp_gt 71 dX5_takeWord_42 (by decide) (fun c13 => ?_) (fun c13 => ?_)
      · replace hf := (if_pos c13).symm.trans hf
        refine go_msk [true, false, true, false] [some (.ref this), none, some (.int x2), none] rfl ?_
        exact w_X5_takeWord_71 hs h0 x2 σ hf
      · replace hf := (if_neg c13).symm.trans hf
        refine go_aload_n 0 dX5_takeWord_45 rfl rfl ?_
        refine go_aload_n 0 dX5_takeWord_46 rfl rfl ?_
        refine go_fJ fl_X5_35 dX5_takeWord_47 h0 (by decide) rfl ?_
        refine go_ldc2 (32) dX5_takeWord_50 cn_X5_57 ?_
        refine go_lmul dX5_takeWord_53 ?_
        refine go_aload_n 1 dX5_takeWord_54 rfl rfl ?_
        refine go_iload_n 2 dX5_takeWord_55 rfl rfl ?_
        obtain ⟨g14, hf⟩ := gd_some hf
        refine go_rB dX5_takeWord_56 (hs.1 _ 10 0 (hs.1 _ 5 0 h0 rfl) rfl) (ib_in g14) ?_
        refine go_bipush 96 dX5_takeWord_57 (by decide) ?_
        refine go_isub dX5_takeWord_59 ?_
        refine go_i2l dX5_takeWord_60 ?_
        refine go_ladd dX5_takeWord_61 ?_
        obtain ⟨σ15, eσ15, hf⟩ := nmd_some hf
        refine go_pJ fl_X5_35 ft_5_6 dX5_takeWord_62 h0 (by decide) rfl ?_
        rw [eσ15]
        refine go_iinc (x2 + 1) [some (.ref this), some (.ref (ρ (ρ this 0) 0)), some (.int (x2 + 1)), none] dX5_takeWord_65 rfl rfl (by decide) rfl ?_
        refine go_goto 18 dX5_takeWord_68 (by decide) ?_
        exact hrec18 (x2 + 1) σ15 hf
theorem w_X5_takeWord_18 {N : Nat} {Γ : SG} {ρ : Nat → Nat → Nat} (hs : Sh Γ ρ) {this : Nat} (h0 : Γ[this]? = some (0, 5)) {n0 : Nat} {r : Int32} {σr : St} : ∀ (n : Nat) (x2 : Int32) (σ : St), f_X5_takeWord_18 N ρ this n x2 σ = some (r, σr) → Go mX5_takeWord 0 0 0 n0 (Kv Γ ρ σr) 0 0 18 [some (.ref this), some (.ref (ρ (ρ this 0) 0)), some (.int x2), none] [] (hp Γ ρ σ) := by
  intro n
  induction n with
  | zero => intro x2 σ hf; cases hf
  | succ n ih => intro x2 σ hf; exact v_X5_takeWord_18 hs h0 _ ih x2 σ hf
set_option maxRecDepth 100000 in
set_option maxHeartbeats 4000000 in
theorem t_X5_takeWord {N : Nat} {Γ : SG} {ρ : Nat → Nat → Nat} (hs : Sh Γ ρ) {this : Nat} (h0 : Γ[this]? = some (0, 5)) {σ : St} {r : Int32} {σr : St} (hf : f_X5_takeWord N ρ this σ = some (r, σr)) : Tri mX5_takeWord 0 0 0 [.ref this] (hp Γ ρ σ) (Kv Γ ρ σr) := by
  unfold f_X5_takeWord at hf
  refine tri_of [some (.ref this), none, none, none] (plainFor_of_name rfl) rfl (Nat.le_of_ble_eq_true rfl) ?_
  refine go_aload_n 0 dX5_takeWord_0 rfl rfl ?_
  refine go_fR fl_X5_12 dX5_takeWord_1 h0 (by decide) rfl ?_
  refine go_fR fl_X5_62 dX5_takeWord_4 (hs.1 _ 5 0 h0 rfl) (by decide) rfl ?_
  refine go_astore_n 1 [some (.ref this), some (.ref (ρ (ρ this 0) 0)), none, none] dX5_takeWord_7 rfl (by decide) rfl ?_
  refine go_aload_n 0 dX5_takeWord_8 rfl rfl ?_
  refine go_fI fl_X5_26 dX5_takeWord_9 h0 (by decide) rfl ?_
  obtain ⟨y16, ey16, hf⟩ := nmd_some hf
  refine go_nm ey16 ?_
  refine go_istore_n 2 [some (.ref this), some (.ref (ρ (ρ this 0) 0)), some (.int y16), none] dX5_takeWord_12 rfl (by decide) rfl ?_
  refine go_aload_n 0 dX5_takeWord_13 rfl rfl ?_
  refine go_lconst 0 dX5_takeWord_14 rfl ?_
  obtain ⟨σ17, eσ17, hf⟩ := nmd_some hf
  refine go_pJ fl_X5_35 ft_5_6 dX5_takeWord_15 h0 (by decide) rfl ?_
  rw [eσ17]
  exact w_X5_takeWord_18 hs h0 N y16 σ17 hf
def f_X5_refuse_15 (N : Nat) (ρ : Nat → Nat → Nat) (this : Nat) (a1 : Int32) (s0 : Int32) (σ : St) : Option (Int32 × St) :=
  nmd (sI σ this 7 s0) fun σ1 =>
  nmd (sI σ1 this 8 (σ1.1 this 3)) fun σ2 =>
  some (0, σ2)
def f_X5_refuse (N : Nat) (ρ : Nat → Nat → Nat) (this : Nat) (a1 : Int32) (σ : St) : Option (Int32 × St) :=
  if (σ.1 this 4 : Int32) = 103 then
    f_X5_refuse_15 N ρ this a1 1 σ
  else
    f_X5_refuse_15 N ρ this a1 a1 σ
set_option maxRecDepth 100000 in
set_option maxHeartbeats 4000000 in
theorem w_X5_refuse_15 {N : Nat} {Γ : SG} {ρ : Nat → Nat → Nat} (hs : Sh Γ ρ) {this : Nat} {a1 : Int32} (h0 : Γ[this]? = some (0, 5)) {n0 : Nat} {r : Int32} {σr : St} (s0 : Int32) (σ : St) (hf : f_X5_refuse_15 N ρ this a1 s0 σ = some (r, σr)) : Go mX5_refuse 0 0 0 n0 (Ki Γ ρ r σr) 0 0 15 [some (.ref this), none] [.int s0, .ref this] (hp Γ ρ σ) := by
  unfold f_X5_refuse_15 at hf
  obtain ⟨σ1, eσ1, hf⟩ := nmd_some hf
  refine go_pI fl_X5_39 ft_5_7 (okv_i _) dX5_refuse_15 h0 (by decide) rfl ?_
  rw [eσ1]
  refine go_aload_n 0 dX5_refuse_18 rfl rfl ?_
  refine go_aload_n 0 dX5_refuse_19 rfl rfl ?_
  refine go_fI fl_X5_26 dX5_refuse_20 h0 (by decide) rfl ?_
  obtain ⟨σ2, eσ2, hf⟩ := nmd_some hf
  refine go_pI fl_X5_42 ft_5_8 (okv_i _) dX5_refuse_23 h0 (by decide) rfl ?_
  rw [eσ2]
  refine go_iconst 0 dX5_refuse_26 (by decide) ?_
  cases hf
  exact go_zret rfl (by decide) dX5_refuse_27 (Nat.le_refl _) ⟨rfl, rfl⟩
set_option maxRecDepth 100000 in
set_option maxHeartbeats 4000000 in
theorem t_X5_refuse {N : Nat} {Γ : SG} {ρ : Nat → Nat → Nat} (hs : Sh Γ ρ) {this : Nat} {a1 : Int32} (h0 : Γ[this]? = some (0, 5)) {σ : St} {r : Int32} {σr : St} (hf : f_X5_refuse N ρ this a1 σ = some (r, σr)) : Tri mX5_refuse 0 0 0 [.ref this, .int a1] (hp Γ ρ σ) (Ki Γ ρ r σr) := by
  unfold f_X5_refuse at hf
  refine tri_of [some (.ref this), some (.int a1)] (plainFor_of_name rfl) rfl (Nat.le_of_ble_eq_true rfl) ?_
  refine go_aload_n 0 dX5_refuse_0 rfl rfl ?_
  refine go_aload_n 0 dX5_refuse_1 rfl rfl ?_
  refine go_fI fl_X5_29 dX5_refuse_2 h0 (by decide) rfl ?_
  refine go_bipush 103 dX5_refuse_5 (by decide) ?_
  refine go_icmp_ne 14 dX5_refuse_7 (by decide) (fun c3 => ?_) (fun c3 => ?_)
  · replace hf := (if_neg c3).symm.trans hf
    refine go_iload_n 1 dX5_refuse_14 rfl rfl ?_
    refine go_msk [true, false] [some (.ref this), none] rfl ?_
    exact w_X5_refuse_15 hs h0 a1 σ hf
  · replace hf := (if_pos c3).symm.trans hf
    refine go_iconst 1 dX5_refuse_10 (by decide) ?_
    refine go_goto 15 dX5_refuse_11 (by decide) ?_
    refine go_msk [true, false] [some (.ref this), none] rfl ?_
    exact w_X5_refuse_15 hs h0 1 σ hf
def f_X2_isTimes_23 (N : Nat) (ρ : Nat → Nat → Nat) (a1 : Int32) (s0 : Int32) (σ : St) : Option (Int32 × St) :=
  gd (bb s0) <|
  some (s0, σ)
def f_X2_isTimes_18 (N : Nat) (ρ : Nat → Nat → Nat) (a1 : Int32) (σ : St) : Option (Int32 × St) :=
  f_X2_isTimes_23 N ρ a1 1 σ
def f_X2_isTimes (N : Nat) (ρ : Nat → Nat → Nat) (a1 : Int32) (σ : St) : Option (Int32 × St) :=
  if (a1 : Int32) = 42 then
    f_X2_isTimes_18 N ρ a1 σ
  else
    if (a1 : Int32) = 47 then
      f_X2_isTimes_18 N ρ a1 σ
    else
      if (a1 : Int32) = 37 then
        f_X2_isTimes_18 N ρ a1 σ
      else
        f_X2_isTimes_23 N ρ a1 0 σ
set_option maxRecDepth 100000 in
set_option maxHeartbeats 4000000 in
theorem w_X2_isTimes_23 {N : Nat} {Γ : SG} {ρ : Nat → Nat → Nat} (hs : Sh Γ ρ) {a1 : Int32} {n0 : Nat} {r : Int32} {σr : St} (s0 : Int32) (σ : St) (hf : f_X2_isTimes_23 N ρ a1 s0 σ = some (r, σr)) : Go mX2_isTimes 0 0 0 n0 (Ki Γ ρ r σr) 0 0 23 [none] [.int s0] (hp Γ ρ σ) := by
  unfold f_X2_isTimes_23 at hf
  obtain ⟨g1, hf⟩ := gd_some hf
  cases hf
  exact go_zret rfl (bb_of g1) dX2_isTimes_23 (Nat.le_refl _) ⟨rfl, rfl⟩
set_option maxRecDepth 100000 in
set_option maxHeartbeats 4000000 in
theorem w_X2_isTimes_18 {N : Nat} {Γ : SG} {ρ : Nat → Nat → Nat} (hs : Sh Γ ρ) {a1 : Int32} {n0 : Nat} {r : Int32} {σr : St} (σ : St) (hf : f_X2_isTimes_18 N ρ a1 σ = some (r, σr)) : Go mX2_isTimes 0 0 0 n0 (Ki Γ ρ r σr) 0 0 18 [none] [] (hp Γ ρ σ) := by
  unfold f_X2_isTimes_18 at hf
  refine go_iconst 1 dX2_isTimes_18 (by decide) ?_
  refine go_goto 23 dX2_isTimes_19 (by decide) ?_
  exact w_X2_isTimes_23 hs 1 σ hf
set_option maxRecDepth 100000 in
set_option maxHeartbeats 4000000 in
theorem t_X2_isTimes {N : Nat} {Γ : SG} {ρ : Nat → Nat → Nat} (hs : Sh Γ ρ) {a1 : Int32} {σ : St} {r : Int32} {σr : St} (hf : f_X2_isTimes N ρ a1 σ = some (r, σr)) : Tri mX2_isTimes 0 0 0 [.int a1] (hp Γ ρ σ) (Ki Γ ρ r σr) := by
  unfold f_X2_isTimes at hf
  refine tri_of [some (.int a1)] (plainFor_of_name rfl) rfl (Nat.le_of_ble_eq_true rfl) ?_
  refine go_iload_n 0 dX2_isTimes_0 rfl rfl ?_
  refine go_bipush 42 dX2_isTimes_1 (by decide) ?_
  refine go_icmp_eq 18 dX2_isTimes_3 (by decide) (fun c2 => ?_) (fun c2 => ?_)
  · replace hf := (if_pos c2).symm.trans hf
    refine go_msk [false] [none] rfl ?_
    exact w_X2_isTimes_18 hs σ hf
  · replace hf := (if_neg c2).symm.trans hf
    refine go_iload_n 0 dX2_isTimes_6 rfl rfl ?_
    refine go_bipush 47 dX2_isTimes_7 (by decide) ?_
    refine go_icmp_eq 18 dX2_isTimes_9 (by decide) (fun c3 => ?_) (fun c3 => ?_)
    · replace hf := (if_pos c3).symm.trans hf
      refine go_msk [false] [none] rfl ?_
      exact w_X2_isTimes_18 hs σ hf
    · replace hf := (if_neg c3).symm.trans hf
      refine go_iload_n 0 dX2_isTimes_12 rfl rfl ?_
      refine go_bipush 37 dX2_isTimes_13 (by decide) ?_
      refine go_icmp_ne 22 dX2_isTimes_15 (by decide) (fun c4 => ?_) (fun c4 => ?_)
      · replace hf := (if_neg c4).symm.trans hf
        refine go_iconst 0 dX2_isTimes_22 (by decide) ?_
        refine go_msk [false] [none] rfl ?_
        exact w_X2_isTimes_23 hs 0 σ hf
      · replace hf := (if_pos c4).symm.trans hf
        refine go_msk [false] [none] rfl ?_
        exact w_X2_isTimes_18 hs σ hf
