def f_X1_clear (N : Nat) (ρ : Nat → Nat → Nat) (this : Nat) (σ : St) : Option (Int32 × St) :=
  nmd (sI σ this 2 0) fun σ1 =>
  nmd (sI σ1 this 3 0) fun σ2 =>
  some (0, σ2)
set_option maxRecDepth 100000 in
set_option maxHeartbeats 4000000 in
theorem t_X1_clear {N : Nat} {Γ : SG} {ρ : Nat → Nat → Nat} (hs : Sh Γ ρ) {this : Nat} (h0 : Γ[this]? = some (0, 1)) {σ : St} {r : Int32} {σr : St} (hf : f_X1_clear N ρ this σ = some (r, σr)) : Tri mX1_clear 0 0 0 [.ref this] (hp Γ ρ σ) (Kv Γ ρ σr) := by
  unfold f_X1_clear at hf
  refine tri_of [some (.ref this)] (plainFor_of_name rfl) rfl (Nat.le_of_ble_eq_true rfl) ?_
  refine go_aload_n 0 dX1_clear_0 rfl rfl ?_
  refine go_iconst 0 dX1_clear_1 (by decide) ?_
  obtain ⟨σ1, eσ1, hf⟩ := nmd_some hf
  refine go_pI fl_X1_16 ft_1_2 (okv_i _) dX1_clear_2 h0 (by decide) rfl ?_
  rw [eσ1]
  refine go_aload_n 0 dX1_clear_5 rfl rfl ?_
  refine go_iconst 0 dX1_clear_6 (by decide) ?_
  obtain ⟨σ2, eσ2, hf⟩ := nmd_some hf
  refine go_pI fl_X1_20 ft_1_3 (okv_i _) dX1_clear_7 h0 (by decide) rfl ?_
  rw [eσ2]
  cases hf
  exact go_vret rfl dX1_clear_10 (Nat.le_refl _) ⟨rfl, rfl⟩
def f_X1_isTold_12 (N : Nat) (ρ : Nat → Nat → Nat) (this : Nat) (s0 : Int32) (σ : St) : Option (Int32 × St) :=
  gd (bb s0) <|
  some (s0, σ)
def f_X1_isTold (N : Nat) (ρ : Nat → Nat → Nat) (this : Nat) (σ : St) : Option (Int32 × St) :=
  if (σ.1 this 2 : Int32) ≤ 0 then
    f_X1_isTold_12 N ρ this 0 σ
  else
    f_X1_isTold_12 N ρ this 1 σ
set_option maxRecDepth 100000 in
set_option maxHeartbeats 4000000 in
theorem w_X1_isTold_12 {N : Nat} {Γ : SG} {ρ : Nat → Nat → Nat} (hs : Sh Γ ρ) {this : Nat} (h0 : Γ[this]? = some (0, 1)) {n0 : Nat} {r : Int32} {σr : St} (s0 : Int32) (σ : St) (hf : f_X1_isTold_12 N ρ this s0 σ = some (r, σr)) : Go mX1_isTold 0 0 0 n0 (Ki Γ ρ r σr) 0 0 12 [none] [.int s0] (hp Γ ρ σ) := by
  unfold f_X1_isTold_12 at hf
  obtain ⟨g1, hf⟩ := gd_some hf
  cases hf
  exact go_zret rfl (bb_of g1) dX1_isTold_12 (Nat.le_refl _) ⟨rfl, rfl⟩
set_option maxRecDepth 100000 in
set_option maxHeartbeats 4000000 in
theorem t_X1_isTold {N : Nat} {Γ : SG} {ρ : Nat → Nat → Nat} (hs : Sh Γ ρ) {this : Nat} (h0 : Γ[this]? = some (0, 1)) {σ : St} {r : Int32} {σr : St} (hf : f_X1_isTold N ρ this σ = some (r, σr)) : Tri mX1_isTold 0 0 0 [.ref this] (hp Γ ρ σ) (Ki Γ ρ r σr) := by
  unfold f_X1_isTold at hf
  refine tri_of [some (.ref this)] (plainFor_of_name rfl) rfl (Nat.le_of_ble_eq_true rfl) ?_
  refine go_aload_n 0 dX1_isTold_0 rfl rfl ?_
  refine go_fI fl_X1_16 dX1_isTold_1 h0 (by decide) rfl ?_
  refine go_if_le 11 dX1_isTold_4 (by decide) (fun c2 => ?_) (fun c2 => ?_)
  · replace hf := (if_pos c2).symm.trans hf
    refine go_iconst 0 dX1_isTold_11 (by decide) ?_
    refine go_msk [false] [none] rfl ?_
    exact w_X1_isTold_12 hs h0 0 σ hf
  · replace hf := (if_neg c2).symm.trans hf
    refine go_iconst 1 dX1_isTold_7 (by decide) ?_
    refine go_goto 12 dX1_isTold_8 (by decide) ?_
    refine go_msk [false] [none] rfl ?_
    exact w_X1_isTold_12 hs h0 1 σ hf
def f_X1_add_37 (N : Nat) (ρ : Nat → Nat → Nat) (this : Nat) (a1 : Int32) (σ : St) : Option (Int32 × St) :=
  some (0, σ)
def f_X1_add (N : Nat) (ρ : Nat → Nat → Nat) (this : Nat) (a1 : Int32) (σ : St) : Option (Int32 × St) :=
  if (σ.1 this 2 : Int32) < 0 then
    f_X1_add_37 N ρ this a1 σ
  else
    if 270 ≤ (σ.1 this 2 : Int32) then
      f_X1_add_37 N ρ this a1 σ
    else
      gd (ib (σ.1 this 2) 270) <|
      nmd (sI σ (ρ this 0) (σ.1 this 2).toNatClampNeg a1) fun σ4 =>
      nmd (sI σ4 this 2 ((σ4.1 this 2) + 1)) fun σ5 =>
      f_X1_add_37 N ρ this a1 σ5
set_option maxRecDepth 100000 in
set_option maxHeartbeats 4000000 in
theorem w_X1_add_37 {N : Nat} {Γ : SG} {ρ : Nat → Nat → Nat} (hs : Sh Γ ρ) {this : Nat} {a1 : Int32} (h0 : Γ[this]? = some (0, 1)) {n0 : Nat} {r : Int32} {σr : St} (σ : St) (hf : f_X1_add_37 N ρ this a1 σ = some (r, σr)) : Go mX1_add 0 0 0 n0 (Kv Γ ρ σr) 0 0 37 [none, none] [] (hp Γ ρ σ) := by
  unfold f_X1_add_37 at hf
  cases hf
  exact go_vret rfl dX1_add_37 (Nat.le_refl _) ⟨rfl, rfl⟩
set_option maxRecDepth 100000 in
set_option maxHeartbeats 4000000 in
theorem t_X1_add {N : Nat} {Γ : SG} {ρ : Nat → Nat → Nat} (hs : Sh Γ ρ) {this : Nat} {a1 : Int32} (h0 : Γ[this]? = some (0, 1)) {σ : St} {r : Int32} {σr : St} (hf : f_X1_add N ρ this a1 σ = some (r, σr)) : Tri mX1_add 0 0 0 [.ref this, .int a1] (hp Γ ρ σ) (Kv Γ ρ σr) := by
  unfold f_X1_add at hf
  refine tri_of [some (.ref this), some (.int a1)] (plainFor_of_name rfl) rfl (Nat.le_of_ble_eq_true rfl) ?_
  refine go_aload_n 0 dX1_add_0 rfl rfl ?_
  refine go_fI fl_X1_16 dX1_add_1 h0 (by decide) rfl ?_
  refine go_if_lt 37 dX1_add_4 (by decide) (fun c1 => ?_) (fun c1 => ?_)
  · replace hf := (if_pos c1).symm.trans hf
    refine go_msk [false, false] [none, none] rfl ?_
    exact w_X1_add_37 hs h0 σ hf
  · replace hf := (if_neg c1).symm.trans hf
    refine go_aload_n 0 dX1_add_7 rfl rfl ?_
    refine go_fI fl_X1_16 dX1_add_8 h0 (by decide) rfl ?_
    refine go_sipush 270 dX1_add_11 (by decide) ?_
    refine go_icmp_ge 37 dX1_add_14 (by decide) (fun c2 => ?_) (fun c2 => ?_)
    · replace hf := (if_pos c2).symm.trans hf
      refine go_msk [false, false] [none, none] rfl ?_
      exact w_X1_add_37 hs h0 σ hf
    · replace hf := (if_neg c2).symm.trans hf
      refine go_aload_n 0 dX1_add_17 rfl rfl ?_
      refine go_fR fl_X1_9 dX1_add_18 h0 (by decide) rfl ?_
      refine go_aload_n 0 dX1_add_21 rfl rfl ?_
      refine go_fI fl_X1_16 dX1_add_22 h0 (by decide) rfl ?_
      refine go_iload_n 1 dX1_add_25 rfl rfl ?_
      obtain ⟨g3, hf⟩ := gd_some hf
      obtain ⟨σ4, eσ4, hf⟩ := nmd_some hf
      refine go_wI dX1_add_26 (hs.1 _ 1 0 h0 rfl) (ib_in g3) ?_
      rw [eσ4]
      refine go_aload_n 0 dX1_add_27 rfl rfl ?_
      refine go_dup dX1_add_28 rfl ?_
      refine go_fI fl_X1_16 dX1_add_29 h0 (by decide) rfl ?_
      refine go_iconst 1 dX1_add_32 (by decide) ?_
      refine go_iadd dX1_add_33 ?_
      obtain ⟨σ5, eσ5, hf⟩ := nmd_some hf
      refine go_pI fl_X1_16 ft_1_2 (okv_i _) dX1_add_34 h0 (by decide) rfl ?_
      rw [eσ5]
      refine go_msk [false, false] [none, none] rfl ?_
      exact w_X1_add_37 hs h0 σ5 hf
def f_X1_joined_166 (N : Nat) (ρ : Nat → Nat → Nat) (a1 : Int32) (a2 : Int32) (a3 : Int32) (s0 : Int32) (σ : St) : Option (Int32 × St) :=
  some (s0, σ)
def f_X1_joined_165 (N : Nat) (ρ : Nat → Nat → Nat) (a1 : Int32) (a2 : Int32) (a3 : Int32) (σ : St) : Option (Int32 × St) :=
  f_X1_joined_166 N ρ a1 a2 a3 0 σ
def f_X1_joined_119 (N : Nat) (ρ : Nat → Nat → Nat) (a1 : Int32) (a2 : Int32) (a3 : Int32) (s0 : Int32) (σ : St) : Option (Int32 × St) :=
  some (s0, σ)
def f_X1_joined_107 (N : Nat) (ρ : Nat → Nat → Nat) (a1 : Int32) (a2 : Int32) (a3 : Int32) (s0 : Int32) (σ : St) : Option (Int32 × St) :=
  some (s0, σ)
def f_X1_joined_130 (N : Nat) (ρ : Nat → Nat → Nat) (a1 : Int32) (a2 : Int32) (a3 : Int32) (s0 : Int32) (σ : St) : Option (Int32 × St) :=
  some (s0, σ)
def f_X1_joined_152 (N : Nat) (ρ : Nat → Nat → Nat) (a1 : Int32) (a2 : Int32) (a3 : Int32) (s0 : Int32) (σ : St) : Option (Int32 × St) :=
  some (s0, σ)
def f_X1_joined_141 (N : Nat) (ρ : Nat → Nat → Nat) (a1 : Int32) (a2 : Int32) (a3 : Int32) (s0 : Int32) (σ : St) : Option (Int32 × St) :=
  some (s0, σ)
def f_X1_joined_180 (N : Nat) (ρ : Nat → Nat → Nat) (a1 : Int32) (a2 : Int32) (a3 : Int32) (s0 : Int32) (σ : St) : Option (Int32 × St) :=
  some (s0, σ)
def f_X1_joined_175 (N : Nat) (ρ : Nat → Nat → Nat) (a1 : Int32) (a2 : Int32) (a3 : Int32) (σ : St) : Option (Int32 × St) :=
  f_X1_joined_180 N ρ a1 a2 a3 1 σ
def f_X1_joined (N : Nat) (ρ : Nat → Nat → Nat) (a1 : Int32) (a2 : Int32) (a3 : Int32) (σ : St) : Option (Int32 × St) :=
  if (a1 : Int32) = 8 then
    if (a2 : Int32) = 0 then
      f_X1_joined_165 N ρ a1 a2 a3 σ
    else
      if (a3 : Int32) = 0 then
        f_X1_joined_165 N ρ a1 a2 a3 σ
      else
        f_X1_joined_166 N ρ a1 a2 a3 1 σ
  else
  if (a1 : Int32) = 37 then
    if (a3 : Int32) = 0 then
      f_X1_joined_119 N ρ a1 a2 a3 0 σ
    else
      gd (nz a3) <|
      f_X1_joined_119 N ρ a1 a2 a3 (irem a2 a3) σ
  else
  if (a1 : Int32) = 42 then
    some (a2 * a3, σ)
  else
  if (a1 : Int32) = 43 then
    some (a2 + a3, σ)
  else
  if (a1 : Int32) = 45 then
    some (a2 - a3, σ)
  else
  if (a1 : Int32) = 47 then
    if (a3 : Int32) = 0 then
      f_X1_joined_107 N ρ a1 a2 a3 0 σ
    else
      gd (nz a3) <|
      f_X1_joined_107 N ρ a1 a2 a3 (a2 / a3) σ
  else
  if (a1 : Int32) = 60 then
    if a3 ≤ (a2 : Int32) then
      f_X1_joined_130 N ρ a1 a2 a3 0 σ
    else
      f_X1_joined_130 N ρ a1 a2 a3 1 σ
  else
  if (a1 : Int32) = 61 then
    if (a2 : Int32) = a3 then
      f_X1_joined_152 N ρ a1 a2 a3 1 σ
    else
      f_X1_joined_152 N ρ a1 a2 a3 0 σ
  else
  if (a1 : Int32) = 62 then
    if (a2 : Int32) ≤ a3 then
      f_X1_joined_141 N ρ a1 a2 a3 0 σ
    else
      f_X1_joined_141 N ρ a1 a2 a3 1 σ
  else
    if (a2 : Int32) = 0 then
      if (a3 : Int32) = 0 then
        f_X1_joined_180 N ρ a1 a2 a3 0 σ
      else
        f_X1_joined_175 N ρ a1 a2 a3 σ
    else
      f_X1_joined_175 N ρ a1 a2 a3 σ
set_option maxRecDepth 100000 in
set_option maxHeartbeats 4000000 in
theorem w_X1_joined_166 {N : Nat} {Γ : SG} {ρ : Nat → Nat → Nat} (hs : Sh Γ ρ) {a1 : Int32} {a2 : Int32} {a3 : Int32} {n0 : Nat} {r : Int32} {σr : St} (s0 : Int32) (σ : St) (hf : f_X1_joined_166 N ρ a1 a2 a3 s0 σ = some (r, σr)) : Go mX1_joined 0 0 0 n0 (Ki Γ ρ r σr) 0 0 166 [none, none, none] [.int s0] (hp Γ ρ σ) := by
  unfold f_X1_joined_166 at hf
  cases hf
  exact go_iret rfl dX1_joined_166 (Nat.le_refl _) ⟨rfl, rfl⟩
set_option maxRecDepth 100000 in
set_option maxHeartbeats 4000000 in
theorem w_X1_joined_165 {N : Nat} {Γ : SG} {ρ : Nat → Nat → Nat} (hs : Sh Γ ρ) {a1 : Int32} {a2 : Int32} {a3 : Int32} {n0 : Nat} {r : Int32} {σr : St} (σ : St) (hf : f_X1_joined_165 N ρ a1 a2 a3 σ = some (r, σr)) : Go mX1_joined 0 0 0 n0 (Ki Γ ρ r σr) 0 0 165 [none, none, none] [] (hp Γ ρ σ) := by
  unfold f_X1_joined_165 at hf
  refine go_iconst 0 dX1_joined_165 (by decide) ?_
  exact w_X1_joined_166 hs 0 σ hf
set_option maxRecDepth 100000 in
set_option maxHeartbeats 4000000 in
theorem w_X1_joined_119 {N : Nat} {Γ : SG} {ρ : Nat → Nat → Nat} (hs : Sh Γ ρ) {a1 : Int32} {a2 : Int32} {a3 : Int32} {n0 : Nat} {r : Int32} {σr : St} (s0 : Int32) (σ : St) (hf : f_X1_joined_119 N ρ a1 a2 a3 s0 σ = some (r, σr)) : Go mX1_joined 0 0 0 n0 (Ki Γ ρ r σr) 0 0 119 [none, none, none] [.int s0] (hp Γ ρ σ) := by
  unfold f_X1_joined_119 at hf
  cases hf
  exact go_iret rfl dX1_joined_119 (Nat.le_refl _) ⟨rfl, rfl⟩
set_option maxRecDepth 100000 in
set_option maxHeartbeats 4000000 in
theorem w_X1_joined_107 {N : Nat} {Γ : SG} {ρ : Nat → Nat → Nat} (hs : Sh Γ ρ) {a1 : Int32} {a2 : Int32} {a3 : Int32} {n0 : Nat} {r : Int32} {σr : St} (s0 : Int32) (σ : St) (hf : f_X1_joined_107 N ρ a1 a2 a3 s0 σ = some (r, σr)) : Go mX1_joined 0 0 0 n0 (Ki Γ ρ r σr) 0 0 107 [none, none, none] [.int s0] (hp Γ ρ σ) := by
  unfold f_X1_joined_107 at hf
  cases hf
  exact go_iret rfl dX1_joined_107 (Nat.le_refl _) ⟨rfl, rfl⟩
set_option maxRecDepth 100000 in
set_option maxHeartbeats 4000000 in
theorem w_X1_joined_130 {N : Nat} {Γ : SG} {ρ : Nat → Nat → Nat} (hs : Sh Γ ρ) {a1 : Int32} {a2 : Int32} {a3 : Int32} {n0 : Nat} {r : Int32} {σr : St} (s0 : Int32) (σ : St) (hf : f_X1_joined_130 N ρ a1 a2 a3 s0 σ = some (r, σr)) : Go mX1_joined 0 0 0 n0 (Ki Γ ρ r σr) 0 0 130 [none, none, none] [.int s0] (hp Γ ρ σ) := by
  unfold f_X1_joined_130 at hf
  cases hf
  exact go_iret rfl dX1_joined_130 (Nat.le_refl _) ⟨rfl, rfl⟩
set_option maxRecDepth 100000 in
set_option maxHeartbeats 4000000 in
theorem w_X1_joined_152 {N : Nat} {Γ : SG} {ρ : Nat → Nat → Nat} (hs : Sh Γ ρ) {a1 : Int32} {a2 : Int32} {a3 : Int32} {n0 : Nat} {r : Int32} {σr : St} (s0 : Int32) (σ : St) (hf : f_X1_joined_152 N ρ a1 a2 a3 s0 σ = some (r, σr)) : Go mX1_joined 0 0 0 n0 (Ki Γ ρ r σr) 0 0 152 [none, none, none] [.int s0] (hp Γ ρ σ) := by
  unfold f_X1_joined_152 at hf
  cases hf
  exact go_iret rfl dX1_joined_152 (Nat.le_refl _) ⟨rfl, rfl⟩
set_option maxRecDepth 100000 in
set_option maxHeartbeats 4000000 in
theorem w_X1_joined_141 {N : Nat} {Γ : SG} {ρ : Nat → Nat → Nat} (hs : Sh Γ ρ) {a1 : Int32} {a2 : Int32} {a3 : Int32} {n0 : Nat} {r : Int32} {σr : St} (s0 : Int32) (σ : St) (hf : f_X1_joined_141 N ρ a1 a2 a3 s0 σ = some (r, σr)) : Go mX1_joined 0 0 0 n0 (Ki Γ ρ r σr) 0 0 141 [none, none, none] [.int s0] (hp Γ ρ σ) := by
  unfold f_X1_joined_141 at hf
  cases hf
  exact go_iret rfl dX1_joined_141 (Nat.le_refl _) ⟨rfl, rfl⟩
set_option maxRecDepth 100000 in
set_option maxHeartbeats 4000000 in
theorem w_X1_joined_180 {N : Nat} {Γ : SG} {ρ : Nat → Nat → Nat} (hs : Sh Γ ρ) {a1 : Int32} {a2 : Int32} {a3 : Int32} {n0 : Nat} {r : Int32} {σr : St} (s0 : Int32) (σ : St) (hf : f_X1_joined_180 N ρ a1 a2 a3 s0 σ = some (r, σr)) : Go mX1_joined 0 0 0 n0 (Ki Γ ρ r σr) 0 0 180 [none, none, none] [.int s0] (hp Γ ρ σ) := by
  unfold f_X1_joined_180 at hf
  cases hf
  exact go_iret rfl dX1_joined_180 (Nat.le_refl _) ⟨rfl, rfl⟩
set_option maxRecDepth 100000 in
set_option maxHeartbeats 4000000 in
theorem w_X1_joined_175 {N : Nat} {Γ : SG} {ρ : Nat → Nat → Nat} (hs : Sh Γ ρ) {a1 : Int32} {a2 : Int32} {a3 : Int32} {n0 : Nat} {r : Int32} {σr : St} (σ : St) (hf : f_X1_joined_175 N ρ a1 a2 a3 σ = some (r, σr)) : Go mX1_joined 0 0 0 n0 (Ki Γ ρ r σr) 0 0 175 [none, none, none] [] (hp Γ ρ σ) := by
  unfold f_X1_joined_175 at hf
  refine go_iconst 1 dX1_joined_175 (by decide) ?_
  refine go_goto 180 dX1_joined_176 (by decide) ?_
  exact w_X1_joined_180 hs 1 σ hf
set_option maxRecDepth 100000 in
set_option maxHeartbeats 4000000 in
theorem t_X1_joined {N : Nat} {Γ : SG} {ρ : Nat → Nat → Nat} (hs : Sh Γ ρ) {a1 : Int32} {a2 : Int32} {a3 : Int32} {σ : St} {r : Int32} {σr : St} (hf : f_X1_joined N ρ a1 a2 a3 σ = some (r, σr)) : Tri mX1_joined 0 0 0 [.int a1, .int a2, .int a3] (hp Γ ρ σ) (Ki Γ ρ r σr) := by
  unfold f_X1_joined at hf
  refine tri_of [some (.int a1), some (.int a2), some (.int a3)] (plainFor_of_name rfl) rfl (Nat.le_of_ble_eq_true rfl) ?_
  refine go_iload_n 0 dX1_joined_0 rfl rfl ?_
  by_cases c1 : (a1 : Int32) = 8
  · replace hf := (if_pos c1).symm.trans hf
    refine go_lookup 153 dX1_joined_1 (by decide) (off := 152) (by rw [c1]; decide) (by decide) ?_
    refine go_iload_n 1 dX1_joined_153 rfl rfl ?_
    refine go_if_eq 165 dX1_joined_154 (by decide) (fun c2 => ?_) (fun c2 => ?_)
    · replace hf := (if_pos c2).symm.trans hf
      refine go_msk [false, false, false] [none, none, none] rfl ?_
      exact w_X1_joined_165 hs σ hf
    · replace hf := (if_neg c2).symm.trans hf
      refine go_iload_n 2 dX1_joined_157 rfl rfl ?_
      refine go_if_eq 165 dX1_joined_158 (by decide) (fun c3 => ?_) (fun c3 => ?_)
      · replace hf := (if_pos c3).symm.trans hf
        refine go_msk [false, false, false] [none, none, none] rfl ?_
        exact w_X1_joined_165 hs σ hf
      · replace hf := (if_neg c3).symm.trans hf
        refine go_iconst 1 dX1_joined_161 (by decide) ?_
        refine go_goto 166 dX1_joined_162 (by decide) ?_
        refine go_msk [false, false, false] [none, none, none] rfl ?_
        exact w_X1_joined_166 hs 1 σ hf
  replace hf := (if_neg c1).symm.trans hf
  by_cases c4 : (a1 : Int32) = 37
  · replace hf := (if_pos c4).symm.trans hf
    refine go_lookup 108 dX1_joined_1 (by decide) (off := 107) (by rw [c4]; decide) (by decide) ?_
    refine go_iload_n 2 dX1_joined_108 rfl rfl ?_
    refine go_if_ne 116 dX1_joined_109 (by decide) (fun c5 => ?_) (fun c5 => ?_)
    · replace hf := (if_neg c5).symm.trans hf
      refine go_iload_n 1 dX1_joined_116 rfl rfl ?_
      refine go_iload_n 2 dX1_joined_117 rfl rfl ?_
      obtain ⟨g6, hf⟩ := gd_some hf
      refine go_irem dX1_joined_118 (nz_of g6) ?_
      refine go_msk [false, false, false] [none, none, none] rfl ?_
      exact w_X1_joined_119 hs (irem a2 a3) σ hf
    · replace hf := (if_pos c5).symm.trans hf
      refine go_iconst 0 dX1_joined_112 (by decide) ?_
      refine go_goto 119 dX1_joined_113 (by decide) ?_
      refine go_msk [false, false, false] [none, none, none] rfl ?_
      exact w_X1_joined_119 hs 0 σ hf
  replace hf := (if_neg c4).symm.trans hf
  by_cases c7 : (a1 : Int32) = 42
  · replace hf := (if_pos c7).symm.trans hf
    refine go_lookup 92 dX1_joined_1 (by decide) (off := 91) (by rw [c7]; decide) (by decide) ?_
    refine go_iload_n 1 dX1_joined_92 rfl rfl ?_
    refine go_iload_n 2 dX1_joined_93 rfl rfl ?_
    refine go_imul dX1_joined_94 ?_
    cases hf
    exact go_iret rfl dX1_joined_95 (Nat.le_refl _) ⟨rfl, rfl⟩
  replace hf := (if_neg c7).symm.trans hf
  by_cases c8 : (a1 : Int32) = 43
  · replace hf := (if_pos c8).symm.trans hf
    refine go_lookup 84 dX1_joined_1 (by decide) (off := 83) (by rw [c8]; decide) (by decide) ?_
    refine go_iload_n 1 dX1_joined_84 rfl rfl ?_
    refine go_iload_n 2 dX1_joined_85 rfl rfl ?_
    refine go_iadd dX1_joined_86 ?_
    cases hf
    exact go_iret rfl dX1_joined_87 (Nat.le_refl _) ⟨rfl, rfl⟩
  replace hf := (if_neg c8).symm.trans hf
  by_cases c9 : (a1 : Int32) = 45
  · replace hf := (if_pos c9).symm.trans hf
    refine go_lookup 88 dX1_joined_1 (by decide) (off := 87) (by rw [c9]; decide) (by decide) ?_
    refine go_iload_n 1 dX1_joined_88 rfl rfl ?_
    refine go_iload_n 2 dX1_joined_89 rfl rfl ?_
    refine go_isub dX1_joined_90 ?_
    cases hf
    exact go_iret rfl dX1_joined_91 (Nat.le_refl _) ⟨rfl, rfl⟩
  replace hf := (if_neg c9).symm.trans hf
  by_cases c10 : (a1 : Int32) = 47
  · replace hf := (if_pos c10).symm.trans hf
    refine go_lookup 96 dX1_joined_1 (by decide) (off := 95) (by rw [c10]; decide) (by decide) ?_
    refine go_iload_n 2 dX1_joined_96 rfl rfl ?_
    refine go_if_ne 104 dX1_joined_97 (by decide) (fun c11 => ?_) (fun c11 => ?_)
    · replace hf := (if_neg c11).symm.trans hf
      refine go_iload_n 1 dX1_joined_104 rfl rfl ?_
      refine go_iload_n 2 dX1_joined_105 rfl rfl ?_
      obtain ⟨g12, hf⟩ := gd_some hf
      refine go_idiv dX1_joined_106 (nz_of g12) ?_
      refine go_msk [false, false, false] [none, none, none] rfl ?_
      exact w_X1_joined_107 hs (a2 / a3) σ hf
    · replace hf := (if_pos c11).symm.trans hf
      refine go_iconst 0 dX1_joined_100 (by decide) ?_
      refine go_goto 107 dX1_joined_101 (by decide) ?_
      refine go_msk [false, false, false] [none, none, none] rfl ?_
      exact w_X1_joined_107 hs 0 σ hf
  replace hf := (if_neg c10).symm.trans hf
  by_cases c13 : (a1 : Int32) = 60
  · replace hf := (if_pos c13).symm.trans hf
    refine go_lookup 120 dX1_joined_1 (by decide) (off := 119) (by rw [c13]; decide) (by decide) ?_
    refine go_iload_n 1 dX1_joined_120 rfl rfl ?_
    refine go_iload_n 2 dX1_joined_121 rfl rfl ?_
    refine go_icmp_ge 129 dX1_joined_122 (by decide) (fun c14 => ?_) (fun c14 => ?_)
    · replace hf := (if_pos c14).symm.trans hf
      refine go_iconst 0 dX1_joined_129 (by decide) ?_
      refine go_msk [false, false, false] [none, none, none] rfl ?_
      exact w_X1_joined_130 hs 0 σ hf
    · replace hf := (if_neg c14).symm.trans hf
      refine go_iconst 1 dX1_joined_125 (by decide) ?_
      refine go_goto 130 dX1_joined_126 (by decide) ?_
      refine go_msk [false, false, false] [none, none, none] rfl ?_
      exact w_X1_joined_130 hs 1 σ hf
  replace hf := (if_neg c13).symm.trans hf
  by_cases c15 : (a1 : Int32) = 61
  · replace hf := (if_pos c15).symm.trans hf
    refine go_lookup 142 dX1_joined_1 (by decide) (off := 141) (by rw [c15]; decide) (by decide) ?_
    refine go_iload_n 1 dX1_joined_142 rfl rfl ?_
    refine go_iload_n 2 dX1_joined_143 rfl rfl ?_
    refine go_icmp_ne 151 dX1_joined_144 (by decide) (fun c16 => ?_) (fun c16 => ?_)
    · replace hf := (if_neg c16).symm.trans hf
      refine go_iconst 0 dX1_joined_151 (by decide) ?_
      refine go_msk [false, false, false] [none, none, none] rfl ?_
      exact w_X1_joined_152 hs 0 σ hf
    · replace hf := (if_pos c16).symm.trans hf
      refine go_iconst 1 dX1_joined_147 (by decide) ?_
      refine go_goto 152 dX1_joined_148 (by decide) ?_
      refine go_msk [false, false, false] [none, none, none] rfl ?_
      exact w_X1_joined_152 hs 1 σ hf
  replace hf := (if_neg c15).symm.trans hf
  by_cases c17 : (a1 : Int32) = 62
  · replace hf := (if_pos c17).symm.trans hf
    refine go_lookup 131 dX1_joined_1 (by decide) (off := 130) (by rw [c17]; decide) (by decide) ?_
    refine go_iload_n 1 dX1_joined_131 rfl rfl ?_
    refine go_iload_n 2 dX1_joined_132 rfl rfl ?_
    refine go_icmp_le 140 dX1_joined_133 (by decide) (fun c18 => ?_) (fun c18 => ?_)
    · replace hf := (if_pos c18).symm.trans hf
      refine go_iconst 0 dX1_joined_140 (by decide) ?_
      refine go_msk [false, false, false] [none, none, none] rfl ?_
      exact w_X1_joined_141 hs 0 σ hf
    · replace hf := (if_neg c18).symm.trans hf
      refine go_iconst 1 dX1_joined_136 (by decide) ?_
      refine go_goto 141 dX1_joined_137 (by decide) ?_
      refine go_msk [false, false, false] [none, none, none] rfl ?_
      exact w_X1_joined_141 hs 1 σ hf
  replace hf := (if_neg c17).symm.trans hf
  refine go_lookup 167 dX1_joined_1 (by decide) (off := 166) (by rw [lv_osw (k := 8) c1 (by decide)]; rw [lv_osw (k := 37) c4 (by decide)]; rw [lv_osw (k := 42) c7 (by decide)]; rw [lv_osw (k := 43) c8 (by decide)]; rw [lv_osw (k := 45) c9 (by decide)]; rw [lv_osw (k := 47) c10 (by decide)]; rw [lv_osw (k := 60) c13 (by decide)]; rw [lv_osw (k := 61) c15 (by decide)]; rw [lv_osw (k := 62) c17 (by decide)]; rfl) (by decide) ?_
  refine go_iload_n 1 dX1_joined_167 rfl rfl ?_
  refine go_if_ne 175 dX1_joined_168 (by decide) (fun c19 => ?_) (fun c19 => ?_)
  · replace hf := (if_neg c19).symm.trans hf
    refine go_msk [false, false, false] [none, none, none] rfl ?_
    exact w_X1_joined_175 hs σ hf
  · replace hf := (if_pos c19).symm.trans hf
    refine go_iload_n 2 dX1_joined_171 rfl rfl ?_
    refine go_if_eq 179 dX1_joined_172 (by decide) (fun c20 => ?_) (fun c20 => ?_)
    · replace hf := (if_pos c20).symm.trans hf
      refine go_iconst 0 dX1_joined_179 (by decide) ?_
      refine go_msk [false, false, false] [none, none, none] rfl ?_
      exact w_X1_joined_180 hs 0 σ hf
    · replace hf := (if_neg c20).symm.trans hf
      refine go_msk [false, false, false] [none, none, none] rfl ?_
      exact w_X1_joined_175 hs σ hf
def f_X1_valueBy_149 (N : Nat) (ρ : Nat → Nat → Nat) (this : Nat) (a1 n1 : Nat) (rec4 : Int32 → Int32 → St → Option (Int32 × St)) (x2 : Int32) (x3 : Int32) (σ : St) : Option (Int32 × St) :=
  rec4 x2 (x3 + 1) σ
def f_X1_valueBy_68 (N : Nat) (ρ : Nat → Nat → Nat) (this : Nat) (a1 n1 : Nat) (rec4 : Int32 → Int32 → St → Option (Int32 × St)) (x2 : Int32) (x3 : Int32) (s0 : Int32) (s1 : Int32) (σ : St) : Option (Int32 × St) :=
  gd (ib s1 30) <|
  nmd (sI σ (ρ this 1) s1.toNatClampNeg s0) fun σ2 =>
  f_X1_valueBy_149 N ρ this a1 n1 rec4 (x2 + 1) x3 σ2
def f_X1_valueBy_58 (N : Nat) (ρ : Nat → Nat → Nat) (this : Nat) (a1 n1 : Nat) (rec4 : Int32 → Int32 → St → Option (Int32 × St)) (x2 : Int32) (x3 : Int32) (x4 : Int32) (s0 : Int32) (σ : St) : Option (Int32 × St) :=
  f_X1_valueBy_68 N ρ this a1 n1 rec4 x2 x3 x4 s0 σ
def f_X1_valueBy_109 (N : Nat) (ρ : Nat → Nat → Nat) (this : Nat) (a1 n1 : Nat) (rec4 : Int32 → Int32 → St → Option (Int32 × St)) (x2 : Int32) (x3 : Int32) (s0 : Int32) (s1 : Int32) (σ : St) : Option (Int32 × St) :=
  gd (ib s1 30) <|
  nmd (sI σ (ρ this 1) s1.toNatClampNeg s0) fun σ4 =>
  f_X1_valueBy_149 N ρ this a1 n1 rec4 x2 x3 σ4
def f_X1_valueBy_169 (N : Nat) (ρ : Nat → Nat → Nat) (this : Nat) (a1 n1 : Nat) (s0 : Int32) (σ : St) : Option (Int32 × St) :=
  some (s0, σ)
def f_X1_valueBy_155 (N : Nat) (ρ : Nat → Nat → Nat) (this : Nat) (a1 n1 : Nat) (x2 : Int32) (σ : St) : Option (Int32 × St) :=
  if (x2 : Int32) ≤ 0 then
    f_X1_valueBy_169 N ρ this a1 n1 0 σ
  else
    gd (ib 0 30) <|
    f_X1_valueBy_169 N ρ this a1 n1 (σ.1 (ρ this 1) (0 : Int32).toNatClampNeg) σ
def b_X1_valueBy_4 (N : Nat) (ρ : Nat → Nat → Nat) (this : Nat) (a1 n1 : Nat) (rec4 : Int32 → Int32 → St → Option (Int32 × St)) (x2 : Int32) (x3 : Int32) (σ : St) : Option (Int32 × St) :=
  if (σ.1 this 2) ≤ (x3 : Int32) then
    f_X1_valueBy_155 N ρ this a1 n1 x2 σ
  else
    if 270 ≤ (x3 : Int32) then
      f_X1_valueBy_155 N ρ this a1 n1 x2 σ
    else
      gd (ib x3 270) <|
      nmd (σ.1 (ρ this 0) x3.toNatClampNeg) fun y10 =>
      if (y10 : Int32) < (-6) then
        if (y10 : Int32) = (-9) then
          if (x2 : Int32) ≤ 0 then
            f_X1_valueBy_149 N ρ this a1 n1 rec4 x2 x3 σ
          else
            gd (ib (x2 - 1) 30) <|
            if (σ.1 (ρ this 1) (x2 - 1).toNatClampNeg : Int32) = 0 then
              f_X1_valueBy_109 N ρ this a1 n1 rec4 x2 x3 1 (x2 - 1) σ
            else
              f_X1_valueBy_109 N ρ this a1 n1 rec4 x2 x3 0 (x2 - 1) σ
        else
          if (x2 : Int32) ≤ 1 then
            f_X1_valueBy_149 N ρ this a1 n1 rec4 x2 x3 σ
          else
            gd (ib ((x2 + (-1)) - 1) 30) <|
            gd (ib (x2 + (-1)) 30) <|
            bnd (f_X1_joined N ρ (-y10) (σ.1 (ρ this 1) ((x2 + (-1)) - 1).toNatClampNeg) (σ.1 (ρ this 1) (x2 + (-1)).toNatClampNeg) σ) fun r16 σ17 =>
            gd (ib ((x2 + (-1)) - 1) 30) <|
            nmd (sI σ17 (ρ this 1) ((x2 + (-1)) - 1).toNatClampNeg r16) fun σ20 =>
            f_X1_valueBy_149 N ρ this a1 n1 rec4 (x2 + (-1)) x3 σ20
      else
        if 30 ≤ (x2 : Int32) then
          f_X1_valueBy_149 N ρ this a1 n1 rec4 x2 x3 σ
        else
          if 0 ≤ (y10 : Int32) then
            f_X1_valueBy_58 N ρ this a1 n1 rec4 x2 x3 y10 x2 σ
          else
            if (-y10 : Int32) < (nI n1) then
              gd (ib (-y10) n1) <|
              f_X1_valueBy_68 N ρ this a1 n1 rec4 x2 x3 (σ.1 a1 (-y10).toNatClampNeg) x2 σ
            else
              f_X1_valueBy_58 N ρ this a1 n1 rec4 x2 x3 y10 x2 σ
def f_X1_valueBy_4 (N : Nat) (ρ : Nat → Nat → Nat) (this : Nat) (a1 n1 : Nat) : Nat → Int32 → Int32 → St → Option (Int32 × St)
  | 0, _, _, _ => none
  | n + 1, x2, x3, σ => b_X1_valueBy_4 N ρ this a1 n1 (f_X1_valueBy_4 N ρ this a1 n1 n) x2 x3 σ
def f_X1_valueBy (N : Nat) (ρ : Nat → Nat → Nat) (this : Nat) (a1 n1 : Nat) (σ : St) : Option (Int32 × St) :=
  f_X1_valueBy_4 N ρ this a1 n1 N 0 0 σ
set_option maxRecDepth 100000 in
set_option maxHeartbeats 4000000 in
theorem w_X1_valueBy_149 {N : Nat} {Γ : SG} {ρ : Nat → Nat → Nat} (hs : Sh Γ ρ) {this : Nat} {a1 n1 : Nat} (h0 : Γ[this]? = some (0, 1)) (h1 : Γ[a1]? = some (1, n1)) {n0 : Nat} {r : Int32} {σr : St} (rec4 : Int32 → Int32 → St → Option (Int32 × St)) (hrec4 : ∀ (x2 : Int32) (x3 : Int32) (σ : St), rec4 x2 x3 σ = some (r, σr) → Go mX1_valueBy 1 0 0 n0 (Ki Γ ρ r σr) 0 0 4 [some (.ref this), some (.ref a1), some (.int x2), some (.int x3), none] [] (hp Γ ρ σ)) (x2 : Int32) (x3 : Int32) (σ : St) (hf : f_X1_valueBy_149 N ρ this a1 n1 rec4 x2 x3 σ = some (r, σr)) : Go mX1_valueBy 1 0 0 n0 (Ki Γ ρ r σr) 0 0 149 [some (.ref this), some (.ref a1), some (.int x2), some (.int x3), none] [] (hp Γ ρ σ) := by
  unfold f_X1_valueBy_149 at hf
  refine go_iinc (x3 + 1) [some (.ref this), some (.ref a1), some (.int x2), some (.int (x3 + 1)), none] dX1_valueBy_149 rfl rfl (by decide) rfl ?_
  refine go_goto 4 dX1_valueBy_152 (by decide) ?_
  exact hrec4 x2 (x3 + 1) σ hf
set_option maxRecDepth 100000 in
set_option maxHeartbeats 4000000 in
theorem w_X1_valueBy_68 {N : Nat} {Γ : SG} {ρ : Nat → Nat → Nat} (hs : Sh Γ ρ) {this : Nat} {a1 n1 : Nat} (h0 : Γ[this]? = some (0, 1)) (h1 : Γ[a1]? = some (1, n1)) {n0 : Nat} {r : Int32} {σr : St} (rec4 : Int32 → Int32 → St → Option (Int32 × St)) (hrec4 : ∀ (x2 : Int32) (x3 : Int32) (σ : St), rec4 x2 x3 σ = some (r, σr) → Go mX1_valueBy 1 0 0 n0 (Ki Γ ρ r σr) 0 0 4 [some (.ref this), some (.ref a1), some (.int x2), some (.int x3), none] [] (hp Γ ρ σ)) (x2 : Int32) (x3 : Int32) (s0 : Int32) (s1 : Int32) (σ : St) (hf : f_X1_valueBy_68 N ρ this a1 n1 rec4 x2 x3 s0 s1 σ = some (r, σr)) : Go mX1_valueBy 1 0 0 n0 (Ki Γ ρ r σr) 0 0 68 [some (.ref this), some (.ref a1), some (.int x2), some (.int x3), none] [.int s0, .int s1, .ref (ρ this 1)] (hp Γ ρ σ) := by
  unfold f_X1_valueBy_68 at hf
  obtain ⟨g1, hf⟩ := gd_some hf
  obtain ⟨σ2, eσ2, hf⟩ := nmd_some hf
  refine go_wI dX1_valueBy_68 (hs.1 _ 1 1 h0 rfl) (ib_in g1) ?_
  rw [eσ2]
  refine go_iinc (x2 + 1) [some (.ref this), some (.ref a1), some (.int (x2 + 1)), some (.int x3), none] dX1_valueBy_69 rfl rfl (by decide) rfl ?_
  refine go_goto 149 dX1_valueBy_72 (by decide) ?_
  exact w_X1_valueBy_149 hs h0 h1 rec4 hrec4 (x2 + 1) x3 σ2 hf
set_option maxRecDepth 100000 in
set_option maxHeartbeats 4000000 in
theorem w_X1_valueBy_58 {N : Nat} {Γ : SG} {ρ : Nat → Nat → Nat} (hs : Sh Γ ρ) {this : Nat} {a1 n1 : Nat} (h0 : Γ[this]? = some (0, 1)) (h1 : Γ[a1]? = some (1, n1)) {n0 : Nat} {r : Int32} {σr : St} (rec4 : Int32 → Int32 → St → Option (Int32 × St)) (hrec4 : ∀ (x2 : Int32) (x3 : Int32) (σ : St), rec4 x2 x3 σ = some (r, σr) → Go mX1_valueBy 1 0 0 n0 (Ki Γ ρ r σr) 0 0 4 [some (.ref this), some (.ref a1), some (.int x2), some (.int x3), none] [] (hp Γ ρ σ)) (x2 : Int32) (x3 : Int32) (x4 : Int32) (s0 : Int32) (σ : St) (hf : f_X1_valueBy_58 N ρ this a1 n1 rec4 x2 x3 x4 s0 σ = some (r, σr)) : Go mX1_valueBy 1 0 0 n0 (Ki Γ ρ r σr) 0 0 58 [some (.ref this), some (.ref a1), some (.int x2), some (.int x3), some (.int x4)] [.int s0, .ref (ρ this 1)] (hp Γ ρ σ) := by
  unfold f_X1_valueBy_58 at hf
  refine go_iload dX1_valueBy_58 rfl ?_
  refine go_goto 68 dX1_valueBy_60 (by decide) ?_
  refine go_msk [true, true, true, true, false] [some (.ref this), some (.ref a1), some (.int x2), some (.int x3), none] rfl ?_
  exact w_X1_valueBy_68 hs h0 h1 rec4 hrec4 x2 x3 x4 s0 σ hf
set_option maxRecDepth 100000 in
set_option maxHeartbeats 4000000 in
theorem w_X1_valueBy_109 {N : Nat} {Γ : SG} {ρ : Nat → Nat → Nat} (hs : Sh Γ ρ) {this : Nat} {a1 n1 : Nat} (h0 : Γ[this]? = some (0, 1)) (h1 : Γ[a1]? = some (1, n1)) {n0 : Nat} {r : Int32} {σr : St} (rec4 : Int32 → Int32 → St → Option (Int32 × St)) (hrec4 : ∀ (x2 : Int32) (x3 : Int32) (σ : St), rec4 x2 x3 σ = some (r, σr) → Go mX1_valueBy 1 0 0 n0 (Ki Γ ρ r σr) 0 0 4 [some (.ref this), some (.ref a1), some (.int x2), some (.int x3), none] [] (hp Γ ρ σ)) (x2 : Int32) (x3 : Int32) (s0 : Int32) (s1 : Int32) (σ : St) (hf : f_X1_valueBy_109 N ρ this a1 n1 rec4 x2 x3 s0 s1 σ = some (r, σr)) : Go mX1_valueBy 1 0 0 n0 (Ki Γ ρ r σr) 0 0 109 [some (.ref this), some (.ref a1), some (.int x2), some (.int x3), none] [.int s0, .int s1, .ref (ρ this 1)] (hp Γ ρ σ) := by
  unfold f_X1_valueBy_109 at hf
  obtain ⟨g3, hf⟩ := gd_some hf
  obtain ⟨σ4, eσ4, hf⟩ := nmd_some hf
  refine go_wI dX1_valueBy_109 (hs.1 _ 1 1 h0 rfl) (ib_in g3) ?_
  rw [eσ4]
  refine go_goto 149 dX1_valueBy_110 (by decide) ?_
  exact w_X1_valueBy_149 hs h0 h1 rec4 hrec4 x2 x3 σ4 hf
set_option maxRecDepth 100000 in
set_option maxHeartbeats 4000000 in
theorem w_X1_valueBy_169 {N : Nat} {Γ : SG} {ρ : Nat → Nat → Nat} (hs : Sh Γ ρ) {this : Nat} {a1 n1 : Nat} (h0 : Γ[this]? = some (0, 1)) (h1 : Γ[a1]? = some (1, n1)) {n0 : Nat} {r : Int32} {σr : St} (s0 : Int32) (σ : St) (hf : f_X1_valueBy_169 N ρ this a1 n1 s0 σ = some (r, σr)) : Go mX1_valueBy 1 0 0 n0 (Ki Γ ρ r σr) 0 0 169 [none, none, none, none, none] [.int s0] (hp Γ ρ σ) := by
  unfold f_X1_valueBy_169 at hf
  cases hf
  exact go_iret rfl dX1_valueBy_169 (Nat.le_refl _) ⟨rfl, rfl⟩
set_option maxRecDepth 100000 in
set_option maxHeartbeats 4000000 in
theorem w_X1_valueBy_155 {N : Nat} {Γ : SG} {ρ : Nat → Nat → Nat} (hs : Sh Γ ρ) {this : Nat} {a1 n1 : Nat} (h0 : Γ[this]? = some (0, 1)) (h1 : Γ[a1]? = some (1, n1)) {n0 : Nat} {r : Int32} {σr : St} (x2 : Int32) (σ : St) (hf : f_X1_valueBy_155 N ρ this a1 n1 x2 σ = some (r, σr)) : Go mX1_valueBy 1 0 0 n0 (Ki Γ ρ r σr) 0 0 155 [some (.ref this), none, some (.int x2), none, none] [] (hp Γ ρ σ) := by
  unfold f_X1_valueBy_155 at hf
  refine go_iload_n 2 dX1_valueBy_155 rfl rfl ?_
  refine go_if_le 168 dX1_valueBy_156 (by decide) (fun c5 => ?_) (fun c5 => ?_)
  · replace hf := (if_pos c5).symm.trans hf
    refine go_iconst 0 dX1_valueBy_168 (by decide) ?_
    refine go_msk [false, false, false, false, false] [none, none, none, none, none] rfl ?_
    exact w_X1_valueBy_169 hs h0 h1 0 σ hf
  · replace hf := (if_neg c5).symm.trans hf
    refine go_aload_n 0 dX1_valueBy_159 rfl rfl ?_
    refine go_fR fl_X1_13 dX1_valueBy_160 h0 (by decide) rfl ?_
    refine go_iconst 0 dX1_valueBy_163 (by decide) ?_
    obtain ⟨g6, hf⟩ := gd_some hf
    refine go_rI dX1_valueBy_164 (hs.1 _ 1 1 h0 rfl) (ib_in g6) ?_
    refine go_goto 169 dX1_valueBy_165 (by decide) ?_
    refine go_msk [false, false, false, false, false] [none, none, none, none, none] rfl ?_
    exact w_X1_valueBy_169 hs h0 h1 (σ.1 (ρ this 1) (0 : Int32).toNatClampNeg) σ hf
set_option maxRecDepth 100000 in
set_option maxHeartbeats 4000000 in
theorem v_X1_valueBy_4 {N : Nat} {Γ : SG} {ρ : Nat → Nat → Nat} (hs : Sh Γ ρ) {this : Nat} {a1 n1 : Nat} (h0 : Γ[this]? = some (0, 1)) (h1 : Γ[a1]? = some (1, n1)) {n0 : Nat} {r : Int32} {σr : St} (rec4 : Int32 → Int32 → St → Option (Int32 × St)) (hrec4 : ∀ (x2 : Int32) (x3 : Int32) (σ : St), rec4 x2 x3 σ = some (r, σr) → Go mX1_valueBy 1 0 0 n0 (Ki Γ ρ r σr) 0 0 4 [some (.ref this), some (.ref a1), some (.int x2), some (.int x3), none] [] (hp Γ ρ σ)) (x2 : Int32) (x3 : Int32) (σ : St) (hf : b_X1_valueBy_4 N ρ this a1 n1 rec4 x2 x3 σ = some (r, σr)) : Go mX1_valueBy 1 0 0 n0 (Ki Γ ρ r σr) 0 0 4 [some (.ref this), some (.ref a1), some (.int x2), some (.int x3), none] [] (hp Γ ρ σ) := by
  unfold b_X1_valueBy_4 at hf
  refine go_iload_n 3 dX1_valueBy_4 rfl rfl ?_
  refine go_aload_n 0 dX1_valueBy_5 rfl rfl ?_
  refine go_fI fl_X1_16 dX1_valueBy_6 h0 (by decide) rfl ?_
  refine go_icmp_ge 155 dX1_valueBy_9 (by decide) (fun c7 => ?_) (fun c7 => ?_)
  · replace hf := (if_pos c7).symm.trans hf
    refine go_msk [true, false, true, false, false] [some (.ref this), none, some (.int x2), none, none] rfl ?_
    exact w_X1_valueBy_155 hs h0 h1 x2 σ hf
  · replace hf := (if_neg c7).symm.trans hf
    refine go_iload_n 3 dX1_valueBy_12 rfl rfl ?_
    refine go_sipush 270 dX1_valueBy_13 (by decide) ?_
    refine go_icmp_ge 155 dX1_valueBy_16 (by decide) (fun c8 => ?_) (fun c8 => ?_)
    · replace hf := (if_pos c8).symm.trans hf
      refine go_msk [true, false, true, false, false] [some (.ref this), none, some (.int x2), none, none] rfl ?_
      exact w_X1_valueBy_155 hs h0 h1 x2 σ hf
    · replace hf := (if_neg c8).symm.trans hf
      refine go_aload_n 0 dX1_valueBy_19 rfl rfl ?_
      refine go_fR fl_X1_9 dX1_valueBy_20 h0 (by decide) rfl ?_
      refine go_iload_n 3 dX1_valueBy_23 rfl rfl ?_
      obtain ⟨g9, hf⟩ := gd_some hf
      refine go_rI dX1_valueBy_24 (hs.1 _ 1 0 h0 rfl) (ib_in g9) ?_
      obtain ⟨y10, ey10, hf⟩ := nmd_some hf
      refine go_nm ey10 ?_
      refine go_istore [some (.ref this), some (.ref a1), some (.int x2), some (.int x3), some (.int y10)] dX1_valueBy_25 (by decide) rfl ?_
      refine go_iload dX1_valueBy_27 rfl ?_
      refine go_bipush (-6) dX1_valueBy_29 (by decide) ?_
      refine go_icmp_lt 75 dX1_valueBy_31 (by decide) (fun c11 => ?_) (fun c11 => ?_)
      · replace hf := (if_pos c11).symm.trans hf
        refine go_iload dX1_valueBy_75 rfl ?_
        refine go_bipush (-9) dX1_valueBy_77 (by decide) ?_
        refine go_icmp_ne 113 dX1_valueBy_79 (by decide) (fun c12 => ?_) (fun c12 => ?_)
        · replace hf := (if_neg c12).symm.trans hf
          refine go_iload_n 2 dX1_valueBy_113 rfl rfl ?_
          refine go_iconst 1 dX1_valueBy_114 (by decide) ?_
          refine go_icmp_le 149 dX1_valueBy_115 (by decide) (fun c13 => ?_) (fun c13 => ?_)
          · replace hf := (if_pos c13).symm.trans hf
            refine go_msk [true, true, true, true, false] [some (.ref this), some (.ref a1), some (.int x2), some (.int x3), none] rfl ?_
            exact w_X1_valueBy_149 hs h0 h1 rec4 hrec4 x2 x3 σ hf
          · replace hf := (if_neg c13).symm.trans hf
            refine go_iinc (x2 + (-1)) [some (.ref this), some (.ref a1), some (.int (x2 + (-1))), some (.int x3), some (.int y10)] dX1_valueBy_118 rfl rfl (by decide) rfl ?_
            refine go_aload_n 0 dX1_valueBy_121 rfl rfl ?_
            refine go_fR fl_X1_13 dX1_valueBy_122 h0 (by decide) rfl ?_
            refine go_iload_n 2 dX1_valueBy_125 rfl rfl ?_
            refine go_iconst 1 dX1_valueBy_126 (by decide) ?_
            refine go_isub dX1_valueBy_127 ?_
            refine go_iload dX1_valueBy_128 rfl ?_
            refine go_ineg dX1_valueBy_130 ?_
            refine go_aload_n 0 dX1_valueBy_131 rfl rfl ?_
            refine go_fR fl_X1_13 dX1_valueBy_132 h0 (by decide) rfl ?_
            refine go_iload_n 2 dX1_valueBy_135 rfl rfl ?_
            refine go_iconst 1 dX1_valueBy_136 (by decide) ?_
            refine go_isub dX1_valueBy_137 ?_
            obtain ⟨g14, hf⟩ := gd_some hf
            refine go_rI dX1_valueBy_138 (hs.1 _ 1 1 h0 rfl) (ib_in g14) ?_
            refine go_aload_n 0 dX1_valueBy_139 rfl rfl ?_
            refine go_fR fl_X1_13 dX1_valueBy_140 h0 (by decide) rfl ?_
            refine go_iload_n 2 dX1_valueBy_143 rfl rfl ?_
            obtain ⟨g15, hf⟩ := gd_some hf
            refine go_rI dX1_valueBy_144 (hs.1 _ 1 1 h0 rfl) (ib_in g15) ?_
            obtain ⟨r16, σ17, q18, hf⟩ := bnd_some hf
            refine go_Si (av := [.int (-y10), .int (σ.1 (ρ this 1) ((x2 + (-1)) - 1).toNatClampNeg), .int (σ.1 (ρ this 1) (x2 + (-1)).toNatClampNeg)]) (rest := [.int ((x2 + (-1)) - 1), .ref (ρ this 1)]) (t_X1_joined hs  q18) ok_X1_joined ml_X1_25 dX1_valueBy_145 rfl rfl (by decide) (Nat.le_refl _) (Nat.le_refl _) (Nat.le_of_ble_eq_true rfl) ?_
            obtain ⟨g19, hf⟩ := gd_some hf
            obtain ⟨σ20, eσ20, hf⟩ := nmd_some hf
            refine go_wI dX1_valueBy_148 (hs.1 _ 1 1 h0 rfl) (ib_in g19) ?_
            rw [eσ20]
            refine go_msk [true, true, true, true, false] [some (.ref this), some (.ref a1), some (.int (x2 + (-1))), some (.int x3), none] rfl ?_
            exact w_X1_valueBy_149 hs h0 h1 rec4 hrec4 (x2 + (-1)) x3 σ20 hf
        · replace hf := (if_pos c12).symm.trans hf
          refine go_iload_n 2 dX1_valueBy_82 rfl rfl ?_
          refine go_if_le 149 dX1_valueBy_83 (by decide) (fun c21 => ?_) (fun c21 => ?_)
          · replace hf := (if_pos c21).symm.trans hf
            refine go_msk [true, true, true, true, false] [some (.ref this), some (.ref a1), some (.int x2), some (.int x3), none] rfl ?_
            exact w_X1_valueBy_149 hs h0 h1 rec4 hrec4 x2 x3 σ hf
          · replace hf := (if_neg c21).symm.trans hf
            refine go_aload_n 0 dX1_valueBy_86 rfl rfl ?_
            refine go_fR fl_X1_13 dX1_valueBy_87 h0 (by decide) rfl ?_
            refine go_iload_n 2 dX1_valueBy_90 rfl rfl ?_
            refine go_iconst 1 dX1_valueBy_91 (by decide) ?_
            refine go_isub dX1_valueBy_92 ?_
            refine go_aload_n 0 dX1_valueBy_93 rfl rfl ?_
            refine go_fR fl_X1_13 dX1_valueBy_94 h0 (by decide) rfl ?_
            refine go_iload_n 2 dX1_valueBy_97 rfl rfl ?_
            refine go_iconst 1 dX1_valueBy_98 (by decide) ?_
            refine go_isub dX1_valueBy_99 ?_
            obtain ⟨g22, hf⟩ := gd_some hf
            refine go_rI dX1_valueBy_100 (hs.1 _ 1 1 h0 rfl) (ib_in g22) ?_
            refine go_if_ne 108 dX1_valueBy_101 (by decide) (fun c23 => ?_) (fun c23 => ?_)
            · replace hf := (if_neg c23).symm.trans hf
              refine go_iconst 0 dX1_valueBy_108 (by decide) ?_
              refine go_msk [true, true, true, true, false] [some (.ref this), some (.ref a1), some (.int x2), some (.int x3), none] rfl ?_
              exact w_X1_valueBy_109 hs h0 h1 rec4 hrec4 x2 x3 0 (x2 - 1) σ hf
            · replace hf := (if_pos c23).symm.trans hf
              refine go_iconst 1 dX1_valueBy_104 (by decide) ?_
              refine go_goto 109 dX1_valueBy_105 (by decide) ?_
              refine go_msk [true, true, true, true, false] [some (.ref this), some (.ref a1), some (.int x2), some (.int x3), none] rfl ?_
              exact w_X1_valueBy_109 hs h0 h1 rec4 hrec4 x2 x3 1 (x2 - 1) σ hf
      · replace hf := (if_neg c11).symm.trans hf
        refine go_iload_n 2 dX1_valueBy_34 rfl rfl ?_
        refine go_bipush 30 dX1_valueBy_35 (by decide) ?_
        refine go_icmp_ge 149 dX1_valueBy_37 (by decide) (fun c24 => ?_) (fun c24 => ?_)
        · replace hf := (if_pos c24).symm.trans hf
          refine go_msk [true, true, true, true, false] [some (.ref this), some (.ref a1), some (.int x2), some (.int x3), none] rfl ?_
          exact w_X1_valueBy_149 hs h0 h1 rec4 hrec4 x2 x3 σ hf
        · replace hf := (if_neg c24).symm.trans hf
          refine go_aload_n 0 dX1_valueBy_40 rfl rfl ?_
          refine go_fR fl_X1_13 dX1_valueBy_41 h0 (by decide) rfl ?_
          refine go_iload_n 2 dX1_valueBy_44 rfl rfl ?_
          refine go_iload dX1_valueBy_45 rfl ?_
          refine go_if_ge 58 dX1_valueBy_47 (by decide) (fun c25 => ?_) (fun c25 => ?_)
          · replace hf := (if_pos c25).symm.trans hf
            exact w_X1_valueBy_58 hs h0 h1 rec4 hrec4 x2 x3 y10 x2 σ hf
          · replace hf := (if_neg c25).symm.trans hf
            refine go_iload dX1_valueBy_50 rfl ?_
            refine go_ineg dX1_valueBy_52 ?_
            refine go_aload_n 1 dX1_valueBy_53 rfl rfl ?_
            refine go_len dX1_valueBy_54 h1 (by decide) ?_
            refine go_icmp_lt 63 dX1_valueBy_55 (by decide) (fun c26 => ?_) (fun c26 => ?_)
            · replace hf := (if_pos c26).symm.trans hf
              refine go_aload_n 1 dX1_valueBy_63 rfl rfl ?_
              refine go_iload dX1_valueBy_64 rfl ?_
              refine go_ineg dX1_valueBy_66 ?_
              obtain ⟨g27, hf⟩ := gd_some hf
              refine go_rI dX1_valueBy_67 h1 (ib_in g27) ?_
              refine go_msk [true, true, true, true, false] [some (.ref this), some (.ref a1), some (.int x2), some (.int x3), none] rfl ?_
              exact w_X1_valueBy_68 hs h0 h1 rec4 hrec4 x2 x3 (σ.1 a1 (-y10).toNatClampNeg) x2 σ hf
            · replace hf := (if_neg c26).symm.trans hf
              exact w_X1_valueBy_58 hs h0 h1 rec4 hrec4 x2 x3 y10 x2 σ hf
theorem w_X1_valueBy_4 {N : Nat} {Γ : SG} {ρ : Nat → Nat → Nat} (hs : Sh Γ ρ) {this : Nat} {a1 n1 : Nat} (h0 : Γ[this]? = some (0, 1)) (h1 : Γ[a1]? = some (1, n1)) {n0 : Nat} {r : Int32} {σr : St} : ∀ (n : Nat) (x2 : Int32) (x3 : Int32) (σ : St), f_X1_valueBy_4 N ρ this a1 n1 n x2 x3 σ = some (r, σr) → Go mX1_valueBy 1 0 0 n0 (Ki Γ ρ r σr) 0 0 4 [some (.ref this), some (.ref a1), some (.int x2), some (.int x3), none] [] (hp Γ ρ σ) := by
  intro n
  induction n with
  | zero => intro x2 x3 σ hf; cases hf
  | succ n ih => intro x2 x3 σ hf; exact v_X1_valueBy_4 hs h0 h1 _ ih x2 x3 σ hf
set_option maxRecDepth 100000 in
set_option maxHeartbeats 4000000 in
theorem t_X1_valueBy {N : Nat} {Γ : SG} {ρ : Nat → Nat → Nat} (hs : Sh Γ ρ) {this : Nat} {a1 n1 : Nat} (h0 : Γ[this]? = some (0, 1)) (h1 : Γ[a1]? = some (1, n1)) {σ : St} {r : Int32} {σr : St} (hf : f_X1_valueBy N ρ this a1 n1 σ = some (r, σr)) : Tri mX1_valueBy 1 0 0 [.ref this, .ref a1] (hp Γ ρ σ) (Ki Γ ρ r σr) := by
  unfold f_X1_valueBy at hf
  refine tri_of [some (.ref this), some (.ref a1), none, none, none] (plainFor_of_name rfl) rfl (Nat.le_of_ble_eq_true rfl) ?_
  refine go_iconst 0 dX1_valueBy_0 (by decide) ?_
  refine go_istore_n 2 [some (.ref this), some (.ref a1), some (.int 0), none, none] dX1_valueBy_1 rfl (by decide) rfl ?_
  refine go_iconst 0 dX1_valueBy_2 (by decide) ?_
  refine go_istore_n 3 [some (.ref this), some (.ref a1), some (.int 0), some (.int 0), none] dX1_valueBy_3 rfl (by decide) rfl ?_
  exact w_X1_valueBy_4 hs h0 h1 N 0 0 σ hf
def f_X10_hasRoomFor_17 (N : Nat) (ρ : Nat → Nat → Nat) (this : Nat) (a1 : Int32) (s0 : Int32) (σ : St) : Option (Int32 × St) :=
  gd (bb s0) <|
  some (s0, σ)
def f_X10_hasRoomFor (N : Nat) (ρ : Nat → Nat → Nat) (this : Nat) (a1 : Int32) (σ : St) : Option (Int32 × St) :=
  if 1600 < ((σ.1 this 1) + a1 : Int32) then
    f_X10_hasRoomFor_17 N ρ this a1 0 σ
  else
    f_X10_hasRoomFor_17 N ρ this a1 1 σ
set_option maxRecDepth 100000 in
set_option maxHeartbeats 4000000 in
theorem w_X10_hasRoomFor_17 {N : Nat} {Γ : SG} {ρ : Nat → Nat → Nat} (hs : Sh Γ ρ) {this : Nat} {a1 : Int32} (h0 : Γ[this]? = some (0, 10)) {n0 : Nat} {r : Int32} {σr : St} (s0 : Int32) (σ : St) (hf : f_X10_hasRoomFor_17 N ρ this a1 s0 σ = some (r, σr)) : Go mX10_hasRoomFor 0 0 0 n0 (Ki Γ ρ r σr) 0 0 17 [none, none] [.int s0] (hp Γ ρ σ) := by
  unfold f_X10_hasRoomFor_17 at hf
  obtain ⟨g1, hf⟩ := gd_some hf
  cases hf
  exact go_zret rfl (bb_of g1) dX10_hasRoomFor_17 (Nat.le_refl _) ⟨rfl, rfl⟩
set_option maxRecDepth 100000 in
set_option maxHeartbeats 4000000 in
theorem t_X10_hasRoomFor {N : Nat} {Γ : SG} {ρ : Nat → Nat → Nat} (hs : Sh Γ ρ) {this : Nat} {a1 : Int32} (h0 : Γ[this]? = some (0, 10)) {σ : St} {r : Int32} {σr : St} (hf : f_X10_hasRoomFor N ρ this a1 σ = some (r, σr)) : Tri mX10_hasRoomFor 0 0 0 [.ref this, .int a1] (hp Γ ρ σ) (Ki Γ ρ r σr) := by
  unfold f_X10_hasRoomFor at hf
  refine tri_of [some (.ref this), some (.int a1)] (plainFor_of_name rfl) rfl (Nat.le_of_ble_eq_true rfl) ?_
  refine go_aload_n 0 dX10_hasRoomFor_0 rfl rfl ?_
  refine go_fI fl_X10_13 dX10_hasRoomFor_1 h0 (by decide) rfl ?_
  refine go_iload_n 1 dX10_hasRoomFor_4 rfl rfl ?_
  refine go_iadd dX10_hasRoomFor_5 ?_
  refine go_sipush 1600 dX10_hasRoomFor_6 (by decide) ?_
  refine go_icmp_gt 16 dX10_hasRoomFor_9 (by decide) (fun c2 => ?_) (fun c2 => ?_)
  · replace hf := (if_pos c2).symm.trans hf
    refine go_iconst 0 dX10_hasRoomFor_16 (by decide) ?_
    refine go_msk [false, false] [none, none] rfl ?_
    exact w_X10_hasRoomFor_17 hs h0 0 σ hf
  · replace hf := (if_neg c2).symm.trans hf
    refine go_iconst 1 dX10_hasRoomFor_12 (by decide) ?_
    refine go_goto 17 dX10_hasRoomFor_13 (by decide) ?_
    refine go_msk [false, false] [none, none] rfl ?_
    exact w_X10_hasRoomFor_17 hs h0 1 σ hf
def f_X10_put_47 (N : Nat) (ρ : Nat → Nat → Nat) (this : Nat) (a1 : Int32) (rec3 : Int32 → St → Option (Int32 × St)) (x2 : Int32) (σ : St) : Option (Int32 × St) :=
  rec3 (x2 + (-8)) σ
def b_X10_put_3 (N : Nat) (ρ : Nat → Nat → Nat) (this : Nat) (a1 : Int32) (rec3 : Int32 → St → Option (Int32 × St)) (x2 : Int32) (σ : St) : Option (Int32 × St) :=
  if (x2 : Int32) < 0 then
    some (0, σ)
  else
    if (σ.1 this 1 : Int32) < 0 then
      f_X10_put_47 N ρ this a1 rec3 x2 σ
    else
      if 1600 ≤ (σ.1 this 1 : Int32) then
        f_X10_put_47 N ρ this a1 rec3 x2 σ
      else
        gd (ib (σ.1 this 1) 1600) <|
        nmd (sI σ (ρ this 0) (σ.1 this 1).toNatClampNeg (vp_nar .byte ((ushr a1 x2).toInt8.toInt32))) fun σ5 =>
        nmd (sI σ5 this 1 ((σ5.1 this 1) + 1)) fun σ6 =>
        f_X10_put_47 N ρ this a1 rec3 x2 σ6
def f_X10_put_3 (N : Nat) (ρ : Nat → Nat → Nat) (this : Nat) (a1 : Int32) : Nat → Int32 → St → Option (Int32 × St)
  | 0, _, _ => none
  | n + 1, x2, σ => b_X10_put_3 N ρ this a1 (f_X10_put_3 N ρ this a1 n) x2 σ
def f_X10_put (N : Nat) (ρ : Nat → Nat → Nat) (this : Nat) (a1 : Int32) (σ : St) : Option (Int32 × St) :=
  f_X10_put_3 N ρ this a1 N 24 σ
set_option maxRecDepth 100000 in
set_option maxHeartbeats 4000000 in
theorem w_X10_put_47 {N : Nat} {Γ : SG} {ρ : Nat → Nat → Nat} (hs : Sh Γ ρ) {this : Nat} {a1 : Int32} (h0 : Γ[this]? = some (0, 10)) {n0 : Nat} {r : Int32} {σr : St} (rec3 : Int32 → St → Option (Int32 × St)) (hrec3 : ∀ (x2 : Int32) (σ : St), rec3 x2 σ = some (r, σr) → Go mX10_put 0 0 0 n0 (Kv Γ ρ σr) 0 0 3 [some (.ref this), some (.int a1), some (.int x2)] [] (hp Γ ρ σ)) (x2 : Int32) (σ : St) (hf : f_X10_put_47 N ρ this a1 rec3 x2 σ = some (r, σr)) : Go mX10_put 0 0 0 n0 (Kv Γ ρ σr) 0 0 47 [some (.ref this), some (.int a1), some (.int x2)] [] (hp Γ ρ σ) := by
  unfold f_X10_put_47 at hf
  refine go_iinc (x2 + (-8)) [some (.ref this), some (.int a1), some (.int (x2 + (-8)))] dX10_put_47 rfl rfl (by decide) rfl ?_
  refine go_goto 3 dX10_put_50 (by decide) ?_
  exact hrec3 (x2 + (-8)) σ hf
set_option maxRecDepth 100000 in
set_option maxHeartbeats 4000000 in
theorem v_X10_put_3 {N : Nat} {Γ : SG} {ρ : Nat → Nat → Nat} (hs : Sh Γ ρ) {this : Nat} {a1 : Int32} (h0 : Γ[this]? = some (0, 10)) {n0 : Nat} {r : Int32} {σr : St} (rec3 : Int32 → St → Option (Int32 × St)) (hrec3 : ∀ (x2 : Int32) (σ : St), rec3 x2 σ = some (r, σr) → Go mX10_put 0 0 0 n0 (Kv Γ ρ σr) 0 0 3 [some (.ref this), some (.int a1), some (.int x2)] [] (hp Γ ρ σ)) (x2 : Int32) (σ : St) (hf : b_X10_put_3 N ρ this a1 rec3 x2 σ = some (r, σr)) : Go mX10_put 0 0 0 n0 (Kv Γ ρ σr) 0 0 3 [some (.ref this), some (.int a1), some (.int x2)] [] (hp Γ ρ σ) := by
  unfold b_X10_put_3 at hf
  refine go_iload_n 2 dX10_put_3 rfl rfl ?_
  refine go_if_lt 53 dX10_put_4 (by decide) (fun c1 => ?_) (fun c1 => ?_)
  · replace hf := (if_pos c1).symm.trans hf
    cases hf
    exact go_vret rfl dX10_put_53 (Nat.le_refl _) ⟨rfl, rfl⟩
  · replace hf := (if_neg c1).symm.trans hf
    refine go_aload_n 0 dX10_put_7 rfl rfl ?_
    refine go_fI fl_X10_13 dX10_put_8 h0 (by decide) rfl ?_
    refine go_if_lt 47 dX10_put_11 (by decide) (fun c2 => ?_) (fun c2 => ?_)
    · replace hf := (if_pos c2).symm.trans hf
      exact w_X10_put_47 hs h0 rec3 hrec3 x2 σ hf
    · replace hf := (if_neg c2).symm.trans hf
      refine go_aload_n 0 dX10_put_14 rfl rfl ?_
      refine go_fI fl_X10_13 dX10_put_15 h0 (by decide) rfl ?_
      refine go_sipush 1600 dX10_put_18 (by decide) ?_
      refine go_icmp_ge 47 dX10_put_21 (by decide) (fun c3 => ?_) (fun c3 => ?_)
      · replace hf := (if_pos c3).symm.trans hf
        exact w_X10_put_47 hs h0 rec3 hrec3 x2 σ hf
      · replace hf := (if_neg c3).symm.trans hf
        refine go_aload_n 0 dX10_put_24 rfl rfl ?_
        refine go_fR fl_X10_9 dX10_put_25 h0 (by decide) rfl ?_
        refine go_aload_n 0 dX10_put_28 rfl rfl ?_
        refine go_fI fl_X10_13 dX10_put_29 h0 (by decide) rfl ?_
        refine go_iload_n 1 dX10_put_32 rfl rfl ?_
        refine go_iload_n 2 dX10_put_33 rfl rfl ?_
        refine go_iushr dX10_put_34 ?_
        refine go_i2b dX10_put_35 ?_
        obtain ⟨g4, hf⟩ := gd_some hf
        obtain ⟨σ5, eσ5, hf⟩ := nmd_some hf
        refine go_wB dX10_put_36 (hs.1 _ 10 0 h0 rfl) (ib_in g4) ?_
        rw [eσ5]
        refine go_aload_n 0 dX10_put_37 rfl rfl ?_
        refine go_dup dX10_put_38 rfl ?_
        refine go_fI fl_X10_13 dX10_put_39 h0 (by decide) rfl ?_
        refine go_iconst 1 dX10_put_42 (by decide) ?_
        refine go_iadd dX10_put_43 ?_
        obtain ⟨σ6, eσ6, hf⟩ := nmd_some hf
        refine go_pI fl_X10_13 ft_10_1 (okv_i _) dX10_put_44 h0 (by decide) rfl ?_
        rw [eσ6]
        exact w_X10_put_47 hs h0 rec3 hrec3 x2 σ6 hf
theorem w_X10_put_3 {N : Nat} {Γ : SG} {ρ : Nat → Nat → Nat} (hs : Sh Γ ρ) {this : Nat} {a1 : Int32} (h0 : Γ[this]? = some (0, 10)) {n0 : Nat} {r : Int32} {σr : St} : ∀ (n : Nat) (x2 : Int32) (σ : St), f_X10_put_3 N ρ this a1 n x2 σ = some (r, σr) → Go mX10_put 0 0 0 n0 (Kv Γ ρ σr) 0 0 3 [some (.ref this), some (.int a1), some (.int x2)] [] (hp Γ ρ σ) := by
  intro n
  induction n with
  | zero => intro x2 σ hf; cases hf
  | succ n ih => intro x2 σ hf; exact v_X10_put_3 hs h0 _ ih x2 σ hf
set_option maxRecDepth 100000 in
set_option maxHeartbeats 4000000 in
theorem t_X10_put {N : Nat} {Γ : SG} {ρ : Nat → Nat → Nat} (hs : Sh Γ ρ) {this : Nat} {a1 : Int32} (h0 : Γ[this]? = some (0, 10)) {σ : St} {r : Int32} {σr : St} (hf : f_X10_put N ρ this a1 σ = some (r, σr)) : Tri mX10_put 0 0 0 [.ref this, .int a1] (hp Γ ρ σ) (Kv Γ ρ σr) := by
  unfold f_X10_put at hf
  refine tri_of [some (.ref this), some (.int a1), none] (plainFor_of_name rfl) rfl (Nat.le_of_ble_eq_true rfl) ?_
  refine go_bipush 24 dX10_put_0 (by decide) ?_
  refine go_istore_n 2 [some (.ref this), some (.int a1), some (.int 24)] dX10_put_2 rfl (by decide) rfl ?_
  exact w_X10_put_3 hs h0 N 24 σ hf
