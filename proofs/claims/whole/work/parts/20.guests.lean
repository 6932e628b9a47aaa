def f_X3_worthAt_24 (N : Nat) (ρ : Nat → Nat → Nat) (this : Nat) (a1 : Int32) (a2 : Int32) (a3 : Int32) (s0 : Int32) (σ : St) : Option (Int32 × St) :=
  some (s0, σ)
def f_X3_worthAt (N : Nat) (ρ : Nat → Nat → Nat) (this : Nat) (a1 : Int32) (a2 : Int32) (a3 : Int32) (σ : St) : Option (Int32 × St) :=
  if (a2 : Int32) = a3 then
    gd (ib a1 2) <|
    gd (ib a2 6) <|
    f_X3_worthAt_24 N ρ this a1 a2 a3 (σ.1 (ρ (ρ this 1) a1.toNatClampNeg) a2.toNatClampNeg) σ
  else
    gd (ib a1 2) <|
    gd (ib a2 6) <|
    f_X3_worthAt_24 N ρ this a1 a2 a3 (σ.1 (ρ (ρ this 0) a1.toNatClampNeg) a2.toNatClampNeg) σ
set_option maxRecDepth 100000 in
set_option maxHeartbeats 4000000 in
theorem w_X3_worthAt_24 {N : Nat} {Γ : SG} {ρ : Nat → Nat → Nat} (hs : Sh Γ ρ) {this : Nat} {a1 : Int32} {a2 : Int32} {a3 : Int32} (h0 : Γ[this]? = some (0, 3)) {n0 : Nat} {r : Int32} {σr : St} (s0 : Int32) (σ : St) (hf : f_X3_worthAt_24 N ρ this a1 a2 a3 s0 σ = some (r, σr)) : Go mX3_worthAt 0 0 0 n0 (Ki Γ ρ r σr) 0 0 24 [none, none, none, none] [.int s0] (hp Γ ρ σ) := by
  unfold f_X3_worthAt_24 at hf
  cases hf
  exact go_iret rfl dX3_worthAt_24 (Nat.le_refl _) ⟨rfl, rfl⟩
set_option maxRecDepth 100000 in
set_option maxHeartbeats 4000000 in
theorem t_X3_worthAt {N : Nat} {Γ : SG} {ρ : Nat → Nat → Nat} (hs : Sh Γ ρ) {this : Nat} {a1 : Int32} {a2 : Int32} {a3 : Int32} (h0 : Γ[this]? = some (0, 3)) {σ : St} {r : Int32} {σr : St} (hf : f_X3_worthAt N ρ this a1 a2 a3 σ = some (r, σr)) : Tri mX3_worthAt 0 0 0 [.ref this, .int a1, .int a2, .int a3] (hp Γ ρ σ) (Ki Γ ρ r σr) := by
  unfold f_X3_worthAt at hf
  refine tri_of [some (.ref this), some (.int a1), some (.int a2), some (.int a3)] (plainFor_of_name rfl) rfl (Nat.le_of_ble_eq_true rfl) ?_
  refine go_iload_n 2 dX3_worthAt_0 rfl rfl ?_
  refine go_iload_n 3 dX3_worthAt_1 rfl rfl ?_
  refine go_icmp_ne 16 dX3_worthAt_2 (by decide) (fun c1 => ?_) (fun c1 => ?_)
  · replace hf := (if_neg c1).symm.trans hf
    refine go_aload_n 0 dX3_worthAt_16 rfl rfl ?_
    refine go_fR fl_X3_13 dX3_worthAt_17 h0 (by decide) rfl ?_
    refine go_iload_n 1 dX3_worthAt_20 rfl rfl ?_
    obtain ⟨g2, hf⟩ := gd_some hf
    refine go_rR dX3_worthAt_21 (hs.1 _ 3 0 h0 rfl) (ib_in g2) ?_
    refine go_iload_n 2 dX3_worthAt_22 rfl rfl ?_
    obtain ⟨g3, hf⟩ := gd_some hf
    refine go_rI dX3_worthAt_23 (sh_in hs (hs.1 _ 3 0 h0 rfl) g2) (ib_in g3) ?_
    refine go_msk [false, false, false, false] [none, none, none, none] rfl ?_
    exact w_X3_worthAt_24 hs h0 (σ.1 (ρ (ρ this 0) a1.toNatClampNeg) a2.toNatClampNeg) σ hf
  · replace hf := (if_pos c1).symm.trans hf
    refine go_aload_n 0 dX3_worthAt_5 rfl rfl ?_
    refine go_fR fl_X3_18 dX3_worthAt_6 h0 (by decide) rfl ?_
    refine go_iload_n 1 dX3_worthAt_9 rfl rfl ?_
    obtain ⟨g4, hf⟩ := gd_some hf
    refine go_rR dX3_worthAt_10 (hs.1 _ 3 1 h0 rfl) (ib_in g4) ?_
    refine go_iload_n 2 dX3_worthAt_11 rfl rfl ?_
    obtain ⟨g5, hf⟩ := gd_some hf
    refine go_rI dX3_worthAt_12 (sh_in hs (hs.1 _ 3 1 h0 rfl) g4) (ib_in g5) ?_
    refine go_goto 24 dX3_worthAt_13 (by decide) ?_
    refine go_msk [false, false, false, false] [none, none, none, none] rfl ?_
    exact w_X3_worthAt_24 hs h0 (σ.1 (ρ (ρ this 1) a1.toNatClampNeg) a2.toNatClampNeg) σ hf
def b_X3_staysAt_12 (N : Nat) (ρ : Nat → Nat → Nat) (this : Nat) (a1 : Int32) (a2 : Int32) (a3 : Int32) (a4 : Int32) (rec12 : Int32 → Int32 → St → Option (Int32 × St)) (x5 : Int32) (x6 : Int32) (σ : St) : Option (Int32 × St) :=
  if a4 ≤ (x6 : Int32) then
    some (1, σ)
  else
    bnd (f_X3_worthAt N ρ this a1 x6 a3 σ) fun r2 σ3 =>
    if x5 ≤ (r2 : Int32) then
      rec12 x5 (x6 + 1) σ3
    else
      some (0, σ3)
def f_X3_staysAt_12 (N : Nat) (ρ : Nat → Nat → Nat) (this : Nat) (a1 : Int32) (a2 : Int32) (a3 : Int32) (a4 : Int32) : Nat → Int32 → Int32 → St → Option (Int32 × St)
  | 0, _, _, _ => none
  | n + 1, x5, x6, σ => b_X3_staysAt_12 N ρ this a1 a2 a3 a4 (f_X3_staysAt_12 N ρ this a1 a2 a3 a4 n) x5 x6 σ
def f_X3_staysAt (N : Nat) (ρ : Nat → Nat → Nat) (this : Nat) (a1 : Int32) (a2 : Int32) (a3 : Int32) (a4 : Int32) (σ : St) : Option (Int32 × St) :=
  bnd (f_X3_worthAt N ρ this a1 a2 a3 σ) fun r6 σ7 =>
  f_X3_staysAt_12 N ρ this a1 a2 a3 a4 N r6 0 σ7
set_option maxRecDepth 100000 in
set_option maxHeartbeats 4000000 in
theorem v_X3_staysAt_12 {N : Nat} {Γ : SG} {ρ : Nat → Nat → Nat} (hs : Sh Γ ρ) {this : Nat} {a1 : Int32} {a2 : Int32} {a3 : Int32} {a4 : Int32} (h0 : Γ[this]? = some (0, 3)) {n0 : Nat} {r : Int32} {σr : St} (rec12 : Int32 → Int32 → St → Option (Int32 × St)) (hrec12 : ∀ (x5 : Int32) (x6 : Int32) (σ : St), rec12 x5 x6 σ = some (r, σr) → Go mX3_staysAt 1 0 0 n0 (Ki Γ ρ r σr) 0 0 12 [some (.ref this), some (.int a1), none, some (.int a3), some (.int a4), some (.int x5), some (.int x6)] [] (hp Γ ρ σ)) (x5 : Int32) (x6 : Int32) (σ : St) (hf : b_X3_staysAt_12 N ρ this a1 a2 a3 a4 rec12 x5 x6 σ = some (r, σr)) : Go mX3_staysAt 1 0 0 n0 (Ki Γ ρ r σr) 0 0 12 [some (.ref this), some (.int a1), none, some (.int a3), some (.int a4), some (.int x5), some (.int x6)] [] (hp Γ ρ σ) := by
  unfold b_X3_staysAt_12 at hf
  refine go_iload dX3_staysAt_12 rfl ?_
  refine go_iload dX3_staysAt_14 rfl ?_
  refine go_icmp_ge 40 dX3_staysAt_16 (by decide) (fun c1 => ?_) (fun c1 => ?_)
  · replace hf := (if_pos c1).symm.trans hf
    refine go_iconst 1 dX3_staysAt_40 (by decide) ?_
    cases hf
    exact go_zret rfl (by decide) dX3_staysAt_41 (Nat.le_refl _) ⟨rfl, rfl⟩
  · replace hf := (if_neg c1).symm.trans hf
    refine go_aload_n 0 dX3_staysAt_19 rfl rfl ?_
    refine go_iload_n 1 dX3_staysAt_20 rfl rfl ?_
    refine go_iload dX3_staysAt_21 rfl ?_
    refine go_iload_n 3 dX3_staysAt_23 rfl rfl ?_
    obtain ⟨r2, σ3, q4, hf⟩ := bnd_some hf
    refine go_Vi (av := [.int a1, .int x6, .int a3]) (rest := []) (t_X3_worthAt hs h0 q4) ok_X3_worthAt ml_X3_59 dX3_staysAt_24 h0 rfl rfl (by decide) (Nat.le_refl _) (Nat.le_refl _) (Nat.le_of_ble_eq_true rfl) ?_
    refine go_iload dX3_staysAt_27 rfl ?_
    refine go_icmp_ge 34 dX3_staysAt_29 (by decide) (fun c5 => ?_) (fun c5 => ?_)
    · replace hf := (if_pos c5).symm.trans hf
      refine go_iinc (x6 + 1) [some (.ref this), some (.int a1), none, some (.int a3), some (.int a4), some (.int x5), some (.int (x6 + 1))] dX3_staysAt_34 rfl rfl (by decide) rfl ?_
      refine go_goto 12 dX3_staysAt_37 (by decide) ?_
      exact hrec12 x5 (x6 + 1) σ3 hf
    · replace hf := (if_neg c5).symm.trans hf
      refine go_iconst 0 dX3_staysAt_32 (by decide) ?_
      cases hf
      exact go_zret rfl (by decide) dX3_staysAt_33 (Nat.le_refl _) ⟨rfl, rfl⟩
theorem w_X3_staysAt_12 {N : Nat} {Γ : SG} {ρ : Nat → Nat → Nat} (hs : Sh Γ ρ) {this : Nat} {a1 : Int32} {a2 : Int32} {a3 : Int32} {a4 : Int32} (h0 : Γ[this]? = some (0, 3)) {n0 : Nat} {r : Int32} {σr : St} : ∀ (n : Nat) (x5 : Int32) (x6 : Int32) (σ : St), f_X3_staysAt_12 N ρ this a1 a2 a3 a4 n x5 x6 σ = some (r, σr) → Go mX3_staysAt 1 0 0 n0 (Ki Γ ρ r σr) 0 0 12 [some (.ref this), some (.int a1), none, some (.int a3), some (.int a4), some (.int x5), some (.int x6)] [] (hp Γ ρ σ) := by
  intro n
  induction n with
  | zero => intro x5 x6 σ hf; cases hf
  | succ n ih => intro x5 x6 σ hf; exact v_X3_staysAt_12 hs h0 _ ih x5 x6 σ hf
set_option maxRecDepth 100000 in
set_option maxHeartbeats 4000000 in
theorem t_X3_staysAt {N : Nat} {Γ : SG} {ρ : Nat → Nat → Nat} (hs : Sh Γ ρ) {this : Nat} {a1 : Int32} {a2 : Int32} {a3 : Int32} {a4 : Int32} (h0 : Γ[this]? = some (0, 3)) {σ : St} {r : Int32} {σr : St} (hf : f_X3_staysAt N ρ this a1 a2 a3 a4 σ = some (r, σr)) : Tri mX3_staysAt 1 0 0 [.ref this, .int a1, .int a2, .int a3, .int a4] (hp Γ ρ σ) (Ki Γ ρ r σr) := by
  unfold f_X3_staysAt at hf
  refine tri_of [some (.ref this), some (.int a1), some (.int a2), some (.int a3), some (.int a4), none, none] (plainFor_of_name rfl) rfl (Nat.le_of_ble_eq_true rfl) ?_
  refine go_aload_n 0 dX3_staysAt_0 rfl rfl ?_
  refine go_iload_n 1 dX3_staysAt_1 rfl rfl ?_
  refine go_iload_n 2 dX3_staysAt_2 rfl rfl ?_
  refine go_iload_n 3 dX3_staysAt_3 rfl rfl ?_
  obtain ⟨r6, σ7, q8, hf⟩ := bnd_some hf
  refine go_Vi (av := [.int a1, .int a2, .int a3]) (rest := []) (t_X3_worthAt hs h0 q8) ok_X3_worthAt ml_X3_59 dX3_staysAt_4 h0 rfl rfl (by decide) (Nat.le_refl _) (Nat.le_refl _) (Nat.le_of_ble_eq_true rfl) ?_
  refine go_istore [some (.ref this), some (.int a1), some (.int a2), some (.int a3), some (.int a4), some (.int r6), none] dX3_staysAt_7 (by decide) rfl ?_
  refine go_iconst 0 dX3_staysAt_9 (by decide) ?_
  refine go_istore [some (.ref this), some (.int a1), some (.int a2), some (.int a3), some (.int a4), some (.int r6), some (.int 0)] dX3_staysAt_10 (by decide) rfl ?_
  refine go_msk [true, true, false, true, true, true, true] [some (.ref this), some (.int a1), none, some (.int a3), some (.int a4), some (.int r6), some (.int 0)] rfl ?_
  exact w_X3_staysAt_12 hs h0 N r6 0 σ7 hf
def f_X3_worth_33 (N : Nat) (ρ : Nat → Nat → Nat) (a1 : Nat) (a2 : Int32) (a3 : Int32) (a4 : Int32) (s0 : Int32) (s1 : Int32) (σ : St) : Option (Int32 × St) :=
  some (s1 + s0, σ)
def f_X3_worth_13 (N : Nat) (ρ : Nat → Nat → Nat) (a1 : Nat) (a2 : Int32) (a3 : Int32) (a4 : Int32) (s0 : Int32) (σ : St) : Option (Int32 × St) :=
  bnd (f_X0_wayOf N ρ a1 a2 a3 σ) fun r1 σ2 =>
  if (s0 : Int32) = 0 then
    f_X3_worth_33 N ρ a1 a2 a3 a4 1000 r1 σ2
  else
    f_X3_worth_33 N ρ a1 a2 a3 a4 0 r1 σ2
def f_X3_worth (N : Nat) (ρ : Nat → Nat → Nat) (a1 : Nat) (a2 : Int32) (a3 : Int32) (a4 : Int32) (σ : St) : Option (Int32 × St) :=
  if ((a4 >>> (a2 &&& 31)) &&& 1 : Int32) = 0 then
    f_X3_worth_13 N ρ a1 a2 a3 a4 0 σ
  else
    f_X3_worth_13 N ρ a1 a2 a3 a4 1 σ
set_option maxRecDepth 100000 in
set_option maxHeartbeats 4000000 in
theorem w_X3_worth_33 {N : Nat} {Γ : SG} {ρ : Nat → Nat → Nat} (hs : Sh Γ ρ) {a1 : Nat} {a2 : Int32} {a3 : Int32} {a4 : Int32} (h1 : Γ[a1]? = some (0, 0)) {n0 : Nat} {r : Int32} {σr : St} (s0 : Int32) (s1 : Int32) (σ : St) (hf : f_X3_worth_33 N ρ a1 a2 a3 a4 s0 s1 σ = some (r, σr)) : Go mX3_worth 2 0 0 n0 (Ki Γ ρ r σr) 0 0 33 [none, none, none, none, none] [.int s0, .int s1] (hp Γ ρ σ) := by
  unfold f_X3_worth_33 at hf
  refine go_iadd dX3_worth_33 ?_
  cases hf
  exact go_iret rfl dX3_worth_34 (Nat.le_refl _) ⟨rfl, rfl⟩
set_option maxRecDepth 100000 in
set_option maxHeartbeats 4000000 in
theorem w_X3_worth_13 {N : Nat} {Γ : SG} {ρ : Nat → Nat → Nat} (hs : Sh Γ ρ) {a1 : Nat} {a2 : Int32} {a3 : Int32} {a4 : Int32} (h1 : Γ[a1]? = some (0, 0)) {n0 : Nat} {r : Int32} {σr : St} (s0 : Int32) (σ : St) (hf : f_X3_worth_13 N ρ a1 a2 a3 a4 s0 σ = some (r, σr)) : Go mX3_worth 2 0 0 n0 (Ki Γ ρ r σr) 0 0 13 [some (.ref a1), some (.int a2), some (.int a3), none, none] [.int s0] (hp Γ ρ σ) := by
  unfold f_X3_worth_13 at hf
  refine go_istore [some (.ref a1), some (.int a2), some (.int a3), none, some (.int s0)] dX3_worth_13 (by decide) rfl ?_
  refine go_aload_n 0 dX3_worth_15 rfl rfl ?_
  refine go_iload_n 1 dX3_worth_16 rfl rfl ?_
  refine go_iload_n 2 dX3_worth_17 rfl rfl ?_
  obtain ⟨r1, σ2, q3, hf⟩ := bnd_some hf
  refine go_Vi (av := [.int a2, .int a3]) (rest := []) (t_X0_wayOf hs h1 q3) ok_X0_wayOf ml_X3_55 dX3_worth_18 h1 rfl rfl (by decide) (Nat.le_refl _) (Nat.le_refl _) (Nat.le_of_ble_eq_true rfl) ?_
  refine go_iload dX3_worth_21 rfl ?_
  refine go_if_eq 30 dX3_worth_23 (by decide) (fun c4 => ?_) (fun c4 => ?_)
  · replace hf := (if_pos c4).symm.trans hf
    refine go_sipush 1000 dX3_worth_30 (by decide) ?_
    refine go_msk [false, false, false, false, false] [none, none, none, none, none] rfl ?_
    exact w_X3_worth_33 hs h1 1000 r1 σ2 hf
  · replace hf := (if_neg c4).symm.trans hf
    refine go_iconst 0 dX3_worth_26 (by decide) ?_
    refine go_goto 33 dX3_worth_27 (by decide) ?_
    refine go_msk [false, false, false, false, false] [none, none, none, none, none] rfl ?_
    exact w_X3_worth_33 hs h1 0 r1 σ2 hf
set_option maxRecDepth 100000 in
set_option maxHeartbeats 4000000 in
theorem t_X3_worth {N : Nat} {Γ : SG} {ρ : Nat → Nat → Nat} (hs : Sh Γ ρ) {a1 : Nat} {a2 : Int32} {a3 : Int32} {a4 : Int32} (h1 : Γ[a1]? = some (0, 0)) {σ : St} {r : Int32} {σr : St} (hf : f_X3_worth N ρ a1 a2 a3 a4 σ = some (r, σr)) : Tri mX3_worth 2 0 0 [.ref a1, .int a2, .int a3, .int a4] (hp Γ ρ σ) (Ki Γ ρ r σr) := by
  unfold f_X3_worth at hf
  refine tri_of [some (.ref a1), some (.int a2), some (.int a3), some (.int a4), none] (plainFor_of_name rfl) rfl (Nat.le_of_ble_eq_true rfl) ?_
  refine go_iload_n 3 dX3_worth_0 rfl rfl ?_
  refine go_iload_n 1 dX3_worth_1 rfl rfl ?_
  refine go_ishr dX3_worth_2 ?_
  refine go_iconst 1 dX3_worth_3 (by decide) ?_
  refine go_iand dX3_worth_4 ?_
  refine go_if_eq 12 dX3_worth_5 (by decide) (fun c5 => ?_) (fun c5 => ?_)
  · replace hf := (if_pos c5).symm.trans hf
    refine go_iconst 0 dX3_worth_12 (by decide) ?_
    refine go_msk [true, true, true, false, false] [some (.ref a1), some (.int a2), some (.int a3), none, none] rfl ?_
    exact w_X3_worth_13 hs h1 0 σ hf
  · replace hf := (if_neg c5).symm.trans hf
    refine go_iconst 1 dX3_worth_8 (by decide) ?_
    refine go_goto 13 dX3_worth_9 (by decide) ?_
    refine go_msk [true, true, true, false, false] [some (.ref a1), some (.int a2), some (.int a3), none, none] rfl ?_
    exact w_X3_worth_13 hs h1 1 σ hf
def f_X3_weigh_68 (N : Nat) (ρ : Nat → Nat → Nat) (this : Nat) (a1 : Nat) (a2 : Nat) (a3 : Int32) (a4 : Int32) (a5 : Int32) (x7 : Int32) (s0 : Int32) (σ : St) : Option (Int32 × St) :=
  gd (ib 0 2) <|
  bnd (f_X3_worth N ρ a1 a4 a3 x7 σ) fun r2 σ3 =>
  gd (ib a3 6) <|
  nmd (sI σ3 (ρ (ρ this 0) (0 : Int32).toNatClampNeg) a3.toNatClampNeg r2) fun σ6 =>
  gd (ib 1 2) <|
  bnd (f_X3_worth N ρ a1 a5 a3 x7 σ6) fun r8 σ9 =>
  gd (ib a3 6) <|
  nmd (sI σ9 (ρ (ρ this 0) (1 : Int32).toNatClampNeg) a3.toNatClampNeg r8) fun σ12 =>
  gd (ib 0 2) <|
  bnd (f_X3_worth N ρ a1 a4 a3 s0 σ12) fun r14 σ15 =>
  gd (ib a3 6) <|
  nmd (sI σ15 (ρ (ρ this 1) (0 : Int32).toNatClampNeg) a3.toNatClampNeg r14) fun σ18 =>
  gd (ib 1 2) <|
  bnd (f_X3_worth N ρ a1 a5 a3 s0 σ18) fun r20 σ21 =>
  gd (ib a3 6) <|
  nmd (sI σ21 (ρ (ρ this 1) (1 : Int32).toNatClampNeg) a3.toNatClampNeg r20) fun σ24 =>
  some (0, σ24)
def f_X3_weigh_47 (N : Nat) (ρ : Nat → Nat → Nat) (this : Nat) (a1 : Nat) (a2 : Nat) (a3 : Int32) (a4 : Int32) (a5 : Int32) (x6 : Int32) (x7 : Int32) (s0 : Int32) (σ : St) : Option (Int32 × St) :=
  if (s0 : Int32) = 0 then
    f_X3_weigh_68 N ρ this a1 a2 a3 a4 a5 x7 0 σ
  else
    bnd (f_X0_bearing N ρ a1 a2 a3 x6 2 0 σ) fun r26 σ27 =>
    f_X3_weigh_68 N ρ this a1 a2 a3 a4 a5 x7 r26 σ27
def f_X3_weigh_46 (N : Nat) (ρ : Nat → Nat → Nat) (this : Nat) (a1 : Nat) (a2 : Nat) (a3 : Int32) (a4 : Int32) (a5 : Int32) (x6 : Int32) (x7 : Int32) (σ : St) : Option (Int32 × St) :=
  f_X3_weigh_47 N ρ this a1 a2 a3 a4 a5 x6 x7 0 σ
def f_X3_weigh (N : Nat) (ρ : Nat → Nat → Nat) (this : Nat) (a1 : Nat) (a2 : Nat) (a3 : Int32) (a4 : Int32) (a5 : Int32) (σ : St) : Option (Int32 × St) :=
  nmd ((1 <<< (a4 &&& 31)) ||| (1 <<< (a5 &&& 31))) fun y29 =>
  bnd (f_X0_bearing N ρ a1 a2 a3 y29 1 0 σ) fun r30 σ31 =>
  gd (ib a3 6) <|
  if (σ31.1 (ρ a1 2) a3.toNatClampNeg : Int32) < 2 then
    f_X3_weigh_46 N ρ this a1 a2 a3 a4 a5 y29 r30 σ31
  else
    bnd (f_X0_quarrelIn N ρ a1 y29 σ31) fun r35 σ36 =>
    if (r35 : Int32) = 0 then
      f_X3_weigh_47 N ρ this a1 a2 a3 a4 a5 y29 r30 1 σ36
    else
      f_X3_weigh_46 N ρ this a1 a2 a3 a4 a5 y29 r30 σ36
set_option maxRecDepth 100000 in
set_option maxHeartbeats 4000000 in
theorem w_X3_weigh_68 {N : Nat} {Γ : SG} {ρ : Nat → Nat → Nat} (hs : Sh Γ ρ) {this : Nat} {a1 : Nat} {a2 : Nat} {a3 : Int32} {a4 : Int32} {a5 : Int32} (h0 : Γ[this]? = some (0, 3)) (h1 : Γ[a1]? = some (0, 0)) (h2 : Γ[a2]? = some (0, 9)) {n0 : Nat} {r : Int32} {σr : St} (x7 : Int32) (s0 : Int32) (σ : St) (hf : f_X3_weigh_68 N ρ this a1 a2 a3 a4 a5 x7 s0 σ = some (r, σr)) : Go mX3_weigh 4 0 0 n0 (Kv Γ ρ σr) 0 0 68 [some (.ref this), some (.ref a1), none, some (.int a3), some (.int a4), some (.int a5), none, some (.int x7), none, none] [.int s0] (hp Γ ρ σ) := by
  unfold f_X3_weigh_68 at hf
  refine go_istore [some (.ref this), some (.ref a1), none, some (.int a3), some (.int a4), some (.int a5), none, some (.int x7), none, some (.int s0)] dX3_weigh_68 (by decide) rfl ?_
  refine go_aload_n 0 dX3_weigh_70 rfl rfl ?_
  refine go_fR fl_X3_13 dX3_weigh_71 h0 (by decide) rfl ?_
  refine go_iconst 0 dX3_weigh_74 (by decide) ?_
  obtain ⟨g1, hf⟩ := gd_some hf
  refine go_rR dX3_weigh_75 (hs.1 _ 3 0 h0 rfl) (ib_in g1) ?_
  refine go_iload_n 3 dX3_weigh_76 rfl rfl ?_
  refine go_aload_n 1 dX3_weigh_77 rfl rfl ?_
  refine go_iload dX3_weigh_78 rfl ?_
  refine go_iload_n 3 dX3_weigh_80 rfl rfl ?_
  refine go_iload dX3_weigh_81 rfl ?_
  obtain ⟨r2, σ3, q4, hf⟩ := bnd_some hf
  refine go_Si (av := [.ref a1, .int a4, .int a3, .int x7]) (rest := [.int a3, .ref (ρ (ρ this 0) (0 : Int32).toNatClampNeg)]) (t_X3_worth hs h1 q4) ok_X3_worth ml_X3_51 dX3_weigh_83 rfl rfl (by decide) (Nat.le_refl _) (Nat.le_refl _) (Nat.le_of_ble_eq_true rfl) ?_
  obtain ⟨g5, hf⟩ := gd_some hf
  obtain ⟨σ6, eσ6, hf⟩ := nmd_some hf
  refine go_wI dX3_weigh_86 (sh_in hs (hs.1 _ 3 0 h0 rfl) g1) (ib_in g5) ?_
  rw [eσ6]
  refine go_aload_n 0 dX3_weigh_87 rfl rfl ?_
  refine go_fR fl_X3_13 dX3_weigh_88 h0 (by decide) rfl ?_
  refine go_iconst 1 dX3_weigh_91 (by decide) ?_
  obtain ⟨g7, hf⟩ := gd_some hf
  refine go_rR dX3_weigh_92 (hs.1 _ 3 0 h0 rfl) (ib_in g7) ?_
  refine go_iload_n 3 dX3_weigh_93 rfl rfl ?_
  refine go_aload_n 1 dX3_weigh_94 rfl rfl ?_
  refine go_iload dX3_weigh_95 rfl ?_
  refine go_iload_n 3 dX3_weigh_97 rfl rfl ?_
  refine go_iload dX3_weigh_98 rfl ?_
  obtain ⟨r8, σ9, q10, hf⟩ := bnd_some hf
  refine go_Si (av := [.ref a1, .int a5, .int a3, .int x7]) (rest := [.int a3, .ref (ρ (ρ this 0) (1 : Int32).toNatClampNeg)]) (t_X3_worth hs h1 q10) ok_X3_worth ml_X3_51 dX3_weigh_100 rfl rfl (by decide) (Nat.le_refl _) (Nat.le_refl _) (Nat.le_of_ble_eq_true rfl) ?_
  obtain ⟨g11, hf⟩ := gd_some hf
  obtain ⟨σ12, eσ12, hf⟩ := nmd_some hf
  refine go_wI dX3_weigh_103 (sh_in hs (hs.1 _ 3 0 h0 rfl) g7) (ib_in g11) ?_
  rw [eσ12]
  refine go_aload_n 0 dX3_weigh_104 rfl rfl ?_
  refine go_fR fl_X3_18 dX3_weigh_105 h0 (by decide) rfl ?_
  refine go_iconst 0 dX3_weigh_108 (by decide) ?_
  obtain ⟨g13, hf⟩ := gd_some hf
  refine go_rR dX3_weigh_109 (hs.1 _ 3 1 h0 rfl) (ib_in g13) ?_
  refine go_iload_n 3 dX3_weigh_110 rfl rfl ?_
  refine go_aload_n 1 dX3_weigh_111 rfl rfl ?_
  refine go_iload dX3_weigh_112 rfl ?_
  refine go_iload_n 3 dX3_weigh_114 rfl rfl ?_
  refine go_iload dX3_weigh_115 rfl ?_
  obtain ⟨r14, σ15, q16, hf⟩ := bnd_some hf
  refine go_Si (av := [.ref a1, .int a4, .int a3, .int s0]) (rest := [.int a3, .ref (ρ (ρ this 1) (0 : Int32).toNatClampNeg)]) (t_X3_worth hs h1 q16) ok_X3_worth ml_X3_51 dX3_weigh_117 rfl rfl (by decide) (Nat.le_refl _) (Nat.le_refl _) (Nat.le_of_ble_eq_true rfl) ?_
  obtain ⟨g17, hf⟩ := gd_some hf
  obtain ⟨σ18, eσ18, hf⟩ := nmd_some hf
  refine go_wI dX3_weigh_120 (sh_in hs (hs.1 _ 3 1 h0 rfl) g13) (ib_in g17) ?_
  rw [eσ18]
  refine go_aload_n 0 dX3_weigh_121 rfl rfl ?_
  refine go_fR fl_X3_18 dX3_weigh_122 h0 (by decide) rfl ?_
  refine go_iconst 1 dX3_weigh_125 (by decide) ?_
  obtain ⟨g19, hf⟩ := gd_some hf
  refine go_rR dX3_weigh_126 (hs.1 _ 3 1 h0 rfl) (ib_in g19) ?_
  refine go_iload_n 3 dX3_weigh_127 rfl rfl ?_
  refine go_aload_n 1 dX3_weigh_128 rfl rfl ?_
  refine go_iload dX3_weigh_129 rfl ?_
  refine go_iload_n 3 dX3_weigh_131 rfl rfl ?_
  refine go_iload dX3_weigh_132 rfl ?_
  obtain ⟨r20, σ21, q22, hf⟩ := bnd_some hf
  refine go_Si (av := [.ref a1, .int a5, .int a3, .int s0]) (rest := [.int a3, .ref (ρ (ρ this 1) (1 : Int32).toNatClampNeg)]) (t_X3_worth hs h1 q22) ok_X3_worth ml_X3_51 dX3_weigh_134 rfl rfl (by decide) (Nat.le_refl _) (Nat.le_refl _) (Nat.le_of_ble_eq_true rfl) ?_
  obtain ⟨g23, hf⟩ := gd_some hf
  obtain ⟨σ24, eσ24, hf⟩ := nmd_some hf
  refine go_wI dX3_weigh_137 (sh_in hs (hs.1 _ 3 1 h0 rfl) g19) (ib_in g23) ?_
  rw [eσ24]
  cases hf
  exact go_vret rfl dX3_weigh_138 (Nat.le_refl _) ⟨rfl, rfl⟩
set_option maxRecDepth 100000 in
set_option maxHeartbeats 4000000 in
theorem w_X3_weigh_47 {N : Nat} {Γ : SG} {ρ : Nat → Nat → Nat} (hs : Sh Γ ρ) {this : Nat} {a1 : Nat} {a2 : Nat} {a3 : Int32} {a4 : Int32} {a5 : Int32} (h0 : Γ[this]? = some (0, 3)) (h1 : Γ[a1]? = some (0, 0)) (h2 : Γ[a2]? = some (0, 9)) {n0 : Nat} {r : Int32} {σr : St} (x6 : Int32) (x7 : Int32) (s0 : Int32) (σ : St) (hf : f_X3_weigh_47 N ρ this a1 a2 a3 a4 a5 x6 x7 s0 σ = some (r, σr)) : Go mX3_weigh 4 0 0 n0 (Kv Γ ρ σr) 0 0 47 [some (.ref this), some (.ref a1), some (.ref a2), some (.int a3), some (.int a4), some (.int a5), some (.int x6), some (.int x7), none, none] [.int s0] (hp Γ ρ σ) := by
  unfold f_X3_weigh_47 at hf
  refine go_istore [some (.ref this), some (.ref a1), some (.ref a2), some (.int a3), some (.int a4), some (.int a5), some (.int x6), some (.int x7), some (.int s0), none] dX3_weigh_47 (by decide) rfl ?_
  refine go_iload dX3_weigh_49 rfl ?_
  refine go_if_eq 67 dX3_weigh_51 (by decide) (fun c25 => ?_) (fun c25 => ?_)
  · replace hf := (if_pos c25).symm.trans hf
    refine go_iconst 0 dX3_weigh_67 (by decide) ?_
    refine go_msk [true, true, false, true, true, true, false, true, false, false] [some (.ref this), some (.ref a1), none, some (.int a3), some (.int a4), some (.int a5), none, some (.int x7), none, none] rfl ?_
    exact w_X3_weigh_68 hs h0 h1 h2 x7 0 σ hf
  · replace hf := (if_neg c25).symm.trans hf
    refine go_aload_n 1 dX3_weigh_54 rfl rfl ?_
    refine go_aload_n 2 dX3_weigh_55 rfl rfl ?_
    refine go_iload_n 3 dX3_weigh_56 rfl rfl ?_
    refine go_iload dX3_weigh_57 rfl ?_
    refine go_iconst 2 dX3_weigh_59 (by decide) ?_
    refine go_iconst 0 dX3_weigh_60 (by decide) ?_
    obtain ⟨r26, σ27, q28, hf⟩ := bnd_some hf
    refine go_Vi (av := [.ref a2, .int a3, .int x6, .int 2, .int 0]) (rest := []) (t_X0_bearing hs h1 h2 q28) ok_X0_bearing ml_X3_39 dX3_weigh_61 h1 rfl rfl (by decide) (Nat.le_refl _) (Nat.le_refl _) (Nat.le_of_ble_eq_true rfl) ?_
    refine go_goto 68 dX3_weigh_64 (by decide) ?_
    refine go_msk [true, true, false, true, true, true, false, true, false, false] [some (.ref this), some (.ref a1), none, some (.int a3), some (.int a4), some (.int a5), none, some (.int x7), none, none] rfl ?_
    exact w_X3_weigh_68 hs h0 h1 h2 x7 r26 σ27 hf
set_option maxRecDepth 100000 in
set_option maxHeartbeats 4000000 in
theorem w_X3_weigh_46 {N : Nat} {Γ : SG} {ρ : Nat → Nat → Nat} (hs : Sh Γ ρ) {this : Nat} {a1 : Nat} {a2 : Nat} {a3 : Int32} {a4 : Int32} {a5 : Int32} (h0 : Γ[this]? = some (0, 3)) (h1 : Γ[a1]? = some (0, 0)) (h2 : Γ[a2]? = some (0, 9)) {n0 : Nat} {r : Int32} {σr : St} (x6 : Int32) (x7 : Int32) (σ : St) (hf : f_X3_weigh_46 N ρ this a1 a2 a3 a4 a5 x6 x7 σ = some (r, σr)) : Go mX3_weigh 4 0 0 n0 (Kv Γ ρ σr) 0 0 46 [some (.ref this), some (.ref a1), some (.ref a2), some (.int a3), some (.int a4), some (.int a5), some (.int x6), some (.int x7), none, none] [] (hp Γ ρ σ) := by
  unfold f_X3_weigh_46 at hf
  refine go_iconst 0 dX3_weigh_46 (by decide) ?_
  exact w_X3_weigh_47 hs h0 h1 h2 x6 x7 0 σ hf
set_option maxRecDepth 100000 in
set_option maxHeartbeats 4000000 in
theorem t_X3_weigh {N : Nat} {Γ : SG} {ρ : Nat → Nat → Nat} (hs : Sh Γ ρ) {this : Nat} {a1 : Nat} {a2 : Nat} {a3 : Int32} {a4 : Int32} {a5 : Int32} (h0 : Γ[this]? = some (0, 3)) (h1 : Γ[a1]? = some (0, 0)) (h2 : Γ[a2]? = some (0, 9)) {σ : St} {r : Int32} {σr : St} (hf : f_X3_weigh N ρ this a1 a2 a3 a4 a5 σ = some (r, σr)) : Tri mX3_weigh 4 0 0 [.ref this, .ref a1, .ref a2, .int a3, .int a4, .int a5] (hp Γ ρ σ) (Kv Γ ρ σr) := by
  unfold f_X3_weigh at hf
  refine tri_of [some (.ref this), some (.ref a1), some (.ref a2), some (.int a3), some (.int a4), some (.int a5), none, none, none, none] (plainFor_of_name rfl) rfl (Nat.le_of_ble_eq_true rfl) ?_
  refine go_iconst 1 dX3_weigh_0 (by decide) ?_
  refine go_iload dX3_weigh_1 rfl ?_
  refine go_ishl dX3_weigh_3 ?_
  refine go_iconst 1 dX3_weigh_4 (by decide) ?_
  refine go_iload dX3_weigh_5 rfl ?_
  refine go_ishl dX3_weigh_7 ?_
  refine go_ior dX3_weigh_8 ?_
  obtain ⟨y29, ey29, hf⟩ := nmd_some hf
  refine go_nm ey29 ?_
  refine go_istore [some (.ref this), some (.ref a1), some (.ref a2), some (.int a3), some (.int a4), some (.int a5), some (.int y29), none, none, none] dX3_weigh_9 (by decide) rfl ?_
  refine go_aload_n 1 dX3_weigh_11 rfl rfl ?_
  refine go_aload_n 2 dX3_weigh_12 rfl rfl ?_
  refine go_iload_n 3 dX3_weigh_13 rfl rfl ?_
  refine go_iload dX3_weigh_14 rfl ?_
  refine go_iconst 1 dX3_weigh_16 (by decide) ?_
  refine go_iconst 0 dX3_weigh_17 (by decide) ?_
  obtain ⟨r30, σ31, q32, hf⟩ := bnd_some hf
  refine go_Vi (av := [.ref a2, .int a3, .int y29, .int 1, .int 0]) (rest := []) (t_X0_bearing hs h1 h2 q32) ok_X0_bearing ml_X3_39 dX3_weigh_18 h1 rfl rfl (by decide) (Nat.le_refl _) (Nat.le_refl _) (Nat.le_of_ble_eq_true rfl) ?_
  refine go_istore [some (.ref this), some (.ref a1), some (.ref a2), some (.int a3), some (.int a4), some (.int a5), some (.int y29), some (.int r30), none, none] dX3_weigh_21 (by decide) rfl ?_
  refine go_aload_n 1 dX3_weigh_23 rfl rfl ?_
  refine go_fR fl_X3_43 dX3_weigh_24 h1 (by decide) rfl ?_
  refine go_iload_n 3 dX3_weigh_27 rfl rfl ?_
  obtain ⟨g33, hf⟩ := gd_some hf
  refine go_rI dX3_weigh_28 (hs.1 _ 0 2 h1 rfl) (ib_in g33) ?_
  refine go_iconst 2 dX3_weigh_29 (by decide) ?_
  refine go_icmp_lt 46 dX3_weigh_30 (by decide) (fun c34 => ?_) (fun c34 => ?_)
  · replace hf := (if_pos c34).symm.trans hf
    exact w_X3_weigh_46 hs h0 h1 h2 y29 r30 σ31 hf
  · replace hf := (if_neg c34).symm.trans hf
    refine go_aload_n 1 dX3_weigh_33 rfl rfl ?_
    refine go_iload dX3_weigh_34 rfl ?_
    obtain ⟨r35, σ36, q37, hf⟩ := bnd_some hf
    refine go_Vi (av := [.int y29]) (rest := []) (t_X0_quarrelIn hs h1 q37) ok_X0_quarrelIn ml_X3_47 dX3_weigh_36 h1 rfl rfl (by decide) (Nat.le_refl _) (Nat.le_refl _) (Nat.le_of_ble_eq_true rfl) ?_
    refine go_if_ne 46 dX3_weigh_39 (by decide) (fun c38 => ?_) (fun c38 => ?_)
    · replace hf := (if_neg c38).symm.trans hf
      exact w_X3_weigh_46 hs h0 h1 h2 y29 r30 σ36 hf
    · replace hf := (if_pos c38).symm.trans hf
      refine go_iconst 1 dX3_weigh_42 (by decide) ?_
      refine go_goto 47 dX3_weigh_43 (by decide) ?_
      exact w_X3_weigh_47 hs h0 h1 h2 y29 r30 1 σ36 hf
def f_X3_findRests_108 (N : Nat) (ρ : Nat → Nat → Nat) (this : Nat) (a1 : Nat) (a2 : Nat) (a3 : Int32) (a4 : Int32) (rec35 : Int32 → Int32 → St → Option (Int32 × St)) (rec47 : Int32 → Int32 → Int32 → St → Option (Int32 × St)) (x5 : Int32) (x6 : Int32) (x7 : Int32) (σ : St) : Option (Int32 × St) :=
  rec47 x5 x6 (x7 + 1) σ
def f_X3_findRests_105 (N : Nat) (ρ : Nat → Nat → Nat) (this : Nat) (a1 : Nat) (a2 : Nat) (a3 : Int32) (a4 : Int32) (rec35 : Int32 → Int32 → St → Option (Int32 × St)) (rec47 : Int32 → Int32 → Int32 → St → Option (Int32 × St)) (x5 : Int32) (x6 : Int32) (x7 : Int32) (σ : St) : Option (Int32 × St) :=
  f_X3_findRests_108 N ρ this a1 a2 a3 a4 rec35 rec47 (x5 + 1) x6 x7 σ
def b_X3_findRests_47 (N : Nat) (ρ : Nat → Nat → Nat) (this : Nat) (a1 : Nat) (a2 : Nat) (a3 : Int32) (a4 : Int32) (rec35 : Int32 → Int32 → St → Option (Int32 × St)) (rec47 : Int32 → Int32 → Int32 → St → Option (Int32 × St)) (x5 : Int32) (x6 : Int32) (x7 : Int32) (σ : St) : Option (Int32 × St) :=
  if (σ.1 a1 11) ≤ (x7 : Int32) then
    rec35 x5 (x6 + 1) σ
  else
    bnd (f_X3_staysAt N ρ this 0 x6 x7 (σ.1 a1 11) σ) fun r2 σ3 =>
    if (r2 : Int32) = 0 then
      f_X3_findRests_108 N ρ this a1 a2 a3 a4 rec35 rec47 x5 x6 x7 σ3
    else
      bnd (f_X3_staysAt N ρ this 1 x7 x6 (σ3.1 a1 11) σ3) fun r6 σ7 =>
      if (r6 : Int32) = 0 then
        f_X3_findRests_108 N ρ this a1 a2 a3 a4 rec35 rec47 x5 x6 x7 σ7
      else
        if (x5 : Int32) = 0 then
          nmd (sI σ7 this 2 x6) fun σ11 =>
          nmd (sI σ11 this 3 x7) fun σ12 =>
          f_X3_findRests_105 N ρ this a1 a2 a3 a4 rec35 rec47 x5 x6 x7 σ12
        else
          f_X3_findRests_105 N ρ this a1 a2 a3 a4 rec35 rec47 x5 x6 x7 σ7
def f_X3_findRests_47 (N : Nat) (ρ : Nat → Nat → Nat) (this : Nat) (a1 : Nat) (a2 : Nat) (a3 : Int32) (a4 : Int32) (rec35 : Int32 → Int32 → St → Option (Int32 × St)) : Nat → Int32 → Int32 → Int32 → St → Option (Int32 × St)
  | 0, _, _, _, _ => none
  | n + 1, x5, x6, x7, σ => b_X3_findRests_47 N ρ this a1 a2 a3 a4 rec35 (f_X3_findRests_47 N ρ this a1 a2 a3 a4 rec35 n) x5 x6 x7 σ
def b_X3_findRests_35 (N : Nat) (ρ : Nat → Nat → Nat) (this : Nat) (a1 : Nat) (a2 : Nat) (a3 : Int32) (a4 : Int32) (rec35 : Int32 → Int32 → St → Option (Int32 × St)) (x5 : Int32) (x6 : Int32) (σ : St) : Option (Int32 × St) :=
  if (σ.1 a1 11) ≤ (x6 : Int32) then
    some (x5, σ)
  else
    f_X3_findRests_47 N ρ this a1 a2 a3 a4 rec35 N x5 x6 0 σ
def f_X3_findRests_35 (N : Nat) (ρ : Nat → Nat → Nat) (this : Nat) (a1 : Nat) (a2 : Nat) (a3 : Int32) (a4 : Int32) : Nat → Int32 → Int32 → St → Option (Int32 × St)
  | 0, _, _, _ => none
  | n + 1, x5, x6, σ => b_X3_findRests_35 N ρ this a1 a2 a3 a4 (f_X3_findRests_35 N ρ this a1 a2 a3 a4 n) x5 x6 σ
def b_X3_findRests_3 (N : Nat) (ρ : Nat → Nat → Nat) (this : Nat) (a1 : Nat) (a2 : Nat) (a3 : Int32) (a4 : Int32) (rec3 : Int32 → St → Option (Int32 × St)) (x5 : Int32) (σ : St) : Option (Int32 × St) :=
  if (σ.1 a1 11) ≤ (x5 : Int32) then
    f_X3_findRests_35 N ρ this a1 a2 a3 a4 N 0 0 σ
  else
    bnd (f_X3_weigh N ρ this a1 a2 x5 a3 a4 σ) fun _ σ16 =>
    rec3 (x5 + 1) σ16
def f_X3_findRests_3 (N : Nat) (ρ : Nat → Nat → Nat) (this : Nat) (a1 : Nat) (a2 : Nat) (a3 : Int32) (a4 : Int32) : Nat → Int32 → St → Option (Int32 × St)
  | 0, _, _ => none
  | n + 1, x5, σ => b_X3_findRests_3 N ρ this a1 a2 a3 a4 (f_X3_findRests_3 N ρ this a1 a2 a3 a4 n) x5 σ
def f_X3_findRests (N : Nat) (ρ : Nat → Nat → Nat) (this : Nat) (a1 : Nat) (a2 : Nat) (a3 : Int32) (a4 : Int32) (σ : St) : Option (Int32 × St) :=
  f_X3_findRests_3 N ρ this a1 a2 a3 a4 N 0 σ
set_option maxRecDepth 100000 in
set_option maxHeartbeats 4000000 in
theorem w_X3_findRests_108 {N : Nat} {Γ : SG} {ρ : Nat → Nat → Nat} (hs : Sh Γ ρ) {this : Nat} {a1 : Nat} {a2 : Nat} {a3 : Int32} {a4 : Int32} (h0 : Γ[this]? = some (0, 3)) (h1 : Γ[a1]? = some (0, 0)) (h2 : Γ[a2]? = some (0, 9)) {n0 : Nat} {r : Int32} {σr : St} (rec35 : Int32 → Int32 → St → Option (Int32 × St)) (hrec35 : ∀ (x5 : Int32) (x6 : Int32) (σ : St), rec35 x5 x6 σ = some (r, σr) → Go mX3_findRests 5 0 0 n0 (Ki Γ ρ r σr) 0 0 35 [some (.ref this), some (.ref a1), none, none, none, some (.int x5), some (.int x6), none] [] (hp Γ ρ σ)) (rec47 : Int32 → Int32 → Int32 → St → Option (Int32 × St)) (hrec47 : ∀ (x5 : Int32) (x6 : Int32) (x7 : Int32) (σ : St), rec47 x5 x6 x7 σ = some (r, σr) → Go mX3_findRests 5 0 0 n0 (Ki Γ ρ r σr) 0 0 47 [some (.ref this), some (.ref a1), none, none, none, some (.int x5), some (.int x6), some (.int x7)] [] (hp Γ ρ σ)) (x5 : Int32) (x6 : Int32) (x7 : Int32) (σ : St) (hf : f_X3_findRests_108 N ρ this a1 a2 a3 a4 rec35 rec47 x5 x6 x7 σ = some (r, σr)) : Go mX3_findRests 5 0 0 n0 (Ki Γ ρ r σr) 0 0 108 [some (.ref this), some (.ref a1), none, none, none, some (.int x5), some (.int x6), some (.int x7)] [] (hp Γ ρ σ) := by
  unfold f_X3_findRests_108 at hf
  refine go_iinc (x7 + 1) [some (.ref this), some (.ref a1), none, none, none, some (.int x5), some (.int x6), some (.int (x7 + 1))] dX3_findRests_108 rfl rfl (by decide) rfl ?_
  refine go_goto 47 dX3_findRests_111 (by decide) ?_
  exact hrec47 x5 x6 (x7 + 1) σ hf
set_option maxRecDepth 100000 in
set_option maxHeartbeats 4000000 in
theorem w_X3_findRests_105 {N : Nat} {Γ : SG} {ρ : Nat → Nat → Nat} (hs : Sh Γ ρ) {this : Nat} {a1 : Nat} {a2 : Nat} {a3 : Int32} {a4 : Int32} (h0 : Γ[this]? = some (0, 3)) (h1 : Γ[a1]? = some (0, 0)) (h2 : Γ[a2]? = some (0, 9)) {n0 : Nat} {r : Int32} {σr : St} (rec35 : Int32 → Int32 → St → Option (Int32 × St)) (hrec35 : ∀ (x5 : Int32) (x6 : Int32) (σ : St), rec35 x5 x6 σ = some (r, σr) → Go mX3_findRests 5 0 0 n0 (Ki Γ ρ r σr) 0 0 35 [some (.ref this), some (.ref a1), none, none, none, some (.int x5), some (.int x6), none] [] (hp Γ ρ σ)) (rec47 : Int32 → Int32 → Int32 → St → Option (Int32 × St)) (hrec47 : ∀ (x5 : Int32) (x6 : Int32) (x7 : Int32) (σ : St), rec47 x5 x6 x7 σ = some (r, σr) → Go mX3_findRests 5 0 0 n0 (Ki Γ ρ r σr) 0 0 47 [some (.ref this), some (.ref a1), none, none, none, some (.int x5), some (.int x6), some (.int x7)] [] (hp Γ ρ σ)) (x5 : Int32) (x6 : Int32) (x7 : Int32) (σ : St) (hf : f_X3_findRests_105 N ρ this a1 a2 a3 a4 rec35 rec47 x5 x6 x7 σ = some (r, σr)) : Go mX3_findRests 5 0 0 n0 (Ki Γ ρ r σr) 0 0 105 [some (.ref this), some (.ref a1), none, none, none, some (.int x5), some (.int x6), some (.int x7)] [] (hp Γ ρ σ) := by
  unfold f_X3_findRests_105 at hf
  refine go_iinc (x5 + 1) [some (.ref this), some (.ref a1), none, none, none, some (.int (x5 + 1)), some (.int x6), some (.int x7)] dX3_findRests_105 rfl rfl (by decide) rfl ?_
  exact w_X3_findRests_108 hs h0 h1 h2 rec35 hrec35 rec47 hrec47 (x5 + 1) x6 x7 σ hf
set_option maxRecDepth 100000 in
set_option maxHeartbeats 4000000 in
theorem v_X3_findRests_47 {N : Nat} {Γ : SG} {ρ : Nat → Nat → Nat} (hs : Sh Γ ρ) {this : Nat} {a1 : Nat} {a2 : Nat} {a3 : Int32} {a4 : Int32} (h0 : Γ[this]? = some (0, 3)) (h1 : Γ[a1]? = some (0, 0)) (h2 : Γ[a2]? = some (0, 9)) {n0 : Nat} {r : Int32} {σr : St} (rec35 : Int32 → Int32 → St → Option (Int32 × St)) (hrec35 : ∀ (x5 : Int32) (x6 : Int32) (σ : St), rec35 x5 x6 σ = some (r, σr) → Go mX3_findRests 5 0 0 n0 (Ki Γ ρ r σr) 0 0 35 [some (.ref this), some (.ref a1), none, none, none, some (.int x5), some (.int x6), none] [] (hp Γ ρ σ)) (rec47 : Int32 → Int32 → Int32 → St → Option (Int32 × St)) (hrec47 : ∀ (x5 : Int32) (x6 : Int32) (x7 : Int32) (σ : St), rec47 x5 x6 x7 σ = some (r, σr) → Go mX3_findRests 5 0 0 n0 (Ki Γ ρ r σr) 0 0 47 [some (.ref this), some (.ref a1), none, none, none, some (.int x5), some (.int x6), some (.int x7)] [] (hp Γ ρ σ)) (x5 : Int32) (x6 : Int32) (x7 : Int32) (σ : St) (hf : b_X3_findRests_47 N ρ this a1 a2 a3 a4 rec35 rec47 x5 x6 x7 σ = some (r, σr)) : Go mX3_findRests 5 0 0 n0 (Ki Γ ρ r σr) 0 0 47 [some (.ref this), some (.ref a1), none, none, none, some (.int x5), some (.int x6), some (.int x7)] [] (hp Γ ρ σ) := by
  unfold b_X3_findRests_47 at hf
  refine go_iload dX3_findRests_47 rfl ?_
  refine go_aload_n 1 dX3_findRests_49 rfl rfl ?_
  refine go_fI fl_X3_28 dX3_findRests_50 h1 (by decide) rfl ?_
  refine go_icmp_ge 114 dX3_findRests_53 (by decide) (fun c1 => ?_) (fun c1 => ?_)
  · replace hf := (if_pos c1).symm.trans hf
    refine go_iinc (x6 + 1) [some (.ref this), some (.ref a1), none, none, none, some (.int x5), some (.int (x6 + 1)), some (.int x7)] dX3_findRests_114 rfl rfl (by decide) rfl ?_
    refine go_goto 35 dX3_findRests_117 (by decide) ?_
    refine go_msk [true, true, false, false, false, true, true, false] [some (.ref this), some (.ref a1), none, none, none, some (.int x5), some (.int (x6 + 1)), none] rfl ?_
    exact hrec35 x5 (x6 + 1) σ hf
  · replace hf := (if_neg c1).symm.trans hf
    refine go_aload_n 0 dX3_findRests_56 rfl rfl ?_
    refine go_iconst 0 dX3_findRests_57 (by decide) ?_
    refine go_iload dX3_findRests_58 rfl ?_
    refine go_iload dX3_findRests_60 rfl ?_
    refine go_aload_n 1 dX3_findRests_62 rfl rfl ?_
    refine go_fI fl_X3_28 dX3_findRests_63 h1 (by decide) rfl ?_
    obtain ⟨r2, σ3, q4, hf⟩ := bnd_some hf
    refine go_Vi (av := [.int 0, .int x6, .int x7, .int (σ.1 a1 11)]) (rest := []) (t_X3_staysAt hs h0 q4) ok_X3_staysAt ml_X3_35 dX3_findRests_66 h0 rfl rfl (by decide) (Nat.le_refl _) (Nat.le_refl _) (Nat.le_of_ble_eq_true rfl) ?_
    refine go_if_eq 108 dX3_findRests_69 (by decide) (fun c5 => ?_) (fun c5 => ?_)
    · replace hf := (if_pos c5).symm.trans hf
      exact w_X3_findRests_108 hs h0 h1 h2 rec35 hrec35 rec47 hrec47 x5 x6 x7 σ3 hf
    · replace hf := (if_neg c5).symm.trans hf
      refine go_aload_n 0 dX3_findRests_72 rfl rfl ?_
      refine go_iconst 1 dX3_findRests_73 (by decide) ?_
      refine go_iload dX3_findRests_74 rfl ?_
      refine go_iload dX3_findRests_76 rfl ?_
      refine go_aload_n 1 dX3_findRests_78 rfl rfl ?_
      refine go_fI fl_X3_28 dX3_findRests_79 h1 (by decide) rfl ?_
      obtain ⟨r6, σ7, q8, hf⟩ := bnd_some hf
      refine go_Vi (av := [.int 1, .int x7, .int x6, .int (σ3.1 a1 11)]) (rest := []) (t_X3_staysAt hs h0 q8) ok_X3_staysAt ml_X3_35 dX3_findRests_82 h0 rfl rfl (by decide) (Nat.le_refl _) (Nat.le_refl _) (Nat.le_of_ble_eq_true rfl) ?_
      refine go_if_eq 108 dX3_findRests_85 (by decide) (fun c9 => ?_) (fun c9 => ?_)
      · replace hf := (if_pos c9).symm.trans hf
        exact w_X3_findRests_108 hs h0 h1 h2 rec35 hrec35 rec47 hrec47 x5 x6 x7 σ7 hf
      · replace hf := (if_neg c9).symm.trans hf
        refine go_iload dX3_findRests_88 rfl ?_
        refine go_if_ne 105 dX3_findRests_90 (by decide) (fun c10 => ?_) (fun c10 => ?_)
        · replace hf := (if_neg c10).symm.trans hf
          exact w_X3_findRests_105 hs h0 h1 h2 rec35 hrec35 rec47 hrec47 x5 x6 x7 σ7 hf
        · replace hf := (if_pos c10).symm.trans hf
          refine go_aload_n 0 dX3_findRests_93 rfl rfl ?_
          refine go_iload dX3_findRests_94 rfl ?_
          obtain ⟨σ11, eσ11, hf⟩ := nmd_some hf
          refine go_pI fl_X3_21 ft_3_2 (okv_i _) dX3_findRests_96 h0 (by decide) rfl ?_
          rw [eσ11]
          refine go_aload_n 0 dX3_findRests_99 rfl rfl ?_
          refine go_iload dX3_findRests_100 rfl ?_
          obtain ⟨σ12, eσ12, hf⟩ := nmd_some hf
          refine go_pI fl_X3_25 ft_3_3 (okv_i _) dX3_findRests_102 h0 (by decide) rfl ?_
          rw [eσ12]
          exact w_X3_findRests_105 hs h0 h1 h2 rec35 hrec35 rec47 hrec47 x5 x6 x7 σ12 hf
theorem w_X3_findRests_47 {N : Nat} {Γ : SG} {ρ : Nat → Nat → Nat} (hs : Sh Γ ρ) {this : Nat} {a1 : Nat} {a2 : Nat} {a3 : Int32} {a4 : Int32} (h0 : Γ[this]? = some (0, 3)) (h1 : Γ[a1]? = some (0, 0)) (h2 : Γ[a2]? = some (0, 9)) {n0 : Nat} {r : Int32} {σr : St} (rec35 : Int32 → Int32 → St → Option (Int32 × St)) (hrec35 : ∀ (x5 : Int32) (x6 : Int32) (σ : St), rec35 x5 x6 σ = some (r, σr) → Go mX3_findRests 5 0 0 n0 (Ki Γ ρ r σr) 0 0 35 [some (.ref this), some (.ref a1), none, none, none, some (.int x5), some (.int x6), none] [] (hp Γ ρ σ)) : ∀ (n : Nat) (x5 : Int32) (x6 : Int32) (x7 : Int32) (σ : St), f_X3_findRests_47 N ρ this a1 a2 a3 a4 rec35 n x5 x6 x7 σ = some (r, σr) → Go mX3_findRests 5 0 0 n0 (Ki Γ ρ r σr) 0 0 47 [some (.ref this), some (.ref a1), none, none, none, some (.int x5), some (.int x6), some (.int x7)] [] (hp Γ ρ σ) := by
  intro n
  induction n with
  | zero => intro x5 x6 x7 σ hf; cases hf
  | succ n ih => intro x5 x6 x7 σ hf; exact v_X3_findRests_47 hs h0 h1 h2 rec35 hrec35 _ ih x5 x6 x7 σ hf
set_option maxRecDepth 100000 in
set_option maxHeartbeats 4000000 in
theorem v_X3_findRests_35 {N : Nat} {Γ : SG} {ρ : Nat → Nat → Nat} (hs : Sh Γ ρ) {this : Nat} {a1 : Nat} {a2 : Nat} {a3 : Int32} {a4 : Int32} (h0 : Γ[this]? = some (0, 3)) (h1 : Γ[a1]? = some (0, 0)) (h2 : Γ[a2]? = some (0, 9)) {n0 : Nat} {r : Int32} {σr : St} (rec35 : Int32 → Int32 → St → Option (Int32 × St)) (hrec35 : ∀ (x5 : Int32) (x6 : Int32) (σ : St), rec35 x5 x6 σ = some (r, σr) → Go mX3_findRests 5 0 0 n0 (Ki Γ ρ r σr) 0 0 35 [some (.ref this), some (.ref a1), none, none, none, some (.int x5), some (.int x6), none] [] (hp Γ ρ σ)) (x5 : Int32) (x6 : Int32) (σ : St) (hf : b_X3_findRests_35 N ρ this a1 a2 a3 a4 rec35 x5 x6 σ = some (r, σr)) : Go mX3_findRests 5 0 0 n0 (Ki Γ ρ r σr) 0 0 35 [some (.ref this), some (.ref a1), none, none, none, some (.int x5), some (.int x6), none] [] (hp Γ ρ σ) := by
  unfold b_X3_findRests_35 at hf
  refine go_iload dX3_findRests_35 rfl ?_
  refine go_aload_n 1 dX3_findRests_37 rfl rfl ?_
  refine go_fI fl_X3_28 dX3_findRests_38 h1 (by decide) rfl ?_
  refine go_icmp_ge 120 dX3_findRests_41 (by decide) (fun c13 => ?_) (fun c13 => ?_)
  · replace hf := (if_pos c13).symm.trans hf
    refine go_iload dX3_findRests_120 rfl ?_
    cases hf
    exact go_iret rfl dX3_findRests_122 (Nat.le_refl _) ⟨rfl, rfl⟩
  · replace hf := (if_neg c13).symm.trans hf
    refine go_iconst 0 dX3_findRests_44 (by decide) ?_
    refine go_istore [some (.ref this), some (.ref a1), none, none, none, some (.int x5), some (.int x6), some (.int 0)] dX3_findRests_45 (by decide) rfl ?_
    exact w_X3_findRests_47 hs h0 h1 h2 rec35 hrec35 N x5 x6 0 σ hf
theorem w_X3_findRests_35 {N : Nat} {Γ : SG} {ρ : Nat → Nat → Nat} (hs : Sh Γ ρ) {this : Nat} {a1 : Nat} {a2 : Nat} {a3 : Int32} {a4 : Int32} (h0 : Γ[this]? = some (0, 3)) (h1 : Γ[a1]? = some (0, 0)) (h2 : Γ[a2]? = some (0, 9)) {n0 : Nat} {r : Int32} {σr : St} : ∀ (n : Nat) (x5 : Int32) (x6 : Int32) (σ : St), f_X3_findRests_35 N ρ this a1 a2 a3 a4 n x5 x6 σ = some (r, σr) → Go mX3_findRests 5 0 0 n0 (Ki Γ ρ r σr) 0 0 35 [some (.ref this), some (.ref a1), none, none, none, some (.int x5), some (.int x6), none] [] (hp Γ ρ σ) := by
  intro n
  induction n with
  | zero => intro x5 x6 σ hf; cases hf
  | succ n ih => intro x5 x6 σ hf; exact v_X3_findRests_35 hs h0 h1 h2 _ ih x5 x6 σ hf
set_option maxRecDepth 100000 in
set_option maxHeartbeats 4000000 in
theorem v_X3_findRests_3 {N : Nat} {Γ : SG} {ρ : Nat → Nat → Nat} (hs : Sh Γ ρ) {this : Nat} {a1 : Nat} {a2 : Nat} {a3 : Int32} {a4 : Int32} (h0 : Γ[this]? = some (0, 3)) (h1 : Γ[a1]? = some (0, 0)) (h2 : Γ[a2]? = some (0, 9)) {n0 : Nat} {r : Int32} {σr : St} (rec3 : Int32 → St → Option (Int32 × St)) (hrec3 : ∀ (x5 : Int32) (σ : St), rec3 x5 σ = some (r, σr) → Go mX3_findRests 5 0 0 n0 (Ki Γ ρ r σr) 0 0 3 [some (.ref this), some (.ref a1), some (.ref a2), some (.int a3), some (.int a4), some (.int x5), none, none] [] (hp Γ ρ σ)) (x5 : Int32) (σ : St) (hf : b_X3_findRests_3 N ρ this a1 a2 a3 a4 rec3 x5 σ = some (r, σr)) : Go mX3_findRests 5 0 0 n0 (Ki Γ ρ r σr) 0 0 3 [some (.ref this), some (.ref a1), some (.ref a2), some (.int a3), some (.int a4), some (.int x5), none, none] [] (hp Γ ρ σ) := by
  unfold b_X3_findRests_3 at hf
  refine go_iload dX3_findRests_3 rfl ?_
  refine go_aload_n 1 dX3_findRests_5 rfl rfl ?_
  refine go_fI fl_X3_28 dX3_findRests_6 h1 (by decide) rfl ?_
  refine go_icmp_ge 29 dX3_findRests_9 (by decide) (fun c14 => ?_) (fun c14 => ?_)
  · replace hf := (if_pos c14).symm.trans hf
    refine go_iconst 0 dX3_findRests_29 (by decide) ?_
    refine go_istore [some (.ref this), some (.ref a1), some (.ref a2), some (.int a3), some (.int a4), some (.int 0), none, none] dX3_findRests_30 (by decide) rfl ?_
    refine go_iconst 0 dX3_findRests_32 (by decide) ?_
    refine go_istore [some (.ref this), some (.ref a1), some (.ref a2), some (.int a3), some (.int a4), some (.int 0), some (.int 0), none] dX3_findRests_33 (by decide) rfl ?_
    refine go_msk [true, true, false, false, false, true, true, false] [some (.ref this), some (.ref a1), none, none, none, some (.int 0), some (.int 0), none] rfl ?_
    exact w_X3_findRests_35 hs h0 h1 h2 N 0 0 σ hf
  · replace hf := (if_neg c14).symm.trans hf
    refine go_aload_n 0 dX3_findRests_12 rfl rfl ?_
    refine go_aload_n 1 dX3_findRests_13 rfl rfl ?_
    refine go_aload_n 2 dX3_findRests_14 rfl rfl ?_
    refine go_iload dX3_findRests_15 rfl ?_
    refine go_iload_n 3 dX3_findRests_17 rfl rfl ?_
    refine go_iload dX3_findRests_18 rfl ?_
    obtain ⟨r15, σ16, q17, hf⟩ := bnd_some hf
    refine go_Vv (av := [.ref a1, .ref a2, .int x5, .int a3, .int a4]) (rest := []) (t_X3_weigh hs h0 h1 h2 q17) ok_X3_weigh ml_X3_31 dX3_findRests_20 h0 rfl rfl (by decide) (Nat.le_refl _) (Nat.le_refl _) (Nat.le_of_ble_eq_true rfl) ?_
    refine go_iinc (x5 + 1) [some (.ref this), some (.ref a1), some (.ref a2), some (.int a3), some (.int a4), some (.int (x5 + 1)), none, none] dX3_findRests_23 rfl rfl (by decide) rfl ?_
    refine go_goto 3 dX3_findRests_26 (by decide) ?_
    exact hrec3 (x5 + 1) σ16 hf
theorem w_X3_findRests_3 {N : Nat} {Γ : SG} {ρ : Nat → Nat → Nat} (hs : Sh Γ ρ) {this : Nat} {a1 : Nat} {a2 : Nat} {a3 : Int32} {a4 : Int32} (h0 : Γ[this]? = some (0, 3)) (h1 : Γ[a1]? = some (0, 0)) (h2 : Γ[a2]? = some (0, 9)) {n0 : Nat} {r : Int32} {σr : St} : ∀ (n : Nat) (x5 : Int32) (σ : St), f_X3_findRests_3 N ρ this a1 a2 a3 a4 n x5 σ = some (r, σr) → Go mX3_findRests 5 0 0 n0 (Ki Γ ρ r σr) 0 0 3 [some (.ref this), some (.ref a1), some (.ref a2), some (.int a3), some (.int a4), some (.int x5), none, none] [] (hp Γ ρ σ) := by
  intro n
  induction n with
  | zero => intro x5 σ hf; cases hf
  | succ n ih => intro x5 σ hf; exact v_X3_findRests_3 hs h0 h1 h2 _ ih x5 σ hf
set_option maxRecDepth 100000 in
set_option maxHeartbeats 4000000 in
theorem t_X3_findRests {N : Nat} {Γ : SG} {ρ : Nat → Nat → Nat} (hs : Sh Γ ρ) {this : Nat} {a1 : Nat} {a2 : Nat} {a3 : Int32} {a4 : Int32} (h0 : Γ[this]? = some (0, 3)) (h1 : Γ[a1]? = some (0, 0)) (h2 : Γ[a2]? = some (0, 9)) {σ : St} {r : Int32} {σr : St} (hf : f_X3_findRests N ρ this a1 a2 a3 a4 σ = some (r, σr)) : Tri mX3_findRests 5 0 0 [.ref this, .ref a1, .ref a2, .int a3, .int a4] (hp Γ ρ σ) (Ki Γ ρ r σr) := by
  unfold f_X3_findRests at hf
  refine tri_of [some (.ref this), some (.ref a1), some (.ref a2), some (.int a3), some (.int a4), none, none, none] (plainFor_of_name rfl) rfl (Nat.le_of_ble_eq_true rfl) ?_
  refine go_iconst 0 dX3_findRests_0 (by decide) ?_
  refine go_istore [some (.ref this), some (.ref a1), some (.ref a2), some (.int a3), some (.int a4), some (.int 0), none, none] dX3_findRests_1 (by decide) rfl ?_
  exact w_X3_findRests_3 hs h0 h1 h2 N 0 σ hf
def f_X8_goOnWithHearth_115 (N : Nat) (ρ : Nat → Nat → Nat) (this : Nat) (a1 : Int32) (rec17 : Int32 → St → Option (Int32 × St)) (rec32 : Int32 → Int32 → St → Option (Int32 × St)) (x2 : Int32) (x3 : Int32) (σ : St) : Option (Int32 × St) :=
  rec32 x2 (x3 + 1) σ
def f_X8_goOnWithHearth_50 (N : Nat) (ρ : Nat → Nat → Nat) (this : Nat) (a1 : Int32) (rec17 : Int32 → St → Option (Int32 × St)) (rec32 : Int32 → Int32 → St → Option (Int32 × St)) (x2 : Int32) (x3 : Int32) (s0 : Int32) (σ : St) : Option (Int32 × St) :=
  if (s0 : Int32) = 0 then
    f_X8_goOnWithHearth_115 N ρ this a1 rec17 rec32 x2 x3 σ
  else
    gd (ib x3 32) <|
    if (σ.1 (ρ this 2) x3.toNatClampNeg : Int32) = (1000000000) then
      f_X8_goOnWithHearth_115 N ρ this a1 rec17 rec32 x2 x3 σ
    else
      gd (ib (x2 &&& (x3 ^^^ (-1))) 32) <|
      if (σ.1 (ρ this 1) (x2 &&& (x3 ^^^ (-1))).toNatClampNeg : Int32) = (1000000000) then
        f_X8_goOnWithHearth_115 N ρ this a1 rec17 rec32 x2 x3 σ
      else
        gd (ib x2 32) <|
        gd (ib (x2 &&& (x3 ^^^ (-1))) 32) <|
        gd (ib x3 32) <|
        gd (ib x2 32) <|
        nmd (sI σ (ρ this 0) x2.toNatClampNeg (mmin (σ.1 (ρ this 0) x2.toNatClampNeg) ((σ.1 (ρ this 1) (x2 &&& (x3 ^^^ (-1))).toNatClampNeg) + (σ.1 (ρ this 2) x3.toNatClampNeg)))) fun σ10 =>
        f_X8_goOnWithHearth_115 N ρ this a1 rec17 rec32 x2 x3 σ10
def b_X8_goOnWithHearth_32 (N : Nat) (ρ : Nat → Nat → Nat) (this : Nat) (a1 : Int32) (rec17 : Int32 → St → Option (Int32 × St)) (rec32 : Int32 → Int32 → St → Option (Int32 × St)) (x2 : Int32) (x3 : Int32) (σ : St) : Option (Int32 × St) :=
  if x2 < (x3 : Int32) then
    rec17 (x2 + 1) σ
  else
    if (x3 &&& (x2 ^^^ (-1)) : Int32) = 0 then
      f_X8_goOnWithHearth_50 N ρ this a1 rec17 rec32 x2 x3 1 σ
    else
      f_X8_goOnWithHearth_50 N ρ this a1 rec17 rec32 x2 x3 0 σ
def f_X8_goOnWithHearth_32 (N : Nat) (ρ : Nat → Nat → Nat) (this : Nat) (a1 : Int32) (rec17 : Int32 → St → Option (Int32 × St)) : Nat → Int32 → Int32 → St → Option (Int32 × St)
  | 0, _, _, _ => none
  | n + 1, x2, x3, σ => b_X8_goOnWithHearth_32 N ρ this a1 rec17 (f_X8_goOnWithHearth_32 N ρ this a1 rec17 n) x2 x3 σ
def b_X8_goOnWithHearth_17 (N : Nat) (ρ : Nat → Nat → Nat) (this : Nat) (a1 : Int32) (rec17 : Int32 → St → Option (Int32 × St)) (x2 : Int32) (σ : St) : Option (Int32 × St) :=
  if a1 ≤ (x2 : Int32) then
    some (0, σ)
  else
    gd (ib x2 32) <|
    nmd (sI σ (ρ this 0) x2.toNatClampNeg (1000000000)) fun σ15 =>
    f_X8_goOnWithHearth_32 N ρ this a1 rec17 N x2 0 σ15
def f_X8_goOnWithHearth_17 (N : Nat) (ρ : Nat → Nat → Nat) (this : Nat) (a1 : Int32) : Nat → Int32 → St → Option (Int32 × St)
  | 0, _, _ => none
  | n + 1, x2, σ => b_X8_goOnWithHearth_17 N ρ this a1 (f_X8_goOnWithHearth_17 N ρ this a1 n) x2 σ
def f_X8_goOnWithHearth (N : Nat) (ρ : Nat → Nat → Nat) (this : Nat) (a1 : Int32) (σ : St) : Option (Int32 × St) :=
  gd (cpok 32 32 0 0 32) <|
  nmd (cpyI σ (ρ this 0) (ρ this 1) 0 0 32) fun σ17 =>
  f_X8_goOnWithHearth_17 N ρ this a1 N 0 σ17
set_option maxRecDepth 100000 in
set_option maxHeartbeats 4000000 in
theorem w_X8_goOnWithHearth_115 {N : Nat} {Γ : SG} {ρ : Nat → Nat → Nat} (hs : Sh Γ ρ) {this : Nat} {a1 : Int32} (h0 : Γ[this]? = some (0, 8)) {n0 : Nat} {r : Int32} {σr : St} (rec17 : Int32 → St → Option (Int32 × St)) (hrec17 : ∀ (x2 : Int32) (σ : St), rec17 x2 σ = some (r, σr) → Go mX8_goOnWithHearth 1 0 0 n0 (Kv Γ ρ σr) 0 0 17 [some (.ref this), some (.int a1), some (.int x2), none, none] [] (hp Γ ρ σ)) (rec32 : Int32 → Int32 → St → Option (Int32 × St)) (hrec32 : ∀ (x2 : Int32) (x3 : Int32) (σ : St), rec32 x2 x3 σ = some (r, σr) → Go mX8_goOnWithHearth 1 0 0 n0 (Kv Γ ρ σr) 0 0 32 [some (.ref this), some (.int a1), some (.int x2), some (.int x3), none] [] (hp Γ ρ σ)) (x2 : Int32) (x3 : Int32) (σ : St) (hf : f_X8_goOnWithHearth_115 N ρ this a1 rec17 rec32 x2 x3 σ = some (r, σr)) : Go mX8_goOnWithHearth 1 0 0 n0 (Kv Γ ρ σr) 0 0 115 [some (.ref this), some (.int a1), some (.int x2), some (.int x3), none] [] (hp Γ ρ σ) := by
  unfold f_X8_goOnWithHearth_115 at hf
  refine go_iinc (x3 + 1) [some (.ref this), some (.int a1), some (.int x2), some (.int (x3 + 1)), none] dX8_goOnWithHearth_115 rfl rfl (by decide) rfl ?_
  refine go_goto 32 dX8_goOnWithHearth_118 (by decide) ?_
  exact hrec32 x2 (x3 + 1) σ hf
set_option maxRecDepth 100000 in
set_option maxHeartbeats 4000000 in
theorem w_X8_goOnWithHearth_50 {N : Nat} {Γ : SG} {ρ : Nat → Nat → Nat} (hs : Sh Γ ρ) {this : Nat} {a1 : Int32} (h0 : Γ[this]? = some (0, 8)) {n0 : Nat} {r : Int32} {σr : St} (rec17 : Int32 → St → Option (Int32 × St)) (hrec17 : ∀ (x2 : Int32) (σ : St), rec17 x2 σ = some (r, σr) → Go mX8_goOnWithHearth 1 0 0 n0 (Kv Γ ρ σr) 0 0 17 [some (.ref this), some (.int a1), some (.int x2), none, none] [] (hp Γ ρ σ)) (rec32 : Int32 → Int32 → St → Option (Int32 × St)) (hrec32 : ∀ (x2 : Int32) (x3 : Int32) (σ : St), rec32 x2 x3 σ = some (r, σr) → Go mX8_goOnWithHearth 1 0 0 n0 (Kv Γ ρ σr) 0 0 32 [some (.ref this), some (.int a1), some (.int x2), some (.int x3), none] [] (hp Γ ρ σ)) (x2 : Int32) (x3 : Int32) (s0 : Int32) (σ : St) (hf : f_X8_goOnWithHearth_50 N ρ this a1 rec17 rec32 x2 x3 s0 σ = some (r, σr)) : Go mX8_goOnWithHearth 1 0 0 n0 (Kv Γ ρ σr) 0 0 50 [some (.ref this), some (.int a1), some (.int x2), some (.int x3), none] [.int s0] (hp Γ ρ σ) := by
  unfold f_X8_goOnWithHearth_50 at hf
  refine go_istore [some (.ref this), some (.int a1), some (.int x2), some (.int x3), some (.int s0)] dX8_goOnWithHearth_50 (by decide) rfl ?_
  refine go_iload dX8_goOnWithHearth_52 rfl ?_
  refine go_if_eq 115 dX8_goOnWithHearth_54 (by decide) (fun c1 => ?_) (fun c1 => ?_)
  · replace hf := (if_pos c1).symm.trans hf
    refine go_msk [true, true, true, true, false] [some (.ref this), some (.int a1), some (.int x2), some (.int x3), none] rfl ?_
    exact w_X8_goOnWithHearth_115 hs h0 rec17 hrec17 rec32 hrec32 x2 x3 σ hf
  · replace hf := (if_neg c1).symm.trans hf
    refine go_aload_n 0 dX8_goOnWithHearth_57 rfl rfl ?_
    refine go_fR fl_X8_20 dX8_goOnWithHearth_58 h0 (by decide) rfl ?_
    refine go_iload_n 3 dX8_goOnWithHearth_61 rfl rfl ?_
    obtain ⟨g2, hf⟩ := gd_some hf
    refine go_rI dX8_goOnWithHearth_62 (hs.1 _ 8 2 h0 rfl) (ib_in g2) ?_
    refine go_ldc (1000000000) dX8_goOnWithHearth_63 cn_X8_45 ?_
    refine go_icmp_eq 115 dX8_goOnWithHearth_65 (by decide) (fun c3 => ?_) (fun c3 => ?_)
    · replace hf := (if_pos c3).symm.trans hf
      refine go_msk [true, true, true, true, false] [some (.ref this), some (.int a1), some (.int x2), some (.int x3), none] rfl ?_
      exact w_X8_goOnWithHearth_115 hs h0 rec17 hrec17 rec32 hrec32 x2 x3 σ hf
    · replace hf := (if_neg c3).symm.trans hf
      refine go_aload_n 0 dX8_goOnWithHearth_68 rfl rfl ?_
      refine go_fR fl_X8_17 dX8_goOnWithHearth_69 h0 (by decide) rfl ?_
      refine go_iload_n 2 dX8_goOnWithHearth_72 rfl rfl ?_
      refine go_iload_n 3 dX8_goOnWithHearth_73 rfl rfl ?_
      refine go_iconst (-1) dX8_goOnWithHearth_74 (by decide) ?_
      refine go_ixor dX8_goOnWithHearth_75 ?_
      refine go_iand dX8_goOnWithHearth_76 ?_
      obtain ⟨g4, hf⟩ := gd_some hf
      refine go_rI dX8_goOnWithHearth_77 (hs.1 _ 8 1 h0 rfl) (ib_in g4) ?_
      refine go_ldc (1000000000) dX8_goOnWithHearth_78 cn_X8_45 ?_
      refine go_icmp_eq 115 dX8_goOnWithHearth_80 (by decide) (fun c5 => ?_) (fun c5 => ?_)
      · replace hf := (if_pos c5).symm.trans hf
        refine go_msk [true, true, true, true, false] [some (.ref this), some (.int a1), some (.int x2), some (.int x3), none] rfl ?_
        exact w_X8_goOnWithHearth_115 hs h0 rec17 hrec17 rec32 hrec32 x2 x3 σ hf
      · replace hf := (if_neg c5).symm.trans hf
        refine go_aload_n 0 dX8_goOnWithHearth_83 rfl rfl ?_
        refine go_fR fl_X8_13 dX8_goOnWithHearth_84 h0 (by decide) rfl ?_
        refine go_iload_n 2 dX8_goOnWithHearth_87 rfl rfl ?_
        refine go_aload_n 0 dX8_goOnWithHearth_88 rfl rfl ?_
        refine go_fR fl_X8_13 dX8_goOnWithHearth_89 h0 (by decide) rfl ?_
        refine go_iload_n 2 dX8_goOnWithHearth_92 rfl rfl ?_
        obtain ⟨g6, hf⟩ := gd_some hf
        refine go_rI dX8_goOnWithHearth_93 (hs.1 _ 8 0 h0 rfl) (ib_in g6) ?_
        refine go_aload_n 0 dX8_goOnWithHearth_94 rfl rfl ?_
        refine go_fR fl_X8_17 dX8_goOnWithHearth_95 h0 (by decide) rfl ?_
        refine go_iload_n 2 dX8_goOnWithHearth_98 rfl rfl ?_
        refine go_iload_n 3 dX8_goOnWithHearth_99 rfl rfl ?_
        refine go_iconst (-1) dX8_goOnWithHearth_100 (by decide) ?_
        refine go_ixor dX8_goOnWithHearth_101 ?_
        refine go_iand dX8_goOnWithHearth_102 ?_
        obtain ⟨g7, hf⟩ := gd_some hf
        refine go_rI dX8_goOnWithHearth_103 (hs.1 _ 8 1 h0 rfl) (ib_in g7) ?_
        refine go_aload_n 0 dX8_goOnWithHearth_104 rfl rfl ?_
        refine go_fR fl_X8_20 dX8_goOnWithHearth_105 h0 (by decide) rfl ?_
        refine go_iload_n 3 dX8_goOnWithHearth_108 rfl rfl ?_
        obtain ⟨g8, hf⟩ := gd_some hf
        refine go_rI dX8_goOnWithHearth_109 (hs.1 _ 8 2 h0 rfl) (ib_in g8) ?_
        refine go_iadd dX8_goOnWithHearth_110 ?_
        refine go_mmin ml_X8_39 dX8_goOnWithHearth_111 (by decide) (Nat.le_refl _) (Nat.le_refl _) (Nat.le_of_ble_eq_true rfl) ?_
        obtain ⟨g9, hf⟩ := gd_some hf
        obtain ⟨σ10, eσ10, hf⟩ := nmd_some hf
        refine go_wI dX8_goOnWithHearth_114 (hs.1 _ 8 0 h0 rfl) (ib_in g9) ?_
        rw [eσ10]
        refine go_msk [true, true, true, true, false] [some (.ref this), some (.int a1), some (.int x2), some (.int x3), none] rfl ?_
        exact w_X8_goOnWithHearth_115 hs h0 rec17 hrec17 rec32 hrec32 x2 x3 σ10 hf
set_option maxRecDepth 100000 in
set_option maxHeartbeats 4000000 in
theorem v_X8_goOnWithHearth_32 {N : Nat} {Γ : SG} {ρ : Nat → Nat → Nat} (hs : Sh Γ ρ) {this : Nat} {a1 : Int32} (h0 : Γ[this]? = some (0, 8)) {n0 : Nat} {r : Int32} {σr : St} (rec17 : Int32 → St → Option (Int32 × St)) (hrec17 : ∀ (x2 : Int32) (σ : St), rec17 x2 σ = some (r, σr) → Go mX8_goOnWithHearth 1 0 0 n0 (Kv Γ ρ σr) 0 0 17 [some (.ref this), some (.int a1), some (.int x2), none, none] [] (hp Γ ρ σ)) (rec32 : Int32 → Int32 → St → Option (Int32 × St)) (hrec32 : ∀ (x2 : Int32) (x3 : Int32) (σ : St), rec32 x2 x3 σ = some (r, σr) → Go mX8_goOnWithHearth 1 0 0 n0 (Kv Γ ρ σr) 0 0 32 [some (.ref this), some (.int a1), some (.int x2), some (.int x3), none] [] (hp Γ ρ σ)) (x2 : Int32) (x3 : Int32) (σ : St) (hf : b_X8_goOnWithHearth_32 N ρ this a1 rec17 rec32 x2 x3 σ = some (r, σr)) : Go mX8_goOnWithHearth 1 0 0 n0 (Kv Γ ρ σr) 0 0 32 [some (.ref this), some (.int a1), some (.int x2), some (.int x3), none] [] (hp Γ ρ σ) := by
  unfold b_X8_goOnWithHearth_32 at hf
  refine go_iload_n 3 dX8_goOnWithHearth_32 rfl rfl ?_
  refine go_iload_n 2 dX8_goOnWithHearth_33 rfl rfl ?_
  refine go_icmp_gt 121 dX8_goOnWithHearth_34 (by decide) (fun c11 => ?_) (fun c11 => ?_)
  · replace hf := (if_pos c11).symm.trans hf
    refine go_iinc (x2 + 1) [some (.ref this), some (.int a1), some (.int (x2 + 1)), some (.int x3), none] dX8_goOnWithHearth_121 rfl rfl (by decide) rfl ?_
    refine go_goto 17 dX8_goOnWithHearth_124 (by decide) ?_
    refine go_msk [true, true, true, false, false] [some (.ref this), some (.int a1), some (.int (x2 + 1)), none, none] rfl ?_
    exact hrec17 (x2 + 1) σ hf
  · replace hf := (if_neg c11).symm.trans hf
    refine go_iload_n 3 dX8_goOnWithHearth_37 rfl rfl ?_
    refine go_iload_n 2 dX8_goOnWithHearth_38 rfl rfl ?_
    refine go_iconst (-1) dX8_goOnWithHearth_39 (by decide) ?_
    refine go_ixor dX8_goOnWithHearth_40 ?_
    refine go_iand dX8_goOnWithHearth_41 ?_
    refine go_if_ne 49 dX8_goOnWithHearth_42 (by decide) (fun c12 => ?_) (fun c12 => ?_)
    · replace hf := (if_neg c12).symm.trans hf
      refine go_iconst 0 dX8_goOnWithHearth_49 (by decide) ?_
      exact w_X8_goOnWithHearth_50 hs h0 rec17 hrec17 rec32 hrec32 x2 x3 0 σ hf
    · replace hf := (if_pos c12).symm.trans hf
      refine go_iconst 1 dX8_goOnWithHearth_45 (by decide) ?_
      refine go_goto 50 dX8_goOnWithHearth_46 (by decide) ?_
      exact w_X8_goOnWithHearth_50 hs h0 rec17 hrec17 rec32 hrec32 x2 x3 1 σ hf
theorem w_X8_goOnWithHearth_32 {N : Nat} {Γ : SG} {ρ : Nat → Nat → Nat} (hs : Sh Γ ρ) {this : Nat} {a1 : Int32} (h0 : Γ[this]? = some (0, 8)) {n0 : Nat} {r : Int32} {σr : St} (rec17 : Int32 → St → Option (Int32 × St)) (hrec17 : ∀ (x2 : Int32) (σ : St), rec17 x2 σ = some (r, σr) → Go mX8_goOnWithHearth 1 0 0 n0 (Kv Γ ρ σr) 0 0 17 [some (.ref this), some (.int a1), some (.int x2), none, none] [] (hp Γ ρ σ)) : ∀ (n : Nat) (x2 : Int32) (x3 : Int32) (σ : St), f_X8_goOnWithHearth_32 N ρ this a1 rec17 n x2 x3 σ = some (r, σr) → Go mX8_goOnWithHearth 1 0 0 n0 (Kv Γ ρ σr) 0 0 32 [some (.ref this), some (.int a1), some (.int x2), some (.int x3), none] [] (hp Γ ρ σ) := by
  intro n
  induction n with
  | zero => intro x2 x3 σ hf; cases hf
  | succ n ih => intro x2 x3 σ hf; exact v_X8_goOnWithHearth_32 hs h0 rec17 hrec17 _ ih x2 x3 σ hf
set_option maxRecDepth 100000 in
set_option maxHeartbeats 4000000 in
theorem v_X8_goOnWithHearth_17 {N : Nat} {Γ : SG} {ρ : Nat → Nat → Nat} (hs : Sh Γ ρ) {this : Nat} {a1 : Int32} (h0 : Γ[this]? = some (0, 8)) {n0 : Nat} {r : Int32} {σr : St} (rec17 : Int32 → St → Option (Int32 × St)) (hrec17 : ∀ (x2 : Int32) (σ : St), rec17 x2 σ = some (r, σr) → Go mX8_goOnWithHearth 1 0 0 n0 (Kv Γ ρ σr) 0 0 17 [some (.ref this), some (.int a1), some (.int x2), none, none] [] (hp Γ ρ σ)) (x2 : Int32) (σ : St) (hf : b_X8_goOnWithHearth_17 N ρ this a1 rec17 x2 σ = some (r, σr)) : Go mX8_goOnWithHearth 1 0 0 n0 (Kv Γ ρ σr) 0 0 17 [some (.ref this), some (.int a1), some (.int x2), none, none] [] (hp Γ ρ σ) := by
  unfold b_X8_goOnWithHearth_17 at hf
  refine go_iload_n 2 dX8_goOnWithHearth_17 rfl rfl ?_
  refine go_iload_n 1 dX8_goOnWithHearth_18 rfl rfl ?_
  refine go_icmp_ge 127 dX8_goOnWithHearth_19 (by decide) (fun c13 => ?_) (fun c13 => ?_)
  · replace hf := (if_pos c13).symm.trans hf
    cases hf
    exact go_vret rfl dX8_goOnWithHearth_127 (Nat.le_refl _) ⟨rfl, rfl⟩
  · replace hf := (if_neg c13).symm.trans hf
    refine go_aload_n 0 dX8_goOnWithHearth_22 rfl rfl ?_
    refine go_fR fl_X8_13 dX8_goOnWithHearth_23 h0 (by decide) rfl ?_
    refine go_iload_n 2 dX8_goOnWithHearth_26 rfl rfl ?_
    refine go_ldc (1000000000) dX8_goOnWithHearth_27 cn_X8_45 ?_
    obtain ⟨g14, hf⟩ := gd_some hf
    obtain ⟨σ15, eσ15, hf⟩ := nmd_some hf
    refine go_wI dX8_goOnWithHearth_29 (hs.1 _ 8 0 h0 rfl) (ib_in g14) ?_
    rw [eσ15]
    refine go_iconst 0 dX8_goOnWithHearth_30 (by decide) ?_
    refine go_istore_n 3 [some (.ref this), some (.int a1), some (.int x2), some (.int 0), none] dX8_goOnWithHearth_31 rfl (by decide) rfl ?_
    exact w_X8_goOnWithHearth_32 hs h0 rec17 hrec17 N x2 0 σ15 hf
theorem w_X8_goOnWithHearth_17 {N : Nat} {Γ : SG} {ρ : Nat → Nat → Nat} (hs : Sh Γ ρ) {this : Nat} {a1 : Int32} (h0 : Γ[this]? = some (0, 8)) {n0 : Nat} {r : Int32} {σr : St} : ∀ (n : Nat) (x2 : Int32) (σ : St), f_X8_goOnWithHearth_17 N ρ this a1 n x2 σ = some (r, σr) → Go mX8_goOnWithHearth 1 0 0 n0 (Kv Γ ρ σr) 0 0 17 [some (.ref this), some (.int a1), some (.int x2), none, none] [] (hp Γ ρ σ) := by
  intro n
  induction n with
  | zero => intro x2 σ hf; cases hf
  | succ n ih => intro x2 σ hf; exact v_X8_goOnWithHearth_17 hs h0 _ ih x2 σ hf
set_option maxRecDepth 100000 in
set_option maxHeartbeats 4000000 in
theorem t_X8_goOnWithHearth {N : Nat} {Γ : SG} {ρ : Nat → Nat → Nat} (hs : Sh Γ ρ) {this : Nat} {a1 : Int32} (h0 : Γ[this]? = some (0, 8)) {σ : St} {r : Int32} {σr : St} (hf : f_X8_goOnWithHearth N ρ this a1 σ = some (r, σr)) : Tri mX8_goOnWithHearth 1 0 0 [.ref this, .int a1] (hp Γ ρ σ) (Kv Γ ρ σr) := by
  unfold f_X8_goOnWithHearth at hf
  refine tri_of [some (.ref this), some (.int a1), none, none, none] (plainFor_of_name rfl) rfl (Nat.le_of_ble_eq_true rfl) ?_
  refine go_aload_n 0 dX8_goOnWithHearth_0 rfl rfl ?_
  refine go_fR fl_X8_13 dX8_goOnWithHearth_1 h0 (by decide) rfl ?_
  refine go_iconst 0 dX8_goOnWithHearth_4 (by decide) ?_
  refine go_aload_n 0 dX8_goOnWithHearth_5 rfl rfl ?_
  refine go_fR fl_X8_17 dX8_goOnWithHearth_6 h0 (by decide) rfl ?_
  refine go_iconst 0 dX8_goOnWithHearth_9 (by decide) ?_
  refine go_bipush 32 dX8_goOnWithHearth_10 (by decide) ?_
  obtain ⟨g16, hf⟩ := gd_some hf
  obtain ⟨σ17, eσ17, hf⟩ := nmd_some hf
  refine go_cpy ml_X8_96 dX8_goOnWithHearth_12 (hs.1 _ 8 0 h0 rfl) (hs.1 _ 8 1 h0 rfl) g16 (by decide) (Nat.le_of_ble_eq_true rfl) ?_
  rw [eσ17]
  refine go_iconst 0 dX8_goOnWithHearth_15 (by decide) ?_
  refine go_istore_n 2 [some (.ref this), some (.int a1), some (.int 0), none, none] dX8_goOnWithHearth_16 rfl (by decide) rfl ?_
  exact w_X8_goOnWithHearth_17 hs h0 N 0 σ17 hf
def f_X8_orderOf_40 (N : Nat) (ρ : Nat → Nat → Nat) (a1 : Int32) (a2 : Int32) (a3 : Int32) (rec5 : Int32 → Int32 → St → Option (Int32 × St)) (x3 : Int32) (x4 : Int32) (σ : St) : Option (Int32 × St) :=
  rec5 x3 (x4 + 1) σ
def f_X8_orderOf_46 (N : Nat) (ρ : Nat → Nat → Nat) (a1 : Int32) (a2 : Int32) (a3 : Int32) (x3 : Int32) (σ : St) : Option (Int32 × St) :=
  some (x3, σ)
def b_X8_orderOf_5 (N : Nat) (ρ : Nat → Nat → Nat) (a1 : Int32) (a2 : Int32) (a3 : Int32) (rec5 : Int32 → Int32 → St → Option (Int32 × St)) (x3 : Int32) (x4 : Int32) (σ : St) : Option (Int32 × St) :=
  if a1 ≤ (x4 : Int32) then
    f_X8_orderOf_46 N ρ a1 a2 a3 x3 σ
  else
    if 5 ≤ (x4 : Int32) then
      f_X8_orderOf_46 N ρ a1 a2 a3 x3 σ
    else
      if ((a2 >>> (x4 &&& 31)) &&& 1 : Int32) = 0 then
        f_X8_orderOf_40 N ρ a1 a2 a3 rec5 x3 x4 σ
      else
        gd (ib x4 5) <|
        nmd (x3 + (a3 * (romW x4.toNatClampNeg))) fun y5 =>
        f_X8_orderOf_40 N ρ a1 a2 a3 rec5 y5 x4 σ
def f_X8_orderOf_5 (N : Nat) (ρ : Nat → Nat → Nat) (a1 : Int32) (a2 : Int32) (a3 : Int32) : Nat → Int32 → Int32 → St → Option (Int32 × St)
  | 0, _, _, _ => none
  | n + 1, x3, x4, σ => b_X8_orderOf_5 N ρ a1 a2 a3 (f_X8_orderOf_5 N ρ a1 a2 a3 n) x3 x4 σ
def f_X8_orderOf (N : Nat) (ρ : Nat → Nat → Nat) (a1 : Int32) (a2 : Int32) (a3 : Int32) (σ : St) : Option (Int32 × St) :=
  f_X8_orderOf_5 N ρ a1 a2 a3 N 0 0 σ
set_option maxRecDepth 100000 in
set_option maxHeartbeats 4000000 in
theorem w_X8_orderOf_40 {N : Nat} {Γ : SG} {ρ : Nat → Nat → Nat} (hs : Sh Γ ρ) {a1 : Int32} {a2 : Int32} {a3 : Int32} {n0 : Nat} {r : Int32} {σr : St} (rec5 : Int32 → Int32 → St → Option (Int32 × St)) (hrec5 : ∀ (x3 : Int32) (x4 : Int32) (σ : St), rec5 x3 x4 σ = some (r, σr) → Go mX8_orderOf 0 0 0 n0 (Ki Γ ρ r σr) 0 0 5 [some (.int a1), some (.int a2), some (.int a3), some (.int x3), some (.int x4)] [] (hp Γ ρ σ)) (x3 : Int32) (x4 : Int32) (σ : St) (hf : f_X8_orderOf_40 N ρ a1 a2 a3 rec5 x3 x4 σ = some (r, σr)) : Go mX8_orderOf 0 0 0 n0 (Ki Γ ρ r σr) 0 0 40 [some (.int a1), some (.int a2), some (.int a3), some (.int x3), some (.int x4)] [] (hp Γ ρ σ) := by
  unfold f_X8_orderOf_40 at hf
  refine go_iinc (x4 + 1) [some (.int a1), some (.int a2), some (.int a3), some (.int x3), some (.int (x4 + 1))] dX8_orderOf_40 rfl rfl (by decide) rfl ?_
  refine go_goto 5 dX8_orderOf_43 (by decide) ?_
  exact hrec5 x3 (x4 + 1) σ hf
set_option maxRecDepth 100000 in
set_option maxHeartbeats 4000000 in
theorem w_X8_orderOf_46 {N : Nat} {Γ : SG} {ρ : Nat → Nat → Nat} (hs : Sh Γ ρ) {a1 : Int32} {a2 : Int32} {a3 : Int32} {n0 : Nat} {r : Int32} {σr : St} (x3 : Int32) (σ : St) (hf : f_X8_orderOf_46 N ρ a1 a2 a3 x3 σ = some (r, σr)) : Go mX8_orderOf 0 0 0 n0 (Ki Γ ρ r σr) 0 0 46 [none, none, none, some (.int x3), none] [] (hp Γ ρ σ) := by
  unfold f_X8_orderOf_46 at hf
  refine go_iload_n 3 dX8_orderOf_46 rfl rfl ?_
  cases hf
  exact go_iret rfl dX8_orderOf_47 (Nat.le_refl _) ⟨rfl, rfl⟩
set_option maxRecDepth 100000 in
set_option maxHeartbeats 4000000 in
theorem v_X8_orderOf_5 {N : Nat} {Γ : SG} {ρ : Nat → Nat → Nat} (hs : Sh Γ ρ) {a1 : Int32} {a2 : Int32} {a3 : Int32} {n0 : Nat} {r : Int32} {σr : St} (rec5 : Int32 → Int32 → St → Option (Int32 × St)) (hrec5 : ∀ (x3 : Int32) (x4 : Int32) (σ : St), rec5 x3 x4 σ = some (r, σr) → Go mX8_orderOf 0 0 0 n0 (Ki Γ ρ r σr) 0 0 5 [some (.int a1), some (.int a2), some (.int a3), some (.int x3), some (.int x4)] [] (hp Γ ρ σ)) (x3 : Int32) (x4 : Int32) (σ : St) (hf : b_X8_orderOf_5 N ρ a1 a2 a3 rec5 x3 x4 σ = some (r, σr)) : Go mX8_orderOf 0 0 0 n0 (Ki Γ ρ r σr) 0 0 5 [some (.int a1), some (.int a2), some (.int a3), some (.int x3), some (.int x4)] [] (hp Γ ρ σ) := by
  unfold b_X8_orderOf_5 at hf
  refine go_iload dX8_orderOf_5 rfl ?_
  refine go_iload_n 0 dX8_orderOf_7 rfl rfl ?_
  refine go_icmp_ge 46 dX8_orderOf_8 (by decide) (fun c1 => ?_) (fun c1 => ?_)
  · replace hf := (if_pos c1).symm.trans hf
    refine go_msk [false, false, false, true, false] [none, none, none, some (.int x3), none] rfl ?_
    exact w_X8_orderOf_46 hs x3 σ hf
  · replace hf := (if_neg c1).symm.trans hf
    refine go_iload dX8_orderOf_11 rfl ?_
    refine go_wts sl_X8_102 dX8_orderOf_13 ?_
    refine go_wtl dX8_orderOf_16 ?_
    refine go_icmp_ge 46 dX8_orderOf_17 (by decide) (fun c2 => ?_) (fun c2 => ?_)
    · replace hf := (if_pos c2).symm.trans hf
      refine go_msk [false, false, false, true, false] [none, none, none, some (.int x3), none] rfl ?_
      exact w_X8_orderOf_46 hs x3 σ hf
    · replace hf := (if_neg c2).symm.trans hf
      refine go_iload_n 1 dX8_orderOf_20 rfl rfl ?_
      refine go_iload dX8_orderOf_21 rfl ?_
      refine go_ishr dX8_orderOf_23 ?_
      refine go_iconst 1 dX8_orderOf_24 (by decide) ?_
      refine go_iand dX8_orderOf_25 ?_
      refine go_if_eq 40 dX8_orderOf_26 (by decide) (fun c3 => ?_) (fun c3 => ?_)
      · replace hf := (if_pos c3).symm.trans hf
        exact w_X8_orderOf_40 hs rec5 hrec5 x3 x4 σ hf
      · replace hf := (if_neg c3).symm.trans hf
        refine go_iload_n 3 dX8_orderOf_29 rfl rfl ?_
        refine go_iload_n 2 dX8_orderOf_30 rfl rfl ?_
        refine go_wts sl_X8_102 dX8_orderOf_31 ?_
        refine go_iload dX8_orderOf_34 rfl ?_
        obtain ⟨g4, hf⟩ := gd_some hf
        refine go_wti dX8_orderOf_36 (ib_in g4) ?_
        refine go_imul dX8_orderOf_37 ?_
        refine go_iadd dX8_orderOf_38 ?_
        obtain ⟨y5, ey5, hf⟩ := nmd_some hf
        refine go_nm ey5 ?_
        refine go_istore_n 3 [some (.int a1), some (.int a2), some (.int a3), some (.int y5), some (.int x4)] dX8_orderOf_39 rfl (by decide) rfl ?_
        exact w_X8_orderOf_40 hs rec5 hrec5 y5 x4 σ hf
theorem w_X8_orderOf_5 {N : Nat} {Γ : SG} {ρ : Nat → Nat → Nat} (hs : Sh Γ ρ) {a1 : Int32} {a2 : Int32} {a3 : Int32} {n0 : Nat} {r : Int32} {σr : St} : ∀ (n : Nat) (x3 : Int32) (x4 : Int32) (σ : St), f_X8_orderOf_5 N ρ a1 a2 a3 n x3 x4 σ = some (r, σr) → Go mX8_orderOf 0 0 0 n0 (Ki Γ ρ r σr) 0 0 5 [some (.int a1), some (.int a2), some (.int a3), some (.int x3), some (.int x4)] [] (hp Γ ρ σ) := by
  intro n
  induction n with
  | zero => intro x3 x4 σ hf; cases hf
  | succ n ih => intro x3 x4 σ hf; exact v_X8_orderOf_5 hs _ ih x3 x4 σ hf
set_option maxRecDepth 100000 in
set_option maxHeartbeats 4000000 in
theorem t_X8_orderOf {N : Nat} {Γ : SG} {ρ : Nat → Nat → Nat} (hs : Sh Γ ρ) {a1 : Int32} {a2 : Int32} {a3 : Int32} {σ : St} {r : Int32} {σr : St} (hf : f_X8_orderOf N ρ a1 a2 a3 σ = some (r, σr)) : Tri mX8_orderOf 0 0 0 [.int a1, .int a2, .int a3] (hp Γ ρ σ) (Ki Γ ρ r σr) := by
  unfold f_X8_orderOf at hf
  refine tri_of [some (.int a1), some (.int a2), some (.int a3), none, none] (plainFor_of_name rfl) rfl (Nat.le_of_ble_eq_true rfl) ?_
  refine go_iconst 0 dX8_orderOf_0 (by decide) ?_
  refine go_istore_n 3 [some (.int a1), some (.int a2), some (.int a3), some (.int 0), none] dX8_orderOf_1 rfl (by decide) rfl ?_
  refine go_iconst 0 dX8_orderOf_2 (by decide) ?_
  refine go_istore [some (.int a1), some (.int a2), some (.int a3), some (.int 0), some (.int 0)] dX8_orderOf_3 (by decide) rfl ?_
  exact w_X8_orderOf_5 hs N 0 0 σ hf
def f_X8_priceOf_27 (N : Nat) (ρ : Nat → Nat → Nat) (this : Nat) (a1 : Nat) (a2 : Int32) (a3 : Int32) (a4 : Int32) (σ : St) : Option (Int32 × St) :=
  some ((1000000000), σ)
def f_X8_priceOf_107 (N : Nat) (ρ : Nat → Nat → Nat) (this : Nat) (a1 : Nat) (a2 : Int32) (a3 : Int32) (a4 : Int32) (rec77 : Int32 → Int32 → Int32 → St → Option (Int32 × St)) (x6 : Int32) (x7 : Int32) (x8 : Int32) (σ : St) : Option (Int32 × St) :=
  rec77 x6 x7 (x8 + 1) σ
def f_X8_priceOf_127 (N : Nat) (ρ : Nat → Nat → Nat) (this : Nat) (a1 : Nat) (a2 : Int32) (a3 : Int32) (a4 : Int32) (x7 : Int32) (s0 : Int32) (σ : St) : Option (Int32 × St) :=
  bnd (f_X8_orderOf N ρ (σ.1 a1 12) a3 a2 σ) fun r1 σ2 =>
  some (((x7 * 16807) - s0) + r1, σ2)
def b_X8_priceOf_77 (N : Nat) (ρ : Nat → Nat → Nat) (this : Nat) (a1 : Nat) (a2 : Int32) (a3 : Int32) (a4 : Int32) (rec77 : Int32 → Int32 → Int32 → St → Option (Int32 × St)) (x6 : Int32) (x7 : Int32) (x8 : Int32) (σ : St) : Option (Int32 × St) :=
  if (σ.1 a1 12) ≤ (x8 : Int32) then
    if (a4 : Int32) = 0 then
      f_X8_priceOf_127 N ρ this a1 a2 a3 a4 x7 (x6 * (8403500)) σ
    else
      f_X8_priceOf_127 N ρ this a1 a2 a3 a4 x7 0 σ
  else
    if ((a3 >>> (x8 &&& 31)) &&& 1 : Int32) = 0 then
      f_X8_priceOf_107 N ρ this a1 a2 a3 a4 rec77 x6 x7 x8 σ
    else
      bnd (f_X0_wayOf N ρ a1 x8 a2 σ) fun r7 σ8 =>
      nmd (x7 + r7) fun y10 =>
      f_X8_priceOf_107 N ρ this a1 a2 a3 a4 rec77 x6 y10 x8 σ8
def f_X8_priceOf_77 (N : Nat) (ρ : Nat → Nat → Nat) (this : Nat) (a1 : Nat) (a2 : Int32) (a3 : Int32) (a4 : Int32) : Nat → Int32 → Int32 → Int32 → St → Option (Int32 × St)
  | 0, _, _, _, _ => none
  | n + 1, x6, x7, x8, σ => b_X8_priceOf_77 N ρ this a1 a2 a3 a4 (f_X8_priceOf_77 N ρ this a1 a2 a3 a4 n) x6 x7 x8 σ
def f_X8_priceOf_71 (N : Nat) (ρ : Nat → Nat → Nat) (this : Nat) (a1 : Nat) (a2 : Int32) (a3 : Int32) (a4 : Int32) (x6 : Int32) (σ : St) : Option (Int32 × St) :=
  f_X8_priceOf_77 N ρ this a1 a2 a3 a4 N x6 0 0 σ
def f_X8_priceOf_54 (N : Nat) (ρ : Nat → Nat → Nat) (this : Nat) (a1 : Nat) (a2 : Int32) (a3 : Int32) (a4 : Int32) (x5 : Int32) (s0 : Int32) (σ : St) : Option (Int32 × St) :=
  if (a4 : Int32) = 0 then
    f_X8_priceOf_71 N ρ this a1 a2 a3 a4 s0 σ
  else
    if (s0 : Int32) = x5 then
      f_X8_priceOf_71 N ρ this a1 a2 a3 a4 s0 σ
    else
      some ((1000000000), σ)
def f_X8_priceOf (N : Nat) (ρ : Nat → Nat → Nat) (this : Nat) (a1 : Nat) (a2 : Int32) (a3 : Int32) (a4 : Int32) (σ : St) : Option (Int32 × St) :=
  bnd (f_J6_bitCount_0f7a4 N ρ a3 σ) fun r13 σ14 =>
  gd (ib a2 6) <|
  if (σ14.1 (ρ a1 2) a2.toNatClampNeg) < (r13 : Int32) then
    f_X8_priceOf_27 N ρ this a1 a2 a3 a4 σ14
  else
    if (r13 : Int32) < (nI 6) then
      bnd (f_X0_quarrelIn N ρ a1 a3 σ14) fun r19 σ20 =>
      if (r19 : Int32) = 0 then
        gd (ib r13 6) <|
        bnd (f_J6_bitCount_0f7a4 N ρ ((σ20.1 (ρ this 3) r13.toNatClampNeg) &&& a3) σ20) fun r24 σ25 =>
        f_X8_priceOf_54 N ρ this a1 a2 a3 a4 r13 r24 σ25
      else
        f_X8_priceOf_54 N ρ this a1 a2 a3 a4 r13 0 σ20
    else
      f_X8_priceOf_27 N ρ this a1 a2 a3 a4 σ14
set_option maxRecDepth 100000 in
set_option maxHeartbeats 4000000 in
theorem w_X8_priceOf_27 {N : Nat} {Γ : SG} {ρ : Nat → Nat → Nat} (hs : Sh Γ ρ) {this : Nat} {a1 : Nat} {a2 : Int32} {a3 : Int32} {a4 : Int32} (h0 : Γ[this]? = some (0, 8)) (h1 : Γ[a1]? = some (0, 0)) {n0 : Nat} {r : Int32} {σr : St} (σ : St) (hf : f_X8_priceOf_27 N ρ this a1 a2 a3 a4 σ = some (r, σr)) : Go mX8_priceOf 2 0 0 n0 (Ki Γ ρ r σr) 0 0 27 [none, none, none, none, none, none, none, none, none] [] (hp Γ ρ σ) := by
  unfold f_X8_priceOf_27 at hf
  refine go_ldc (1000000000) dX8_priceOf_27 cn_X8_45 ?_
  cases hf
  exact go_iret rfl dX8_priceOf_29 (Nat.le_refl _) ⟨rfl, rfl⟩
set_option maxRecDepth 100000 in
set_option maxHeartbeats 4000000 in
theorem w_X8_priceOf_107 {N : Nat} {Γ : SG} {ρ : Nat → Nat → Nat} (hs : Sh Γ ρ) {this : Nat} {a1 : Nat} {a2 : Int32} {a3 : Int32} {a4 : Int32} (h0 : Γ[this]? = some (0, 8)) (h1 : Γ[a1]? = some (0, 0)) {n0 : Nat} {r : Int32} {σr : St} (rec77 : Int32 → Int32 → Int32 → St → Option (Int32 × St)) (hrec77 : ∀ (x6 : Int32) (x7 : Int32) (x8 : Int32) (σ : St), rec77 x6 x7 x8 σ = some (r, σr) → Go mX8_priceOf 2 0 0 n0 (Ki Γ ρ r σr) 0 0 77 [none, some (.ref a1), some (.int a2), some (.int a3), some (.int a4), none, some (.int x6), some (.int x7), some (.int x8)] [] (hp Γ ρ σ)) (x6 : Int32) (x7 : Int32) (x8 : Int32) (σ : St) (hf : f_X8_priceOf_107 N ρ this a1 a2 a3 a4 rec77 x6 x7 x8 σ = some (r, σr)) : Go mX8_priceOf 2 0 0 n0 (Ki Γ ρ r σr) 0 0 107 [none, some (.ref a1), some (.int a2), some (.int a3), some (.int a4), none, some (.int x6), some (.int x7), some (.int x8)] [] (hp Γ ρ σ) := by
  unfold f_X8_priceOf_107 at hf
  refine go_iinc (x8 + 1) [none, some (.ref a1), some (.int a2), some (.int a3), some (.int a4), none, some (.int x6), some (.int x7), some (.int (x8 + 1))] dX8_priceOf_107 rfl rfl (by decide) rfl ?_
  refine go_goto 77 dX8_priceOf_110 (by decide) ?_
  exact hrec77 x6 x7 (x8 + 1) σ hf
set_option maxRecDepth 100000 in
set_option maxHeartbeats 4000000 in
theorem w_X8_priceOf_127 {N : Nat} {Γ : SG} {ρ : Nat → Nat → Nat} (hs : Sh Γ ρ) {this : Nat} {a1 : Nat} {a2 : Int32} {a3 : Int32} {a4 : Int32} (h0 : Γ[this]? = some (0, 8)) (h1 : Γ[a1]? = some (0, 0)) {n0 : Nat} {r : Int32} {σr : St} (x7 : Int32) (s0 : Int32) (σ : St) (hf : f_X8_priceOf_127 N ρ this a1 a2 a3 a4 x7 s0 σ = some (r, σr)) : Go mX8_priceOf 2 0 0 n0 (Ki Γ ρ r σr) 0 0 127 [none, some (.ref a1), some (.int a2), some (.int a3), none, none, none, some (.int x7), none] [.int s0] (hp Γ ρ σ) := by
  unfold f_X8_priceOf_127 at hf
  refine go_istore [none, some (.ref a1), some (.int a2), some (.int a3), none, none, none, some (.int x7), some (.int s0)] dX8_priceOf_127 (by decide) rfl ?_
  refine go_iload dX8_priceOf_129 rfl ?_
  refine go_sipush 16807 dX8_priceOf_131 (by decide) ?_
  refine go_imul dX8_priceOf_134 ?_
  refine go_iload dX8_priceOf_135 rfl ?_
  refine go_isub dX8_priceOf_137 ?_
  refine go_aload_n 1 dX8_priceOf_138 rfl rfl ?_
  refine go_fI fl_X8_36 dX8_priceOf_139 h1 (by decide) rfl ?_
  refine go_iload_n 3 dX8_priceOf_142 rfl rfl ?_
  refine go_iload_n 2 dX8_priceOf_143 rfl rfl ?_
  obtain ⟨r1, σ2, q3, hf⟩ := bnd_some hf
  refine go_Si (av := [.int (σ.1 a1 12), .int a3, .int a2]) (rest := [.int ((x7 * 16807) - s0)]) (t_X8_orderOf hs  q3) ok_X8_orderOf ml_X8_63 dX8_priceOf_144 rfl rfl (by decide) (Nat.le_refl _) (Nat.le_refl _) (Nat.le_of_ble_eq_true rfl) ?_
  refine go_iadd dX8_priceOf_147 ?_
  cases hf
  exact go_iret rfl dX8_priceOf_148 (Nat.le_refl _) ⟨rfl, rfl⟩
set_option maxRecDepth 100000 in
set_option maxHeartbeats 4000000 in
theorem v_X8_priceOf_77 {N : Nat} {Γ : SG} {ρ : Nat → Nat → Nat} (hs : Sh Γ ρ) {this : Nat} {a1 : Nat} {a2 : Int32} {a3 : Int32} {a4 : Int32} (h0 : Γ[this]? = some (0, 8)) (h1 : Γ[a1]? = some (0, 0)) {n0 : Nat} {r : Int32} {σr : St} (rec77 : Int32 → Int32 → Int32 → St → Option (Int32 × St)) (hrec77 : ∀ (x6 : Int32) (x7 : Int32) (x8 : Int32) (σ : St), rec77 x6 x7 x8 σ = some (r, σr) → Go mX8_priceOf 2 0 0 n0 (Ki Γ ρ r σr) 0 0 77 [none, some (.ref a1), some (.int a2), some (.int a3), some (.int a4), none, some (.int x6), some (.int x7), some (.int x8)] [] (hp Γ ρ σ)) (x6 : Int32) (x7 : Int32) (x8 : Int32) (σ : St) (hf : b_X8_priceOf_77 N ρ this a1 a2 a3 a4 rec77 x6 x7 x8 σ = some (r, σr)) : Go mX8_priceOf 2 0 0 n0 (Ki Γ ρ r σr) 0 0 77 [none, some (.ref a1), some (.int a2), some (.int a3), some (.int a4), none, some (.int x6), some (.int x7), some (.int x8)] [] (hp Γ ρ σ) := by
  unfold b_X8_priceOf_77 at hf
  refine go_iload dX8_priceOf_77 rfl ?_
  refine go_aload_n 1 dX8_priceOf_79 rfl rfl ?_
  refine go_fI fl_X8_36 dX8_priceOf_80 h1 (by decide) rfl ?_
  refine go_icmp_ge 113 dX8_priceOf_83 (by decide) (fun c4 => ?_) (fun c4 => ?_)
  · replace hf := (if_pos c4).symm.trans hf
    refine go_iload dX8_priceOf_113 rfl ?_
    refine go_if_eq 122 dX8_priceOf_115 (by decide) (fun c5 => ?_) (fun c5 => ?_)
    · replace hf := (if_pos c5).symm.trans hf
      refine go_iload dX8_priceOf_122 rfl ?_
      refine go_ldc (8403500) dX8_priceOf_124 cn_X8_95 ?_
      refine go_imul dX8_priceOf_126 ?_
      refine go_msk [false, true, true, true, false, false, false, true, false] [none, some (.ref a1), some (.int a2), some (.int a3), none, none, none, some (.int x7), none] rfl ?_
      exact w_X8_priceOf_127 hs h0 h1 x7 (x6 * (8403500)) σ hf
    · replace hf := (if_neg c5).symm.trans hf
      refine go_iconst 0 dX8_priceOf_118 (by decide) ?_
      refine go_goto 127 dX8_priceOf_119 (by decide) ?_
      refine go_msk [false, true, true, true, false, false, false, true, false] [none, some (.ref a1), some (.int a2), some (.int a3), none, none, none, some (.int x7), none] rfl ?_
      exact w_X8_priceOf_127 hs h0 h1 x7 0 σ hf
  · replace hf := (if_neg c4).symm.trans hf
    refine go_iload_n 3 dX8_priceOf_86 rfl rfl ?_
    refine go_iload dX8_priceOf_87 rfl ?_
    refine go_ishr dX8_priceOf_89 ?_
    refine go_iconst 1 dX8_priceOf_90 (by decide) ?_
    refine go_iand dX8_priceOf_91 ?_
    refine go_if_eq 107 dX8_priceOf_92 (by decide) (fun c6 => ?_) (fun c6 => ?_)
    · replace hf := (if_pos c6).symm.trans hf
      exact w_X8_priceOf_107 hs h0 h1 rec77 hrec77 x6 x7 x8 σ hf
    · replace hf := (if_neg c6).symm.trans hf
      refine go_iload dX8_priceOf_95 rfl ?_
      refine go_aload_n 1 dX8_priceOf_97 rfl rfl ?_
      refine go_iload dX8_priceOf_98 rfl ?_
      refine go_iload_n 2 dX8_priceOf_100 rfl rfl ?_
      obtain ⟨r7, σ8, q9, hf⟩ := bnd_some hf
      refine go_Vi (av := [.int x8, .int a2]) (rest := [.int x7]) (t_X0_wayOf hs h1 q9) ok_X0_wayOf ml_X8_92 dX8_priceOf_101 h1 rfl rfl (by decide) (Nat.le_refl _) (Nat.le_refl _) (Nat.le_of_ble_eq_true rfl) ?_
      refine go_iadd dX8_priceOf_104 ?_
      obtain ⟨y10, ey10, hf⟩ := nmd_some hf
      refine go_nm ey10 ?_
      refine go_istore [none, some (.ref a1), some (.int a2), some (.int a3), some (.int a4), none, some (.int x6), some (.int y10), some (.int x8)] dX8_priceOf_105 (by decide) rfl ?_
      exact w_X8_priceOf_107 hs h0 h1 rec77 hrec77 x6 y10 x8 σ8 hf
theorem w_X8_priceOf_77 {N : Nat} {Γ : SG} {ρ : Nat → Nat → Nat} (hs : Sh Γ ρ) {this : Nat} {a1 : Nat} {a2 : Int32} {a3 : Int32} {a4 : Int32} (h0 : Γ[this]? = some (0, 8)) (h1 : Γ[a1]? = some (0, 0)) {n0 : Nat} {r : Int32} {σr : St} : ∀ (n : Nat) (x6 : Int32) (x7 : Int32) (x8 : Int32) (σ : St), f_X8_priceOf_77 N ρ this a1 a2 a3 a4 n x6 x7 x8 σ = some (r, σr) → Go mX8_priceOf 2 0 0 n0 (Ki Γ ρ r σr) 0 0 77 [none, some (.ref a1), some (.int a2), some (.int a3), some (.int a4), none, some (.int x6), some (.int x7), some (.int x8)] [] (hp Γ ρ σ) := by
  intro n
  induction n with
  | zero => intro x6 x7 x8 σ hf; cases hf
  | succ n ih => intro x6 x7 x8 σ hf; exact v_X8_priceOf_77 hs h0 h1 _ ih x6 x7 x8 σ hf
set_option maxRecDepth 100000 in
set_option maxHeartbeats 4000000 in
theorem w_X8_priceOf_71 {N : Nat} {Γ : SG} {ρ : Nat → Nat → Nat} (hs : Sh Γ ρ) {this : Nat} {a1 : Nat} {a2 : Int32} {a3 : Int32} {a4 : Int32} (h0 : Γ[this]? = some (0, 8)) (h1 : Γ[a1]? = some (0, 0)) {n0 : Nat} {r : Int32} {σr : St} (x6 : Int32) (σ : St) (hf : f_X8_priceOf_71 N ρ this a1 a2 a3 a4 x6 σ = some (r, σr)) : Go mX8_priceOf 2 0 0 n0 (Ki Γ ρ r σr) 0 0 71 [none, some (.ref a1), some (.int a2), some (.int a3), some (.int a4), none, some (.int x6), none, none] [] (hp Γ ρ σ) := by
  unfold f_X8_priceOf_71 at hf
  refine go_iconst 0 dX8_priceOf_71 (by decide) ?_
  refine go_istore [none, some (.ref a1), some (.int a2), some (.int a3), some (.int a4), none, some (.int x6), some (.int 0), none] dX8_priceOf_72 (by decide) rfl ?_
  refine go_iconst 0 dX8_priceOf_74 (by decide) ?_
  refine go_istore [none, some (.ref a1), some (.int a2), some (.int a3), some (.int a4), none, some (.int x6), some (.int 0), some (.int 0)] dX8_priceOf_75 (by decide) rfl ?_
  exact w_X8_priceOf_77 hs h0 h1 N x6 0 0 σ hf
set_option maxRecDepth 100000 in
set_option maxHeartbeats 4000000 in
theorem w_X8_priceOf_54 {N : Nat} {Γ : SG} {ρ : Nat → Nat → Nat} (hs : Sh Γ ρ) {this : Nat} {a1 : Nat} {a2 : Int32} {a3 : Int32} {a4 : Int32} (h0 : Γ[this]? = some (0, 8)) (h1 : Γ[a1]? = some (0, 0)) {n0 : Nat} {r : Int32} {σr : St} (x5 : Int32) (s0 : Int32) (σ : St) (hf : f_X8_priceOf_54 N ρ this a1 a2 a3 a4 x5 s0 σ = some (r, σr)) : Go mX8_priceOf 2 0 0 n0 (Ki Γ ρ r σr) 0 0 54 [none, some (.ref a1), some (.int a2), some (.int a3), some (.int a4), some (.int x5), none, none, none] [.int s0] (hp Γ ρ σ) := by
  unfold f_X8_priceOf_54 at hf
  refine go_istore [none, some (.ref a1), some (.int a2), some (.int a3), some (.int a4), some (.int x5), some (.int s0), none, none] dX8_priceOf_54 (by decide) rfl ?_
  refine go_iload dX8_priceOf_56 rfl ?_
  refine go_if_eq 71 dX8_priceOf_58 (by decide) (fun c11 => ?_) (fun c11 => ?_)
  · replace hf := (if_pos c11).symm.trans hf
    refine go_msk [false, true, true, true, true, false, true, false, false] [none, some (.ref a1), some (.int a2), some (.int a3), some (.int a4), none, some (.int s0), none, none] rfl ?_
    exact w_X8_priceOf_71 hs h0 h1 s0 σ hf
  · replace hf := (if_neg c11).symm.trans hf
    refine go_iload dX8_priceOf_61 rfl ?_
    refine go_iload dX8_priceOf_63 rfl ?_
    refine go_icmp_eq 71 dX8_priceOf_65 (by decide) (fun c12 => ?_) (fun c12 => ?_)
    · replace hf := (if_pos c12).symm.trans hf
      refine go_msk [false, true, true, true, true, false, true, false, false] [none, some (.ref a1), some (.int a2), some (.int a3), some (.int a4), none, some (.int s0), none, none] rfl ?_
      exact w_X8_priceOf_71 hs h0 h1 s0 σ hf
    · replace hf := (if_neg c12).symm.trans hf
      refine go_ldc (1000000000) dX8_priceOf_68 cn_X8_45 ?_
      cases hf
      exact go_iret rfl dX8_priceOf_70 (Nat.le_refl _) ⟨rfl, rfl⟩
set_option maxRecDepth 100000 in
set_option maxHeartbeats 4000000 in
theorem t_X8_priceOf {N : Nat} {Γ : SG} {ρ : Nat → Nat → Nat} (hs : Sh Γ ρ) {this : Nat} {a1 : Nat} {a2 : Int32} {a3 : Int32} {a4 : Int32} (h0 : Γ[this]? = some (0, 8)) (h1 : Γ[a1]? = some (0, 0)) {σ : St} {r : Int32} {σr : St} (hf : f_X8_priceOf N ρ this a1 a2 a3 a4 σ = some (r, σr)) : Tri mX8_priceOf 2 0 0 [.ref this, .ref a1, .int a2, .int a3, .int a4] (hp Γ ρ σ) (Ki Γ ρ r σr) := by
  unfold f_X8_priceOf at hf
  refine tri_of [some (.ref this), some (.ref a1), some (.int a2), some (.int a3), some (.int a4), none, none, none, none] (plainFor_of_name rfl) rfl (Nat.le_of_ble_eq_true rfl) ?_
  refine go_iload_n 3 dX8_priceOf_0 rfl rfl ?_
  obtain ⟨r13, σ14, q15, hf⟩ := bnd_some hf
  refine go_Si (av := [.int a3]) (rest := []) (t_J6_bitCount_0f7a4 hs  q15) ok_J6_bitCount_0f7a4 ml_X8_82 dX8_priceOf_1 rfl rfl (by decide) (Nat.le_refl _) (Nat.le_refl _) (Nat.le_of_ble_eq_true rfl) ?_
  refine go_istore [some (.ref this), some (.ref a1), some (.int a2), some (.int a3), some (.int a4), some (.int r13), none, none, none] dX8_priceOf_4 (by decide) rfl ?_
  refine go_iload dX8_priceOf_6 rfl ?_
  refine go_aload_n 1 dX8_priceOf_8 rfl rfl ?_
  refine go_fR fl_X8_71 dX8_priceOf_9 h1 (by decide) rfl ?_
  refine go_iload_n 2 dX8_priceOf_12 rfl rfl ?_
  obtain ⟨g16, hf⟩ := gd_some hf
  refine go_rI dX8_priceOf_13 (hs.1 _ 0 2 h1 rfl) (ib_in g16) ?_
  refine go_icmp_gt 27 dX8_priceOf_14 (by decide) (fun c17 => ?_) (fun c17 => ?_)
  · replace hf := (if_pos c17).symm.trans hf
    refine go_msk [false, false, false, false, false, false, false, false, false] [none, none, none, none, none, none, none, none, none] rfl ?_
    exact w_X8_priceOf_27 hs h0 h1 σ14 hf
  · replace hf := (if_neg c17).symm.trans hf
    refine go_iload dX8_priceOf_17 rfl ?_
    refine go_aload_n 0 dX8_priceOf_19 rfl rfl ?_
    refine go_fR fl_X8_23 dX8_priceOf_20 h0 (by decide) rfl ?_
    refine go_len dX8_priceOf_23 (hs.1 _ 8 3 h0 rfl) (by decide) ?_
    refine go_icmp_lt 30 dX8_priceOf_24 (by decide) (fun c18 => ?_) (fun c18 => ?_)
    · replace hf := (if_pos c18).symm.trans hf
      refine go_aload_n 1 dX8_priceOf_30 rfl rfl ?_
      refine go_iload_n 3 dX8_priceOf_31 rfl rfl ?_
      obtain ⟨r19, σ20, q21, hf⟩ := bnd_some hf
      refine go_Vi (av := [.int a3]) (rest := []) (t_X0_quarrelIn hs h1 q21) ok_X0_quarrelIn ml_X8_88 dX8_priceOf_32 h1 rfl rfl (by decide) (Nat.le_refl _) (Nat.le_refl _) (Nat.le_of_ble_eq_true rfl) ?_
      refine go_if_eq 42 dX8_priceOf_35 (by decide) (fun c22 => ?_) (fun c22 => ?_)
      · replace hf := (if_pos c22).symm.trans hf
        refine go_aload_n 0 dX8_priceOf_42 rfl rfl ?_
        refine go_fR fl_X8_23 dX8_priceOf_43 h0 (by decide) rfl ?_
        refine go_iload dX8_priceOf_46 rfl ?_
        obtain ⟨g23, hf⟩ := gd_some hf
        refine go_rI dX8_priceOf_48 (hs.1 _ 8 3 h0 rfl) (ib_in g23) ?_
        refine go_iload_n 3 dX8_priceOf_49 rfl rfl ?_
        refine go_iand dX8_priceOf_50 ?_
        obtain ⟨r24, σ25, q26, hf⟩ := bnd_some hf
        refine go_Si (av := [.int ((σ20.1 (ρ this 3) r13.toNatClampNeg) &&& a3)]) (rest := []) (t_J6_bitCount_0f7a4 hs  q26) ok_J6_bitCount_0f7a4 ml_X8_82 dX8_priceOf_51 rfl rfl (by decide) (Nat.le_refl _) (Nat.le_refl _) (Nat.le_of_ble_eq_true rfl) ?_
        refine go_msk [false, true, true, true, true, true, false, false, false] [none, some (.ref a1), some (.int a2), some (.int a3), some (.int a4), some (.int r13), none, none, none] rfl ?_
        exact w_X8_priceOf_54 hs h0 h1 r13 r24 σ25 hf
      · replace hf := (if_neg c22).symm.trans hf
        refine go_iconst 0 dX8_priceOf_38 (by decide) ?_
        refine go_goto 54 dX8_priceOf_39 (by decide) ?_
        refine go_msk [false, true, true, true, true, true, false, false, false] [none, some (.ref a1), some (.int a2), some (.int a3), some (.int a4), some (.int r13), none, none, none] rfl ?_
        exact w_X8_priceOf_54 hs h0 h1 r13 0 σ20 hf
    · replace hf := (if_neg c18).symm.trans hf
      refine go_msk [false, false, false, false, false, false, false, false, false] [none, none, none, none, none, none, none, none, none] rfl ?_
      exact w_X8_priceOf_27 hs h0 h1 σ14 hf
def b_X8_priceSets_70 (N : Nat) (ρ : Nat → Nat → Nat) (this : Nat) (a1 : Nat) (a2 : Nat) (a3 : Int32) (a4 : Int32) (a5 : Int32) (rec70 : Int32 → St → Option (Int32 × St)) (x6 : Int32) (σ : St) : Option (Int32 × St) :=
  if a4 ≤ (x6 : Int32) then
    some (0, σ)
  else
    bnd (f_X8_priceOf N ρ this a1 a3 x6 a5 σ) fun r2 σ3 =>
    gd (ib x6 32) <|
    nmd (sI σ3 (ρ this 2) x6.toNatClampNeg r2) fun σ6 =>
    rec70 (x6 + 1) σ6
def f_X8_priceSets_70 (N : Nat) (ρ : Nat → Nat → Nat) (this : Nat) (a1 : Nat) (a2 : Nat) (a3 : Int32) (a4 : Int32) (a5 : Int32) : Nat → Int32 → St → Option (Int32 × St)
  | 0, _, _ => none
  | n + 1, x6, σ => b_X8_priceSets_70 N ρ this a1 a2 a3 a4 a5 (f_X8_priceSets_70 N ρ this a1 a2 a3 a4 a5 n) x6 σ
def f_X8_priceSets_66 (N : Nat) (ρ : Nat → Nat → Nat) (this : Nat) (a1 : Nat) (a2 : Nat) (a3 : Int32) (a4 : Int32) (a5 : Int32) (s0 : Int32) (s1 : Int32) (σ : St) : Option (Int32 × St) :=
  gd (ib s1 32) <|
  nmd (sI σ (ρ this 2) s1.toNatClampNeg s0) fun σ8 =>
  f_X8_priceSets_70 N ρ this a1 a2 a3 a4 a5 N 1 σ8
def f_X8_priceSets_50 (N : Nat) (ρ : Nat → Nat → Nat) (this : Nat) (a1 : Nat) (a2 : Nat) (a3 : Int32) (a4 : Int32) (a5 : Int32) (σ : St) : Option (Int32 × St) :=
  if (a5 : Int32) = 0 then
    f_X8_priceSets_66 N ρ this a1 a2 a3 a4 a5 0 0 σ
  else
    f_X8_priceSets_66 N ρ this a1 a2 a3 a4 a5 (1000000000) 0 σ
def b_X8_priceSets_3 (N : Nat) (ρ : Nat → Nat → Nat) (this : Nat) (a1 : Nat) (a2 : Nat) (a3 : Int32) (a4 : Int32) (a5 : Int32) (rec3 : Int32 → St → Option (Int32 × St)) (x6 : Int32) (σ : St) : Option (Int32 × St) :=
  gd (ib a3 6) <|
  if (σ.1 (ρ a1 2) a3.toNatClampNeg) < (x6 : Int32) then
    f_X8_priceSets_50 N ρ this a1 a2 a3 a4 a5 σ
  else
    if (nI 6) ≤ (x6 : Int32) then
      f_X8_priceSets_50 N ρ this a1 a2 a3 a4 a5 σ
    else
      bnd (f_X0_bearing N ρ a1 a2 a3 (a4 - 1) x6 0 σ) fun r13 σ14 =>
      gd (ib x6 6) <|
      nmd (sI σ14 (ρ this 3) x6.toNatClampNeg r13) fun σ17 =>
      rec3 (x6 + 1) σ17
def f_X8_priceSets_3 (N : Nat) (ρ : Nat → Nat → Nat) (this : Nat) (a1 : Nat) (a2 : Nat) (a3 : Int32) (a4 : Int32) (a5 : Int32) : Nat → Int32 → St → Option (Int32 × St)
  | 0, _, _ => none
  | n + 1, x6, σ => b_X8_priceSets_3 N ρ this a1 a2 a3 a4 a5 (f_X8_priceSets_3 N ρ this a1 a2 a3 a4 a5 n) x6 σ
def f_X8_priceSets (N : Nat) (ρ : Nat → Nat → Nat) (this : Nat) (a1 : Nat) (a2 : Nat) (a3 : Int32) (a4 : Int32) (a5 : Int32) (σ : St) : Option (Int32 × St) :=
  f_X8_priceSets_3 N ρ this a1 a2 a3 a4 a5 N 1 σ
set_option maxRecDepth 100000 in
set_option maxHeartbeats 4000000 in
theorem v_X8_priceSets_70 {N : Nat} {Γ : SG} {ρ : Nat → Nat → Nat} (hs : Sh Γ ρ) {this : Nat} {a1 : Nat} {a2 : Nat} {a3 : Int32} {a4 : Int32} {a5 : Int32} (h0 : Γ[this]? = some (0, 8)) (h1 : Γ[a1]? = some (0, 0)) (h2 : Γ[a2]? = some (0, 9)) {n0 : Nat} {r : Int32} {σr : St} (rec70 : Int32 → St → Option (Int32 × St)) (hrec70 : ∀ (x6 : Int32) (σ : St), rec70 x6 σ = some (r, σr) → Go mX8_priceSets 4 0 0 n0 (Kv Γ ρ σr) 0 0 70 [some (.ref this), some (.ref a1), none, some (.int a3), some (.int a4), some (.int a5), some (.int x6)] [] (hp Γ ρ σ)) (x6 : Int32) (σ : St) (hf : b_X8_priceSets_70 N ρ this a1 a2 a3 a4 a5 rec70 x6 σ = some (r, σr)) : Go mX8_priceSets 4 0 0 n0 (Kv Γ ρ σr) 0 0 70 [some (.ref this), some (.ref a1), none, some (.int a3), some (.int a4), some (.int a5), some (.int x6)] [] (hp Γ ρ σ) := by
  unfold b_X8_priceSets_70 at hf
  refine go_iload dX8_priceSets_70 rfl ?_
  refine go_iload dX8_priceSets_72 rfl ?_
  refine go_icmp_ge 100 dX8_priceSets_74 (by decide) (fun c1 => ?_) (fun c1 => ?_)
  · replace hf := (if_pos c1).symm.trans hf
    cases hf
    exact go_vret rfl dX8_priceSets_100 (Nat.le_refl _) ⟨rfl, rfl⟩
  · replace hf := (if_neg c1).symm.trans hf
    refine go_aload_n 0 dX8_priceSets_77 rfl rfl ?_
    refine go_fR fl_X8_20 dX8_priceSets_78 h0 (by decide) rfl ?_
    refine go_iload dX8_priceSets_81 rfl ?_
    refine go_aload_n 0 dX8_priceSets_83 rfl rfl ?_
    refine go_aload_n 1 dX8_priceSets_84 rfl rfl ?_
    refine go_iload_n 3 dX8_priceSets_85 rfl rfl ?_
    refine go_iload dX8_priceSets_86 rfl ?_
    refine go_iload dX8_priceSets_88 rfl ?_
    obtain ⟨r2, σ3, q4, hf⟩ := bnd_some hf
    refine go_Vi (av := [.ref a1, .int a3, .int x6, .int a5]) (rest := [.int x6, .ref (ρ this 2)]) (t_X8_priceOf hs h0 h1 q4) ok_X8_priceOf ml_X8_78 dX8_priceSets_90 h0 rfl rfl (by decide) (Nat.le_refl _) (Nat.le_refl _) (Nat.le_of_ble_eq_true rfl) ?_
    obtain ⟨g5, hf⟩ := gd_some hf
    obtain ⟨σ6, eσ6, hf⟩ := nmd_some hf
    refine go_wI dX8_priceSets_93 (hs.1 _ 8 2 h0 rfl) (ib_in g5) ?_
    rw [eσ6]
    refine go_iinc (x6 + 1) [some (.ref this), some (.ref a1), none, some (.int a3), some (.int a4), some (.int a5), some (.int (x6 + 1))] dX8_priceSets_94 rfl rfl (by decide) rfl ?_
    refine go_goto 70 dX8_priceSets_97 (by decide) ?_
    exact hrec70 (x6 + 1) σ6 hf
theorem w_X8_priceSets_70 {N : Nat} {Γ : SG} {ρ : Nat → Nat → Nat} (hs : Sh Γ ρ) {this : Nat} {a1 : Nat} {a2 : Nat} {a3 : Int32} {a4 : Int32} {a5 : Int32} (h0 : Γ[this]? = some (0, 8)) (h1 : Γ[a1]? = some (0, 0)) (h2 : Γ[a2]? = some (0, 9)) {n0 : Nat} {r : Int32} {σr : St} : ∀ (n : Nat) (x6 : Int32) (σ : St), f_X8_priceSets_70 N ρ this a1 a2 a3 a4 a5 n x6 σ = some (r, σr) → Go mX8_priceSets 4 0 0 n0 (Kv Γ ρ σr) 0 0 70 [some (.ref this), some (.ref a1), none, some (.int a3), some (.int a4), some (.int a5), some (.int x6)] [] (hp Γ ρ σ) := by
  intro n
  induction n with
  | zero => intro x6 σ hf; cases hf
  | succ n ih => intro x6 σ hf; exact v_X8_priceSets_70 hs h0 h1 h2 _ ih x6 σ hf
set_option maxRecDepth 100000 in
set_option maxHeartbeats 4000000 in
theorem w_X8_priceSets_66 {N : Nat} {Γ : SG} {ρ : Nat → Nat → Nat} (hs : Sh Γ ρ) {this : Nat} {a1 : Nat} {a2 : Nat} {a3 : Int32} {a4 : Int32} {a5 : Int32} (h0 : Γ[this]? = some (0, 8)) (h1 : Γ[a1]? = some (0, 0)) (h2 : Γ[a2]? = some (0, 9)) {n0 : Nat} {r : Int32} {σr : St} (s0 : Int32) (s1 : Int32) (σ : St) (hf : f_X8_priceSets_66 N ρ this a1 a2 a3 a4 a5 s0 s1 σ = some (r, σr)) : Go mX8_priceSets 4 0 0 n0 (Kv Γ ρ σr) 0 0 66 [some (.ref this), some (.ref a1), none, some (.int a3), some (.int a4), some (.int a5), none] [.int s0, .int s1, .ref (ρ this 2)] (hp Γ ρ σ) := by
  unfold f_X8_priceSets_66 at hf
  obtain ⟨g7, hf⟩ := gd_some hf
  obtain ⟨σ8, eσ8, hf⟩ := nmd_some hf
  refine go_wI dX8_priceSets_66 (hs.1 _ 8 2 h0 rfl) (ib_in g7) ?_
  rw [eσ8]
  refine go_iconst 1 dX8_priceSets_67 (by decide) ?_
  refine go_istore [some (.ref this), some (.ref a1), none, some (.int a3), some (.int a4), some (.int a5), some (.int 1)] dX8_priceSets_68 (by decide) rfl ?_
  exact w_X8_priceSets_70 hs h0 h1 h2 N 1 σ8 hf
set_option maxRecDepth 100000 in
set_option maxHeartbeats 4000000 in
theorem w_X8_priceSets_50 {N : Nat} {Γ : SG} {ρ : Nat → Nat → Nat} (hs : Sh Γ ρ) {this : Nat} {a1 : Nat} {a2 : Nat} {a3 : Int32} {a4 : Int32} {a5 : Int32} (h0 : Γ[this]? = some (0, 8)) (h1 : Γ[a1]? = some (0, 0)) (h2 : Γ[a2]? = some (0, 9)) {n0 : Nat} {r : Int32} {σr : St} (σ : St) (hf : f_X8_priceSets_50 N ρ this a1 a2 a3 a4 a5 σ = some (r, σr)) : Go mX8_priceSets 4 0 0 n0 (Kv Γ ρ σr) 0 0 50 [some (.ref this), some (.ref a1), none, some (.int a3), some (.int a4), some (.int a5), none] [] (hp Γ ρ σ) := by
  unfold f_X8_priceSets_50 at hf
  refine go_aload_n 0 dX8_priceSets_50 rfl rfl ?_
  refine go_fR fl_X8_20 dX8_priceSets_51 h0 (by decide) rfl ?_
  refine go_iconst 0 dX8_priceSets_54 (by decide) ?_
  refine go_iload dX8_priceSets_55 rfl ?_
  refine go_if_eq 65 dX8_priceSets_57 (by decide) (fun c9 => ?_) (fun c9 => ?_)
  · replace hf := (if_pos c9).symm.trans hf
    refine go_iconst 0 dX8_priceSets_65 (by decide) ?_
    exact w_X8_priceSets_66 hs h0 h1 h2 0 0 σ hf
  · replace hf := (if_neg c9).symm.trans hf
    refine go_ldc (1000000000) dX8_priceSets_60 cn_X8_45 ?_
    refine go_goto 66 dX8_priceSets_62 (by decide) ?_
    exact w_X8_priceSets_66 hs h0 h1 h2 (1000000000) 0 σ hf
set_option maxRecDepth 100000 in
set_option maxHeartbeats 4000000 in
theorem v_X8_priceSets_3 {N : Nat} {Γ : SG} {ρ : Nat → Nat → Nat} (hs : Sh Γ ρ) {this : Nat} {a1 : Nat} {a2 : Nat} {a3 : Int32} {a4 : Int32} {a5 : Int32} (h0 : Γ[this]? = some (0, 8)) (h1 : Γ[a1]? = some (0, 0)) (h2 : Γ[a2]? = some (0, 9)) {n0 : Nat} {r : Int32} {σr : St} (rec3 : Int32 → St → Option (Int32 × St)) (hrec3 : ∀ (x6 : Int32) (σ : St), rec3 x6 σ = some (r, σr) → Go mX8_priceSets 4 0 0 n0 (Kv Γ ρ σr) 0 0 3 [some (.ref this), some (.ref a1), some (.ref a2), some (.int a3), some (.int a4), some (.int a5), some (.int x6)] [] (hp Γ ρ σ)) (x6 : Int32) (σ : St) (hf : b_X8_priceSets_3 N ρ this a1 a2 a3 a4 a5 rec3 x6 σ = some (r, σr)) : Go mX8_priceSets 4 0 0 n0 (Kv Γ ρ σr) 0 0 3 [some (.ref this), some (.ref a1), some (.ref a2), some (.int a3), some (.int a4), some (.int a5), some (.int x6)] [] (hp Γ ρ σ) := by
  unfold b_X8_priceSets_3 at hf
  refine go_iload dX8_priceSets_3 rfl ?_
  refine go_aload_n 1 dX8_priceSets_5 rfl rfl ?_
  refine go_fR fl_X8_71 dX8_priceSets_6 h1 (by decide) rfl ?_
  refine go_iload_n 3 dX8_priceSets_9 rfl rfl ?_
  obtain ⟨g10, hf⟩ := gd_some hf
  refine go_rI dX8_priceSets_10 (hs.1 _ 0 2 h1 rfl) (ib_in g10) ?_
  refine go_icmp_gt 50 dX8_priceSets_11 (by decide) (fun c11 => ?_) (fun c11 => ?_)
  · replace hf := (if_pos c11).symm.trans hf
    refine go_msk [true, true, false, true, true, true, false] [some (.ref this), some (.ref a1), none, some (.int a3), some (.int a4), some (.int a5), none] rfl ?_
    exact w_X8_priceSets_50 hs h0 h1 h2 σ hf
  · replace hf := (if_neg c11).symm.trans hf
    refine go_iload dX8_priceSets_14 rfl ?_
    refine go_aload_n 0 dX8_priceSets_16 rfl rfl ?_
    refine go_fR fl_X8_23 dX8_priceSets_17 h0 (by decide) rfl ?_
    refine go_len dX8_priceSets_20 (hs.1 _ 8 3 h0 rfl) (by decide) ?_
    refine go_icmp_ge 50 dX8_priceSets_21 (by decide) (fun c12 => ?_) (fun c12 => ?_)
    · replace hf := (if_pos c12).symm.trans hf
      refine go_msk [true, true, false, true, true, true, false] [some (.ref this), some (.ref a1), none, some (.int a3), some (.int a4), some (.int a5), none] rfl ?_
      exact w_X8_priceSets_50 hs h0 h1 h2 σ hf
    · replace hf := (if_neg c12).symm.trans hf
      refine go_aload_n 0 dX8_priceSets_24 rfl rfl ?_
      refine go_fR fl_X8_23 dX8_priceSets_25 h0 (by decide) rfl ?_
      refine go_iload dX8_priceSets_28 rfl ?_
      refine go_aload_n 1 dX8_priceSets_30 rfl rfl ?_
      refine go_aload_n 2 dX8_priceSets_31 rfl rfl ?_
      refine go_iload_n 3 dX8_priceSets_32 rfl rfl ?_
      refine go_iload dX8_priceSets_33 rfl ?_
      refine go_iconst 1 dX8_priceSets_35 (by decide) ?_
      refine go_isub dX8_priceSets_36 ?_
      refine go_iload dX8_priceSets_37 rfl ?_
      refine go_iconst 0 dX8_priceSets_39 (by decide) ?_
      obtain ⟨r13, σ14, q15, hf⟩ := bnd_some hf
      refine go_Vi (av := [.ref a2, .int a3, .int (a4 - 1), .int x6, .int 0]) (rest := [.int x6, .ref (ρ this 3)]) (t_X0_bearing hs h1 h2 q15) ok_X0_bearing ml_X8_74 dX8_priceSets_40 h1 rfl rfl (by decide) (Nat.le_refl _) (Nat.le_refl _) (Nat.le_of_ble_eq_true rfl) ?_
      obtain ⟨g16, hf⟩ := gd_some hf
      obtain ⟨σ17, eσ17, hf⟩ := nmd_some hf
      refine go_wI dX8_priceSets_43 (hs.1 _ 8 3 h0 rfl) (ib_in g16) ?_
      rw [eσ17]
      refine go_iinc (x6 + 1) [some (.ref this), some (.ref a1), some (.ref a2), some (.int a3), some (.int a4), some (.int a5), some (.int (x6 + 1))] dX8_priceSets_44 rfl rfl (by decide) rfl ?_
      refine go_goto 3 dX8_priceSets_47 (by decide) ?_
      exact hrec3 (x6 + 1) σ17 hf
theorem w_X8_priceSets_3 {N : Nat} {Γ : SG} {ρ : Nat → Nat → Nat} (hs : Sh Γ ρ) {this : Nat} {a1 : Nat} {a2 : Nat} {a3 : Int32} {a4 : Int32} {a5 : Int32} (h0 : Γ[this]? = some (0, 8)) (h1 : Γ[a1]? = some (0, 0)) (h2 : Γ[a2]? = some (0, 9)) {n0 : Nat} {r : Int32} {σr : St} : ∀ (n : Nat) (x6 : Int32) (σ : St), f_X8_priceSets_3 N ρ this a1 a2 a3 a4 a5 n x6 σ = some (r, σr) → Go mX8_priceSets 4 0 0 n0 (Kv Γ ρ σr) 0 0 3 [some (.ref this), some (.ref a1), some (.ref a2), some (.int a3), some (.int a4), some (.int a5), some (.int x6)] [] (hp Γ ρ σ) := by
  intro n
  induction n with
  | zero => intro x6 σ hf; cases hf
  | succ n ih => intro x6 σ hf; exact v_X8_priceSets_3 hs h0 h1 h2 _ ih x6 σ hf
set_option maxRecDepth 100000 in
set_option maxHeartbeats 4000000 in
theorem t_X8_priceSets {N : Nat} {Γ : SG} {ρ : Nat → Nat → Nat} (hs : Sh Γ ρ) {this : Nat} {a1 : Nat} {a2 : Nat} {a3 : Int32} {a4 : Int32} {a5 : Int32} (h0 : Γ[this]? = some (0, 8)) (h1 : Γ[a1]? = some (0, 0)) (h2 : Γ[a2]? = some (0, 9)) {σ : St} {r : Int32} {σr : St} (hf : f_X8_priceSets N ρ this a1 a2 a3 a4 a5 σ = some (r, σr)) : Tri mX8_priceSets 4 0 0 [.ref this, .ref a1, .ref a2, .int a3, .int a4, .int a5] (hp Γ ρ σ) (Kv Γ ρ σr) := by
  unfold f_X8_priceSets at hf
  refine tri_of [some (.ref this), some (.ref a1), some (.ref a2), some (.int a3), some (.int a4), some (.int a5), none] (plainFor_of_name rfl) rfl (Nat.le_of_ble_eq_true rfl) ?_
  refine go_iconst 1 dX8_priceSets_0 (by decide) ?_
  refine go_istore [some (.ref this), some (.ref a1), some (.ref a2), some (.int a3), some (.int a4), some (.int a5), some (.int 1)] dX8_priceSets_1 (by decide) rfl ?_
  exact w_X8_priceSets_3 hs h0 h1 h2 N 1 σ hf
def f_X8_unpack_90 (N : Nat) (ρ : Nat → Nat → Nat) (this : Nat) (a1 : Nat) (a2 : Int32) (rec37 : Int32 → Int32 → St → Option (Int32 × St)) (x4 : Int32) (x5 : Int32) (s0 : Int32) (s1 : Int32) (σ : St) : Option (Int32 × St) :=
  gd (ib s1 5) <|
  nmd (sI σ (ρ this 4) s1.toNatClampNeg s0) fun σ2 =>
  rec37 x4 (x5 + 1) σ2
def f_X8_unpack_97 (N : Nat) (ρ : Nat → Nat → Nat) (this : Nat) (a1 : Nat) (a2 : Int32) (σ : St) : Option (Int32 × St) :=
  some (0, σ)
def b_X8_unpack_37 (N : Nat) (ρ : Nat → Nat → Nat) (this : Nat) (a1 : Nat) (a2 : Int32) (rec37 : Int32 → Int32 → St → Option (Int32 × St)) (x4 : Int32) (x5 : Int32) (σ : St) : Option (Int32 × St) :=
  if (σ.1 a1 12) ≤ (x5 : Int32) then
    f_X8_unpack_97 N ρ this a1 a2 σ
  else
    if 5 ≤ (x5 : Int32) then
      f_X8_unpack_97 N ρ this a1 a2 σ
    else
      gd (ib x5 5) <|
      gd (nz (romW x5.toNatClampNeg)) <|
      nmd (irem (x4 / (romW x5.toNatClampNeg)) 7) fun y7 =>
      if (σ.1 a1 11) ≤ (y7 : Int32) then
        f_X8_unpack_90 N ρ this a1 a2 rec37 x4 x5 (-1) x5 σ
      else
        f_X8_unpack_90 N ρ this a1 a2 rec37 x4 x5 y7 x5 σ
def f_X8_unpack_37 (N : Nat) (ρ : Nat → Nat → Nat) (this : Nat) (a1 : Nat) (a2 : Int32) : Nat → Int32 → Int32 → St → Option (Int32 × St)
  | 0, _, _, _ => none
  | n + 1, x4, x5, σ => b_X8_unpack_37 N ρ this a1 a2 (f_X8_unpack_37 N ρ this a1 a2 n) x4 x5 σ
def f_X8_unpack (N : Nat) (ρ : Nat → Nat → Nat) (this : Nat) (a1 : Nat) (a2 : Int32) (σ : St) : Option (Int32 × St) :=
  bnd (f_J9_floorMod_7cf53 N ρ a2 (8403500) σ) fun r9 σ10 =>
  bnd (f_J9_floorDiv_7cf53 N ρ a2 (8403500) σ10) fun r12 σ13 =>
  nmd (sI σ13 this 5 (-r12)) fun σ15 =>
  nmd (sI σ15 this 6 (r9 / 16807)) fun σ16 =>
  nmd (irem r9 16807) fun y17 =>
  f_X8_unpack_37 N ρ this a1 a2 N y17 0 σ16
set_option maxRecDepth 100000 in
set_option maxHeartbeats 4000000 in
theorem w_X8_unpack_90 {N : Nat} {Γ : SG} {ρ : Nat → Nat → Nat} (hs : Sh Γ ρ) {this : Nat} {a1 : Nat} {a2 : Int32} (h0 : Γ[this]? = some (0, 8)) (h1 : Γ[a1]? = some (0, 0)) {n0 : Nat} {r : Int32} {σr : St} (rec37 : Int32 → Int32 → St → Option (Int32 × St)) (hrec37 : ∀ (x4 : Int32) (x5 : Int32) (σ : St), rec37 x4 x5 σ = some (r, σr) → Go mX8_unpack 1 0 0 n0 (Kv Γ ρ σr) 0 0 37 [some (.ref this), some (.ref a1), none, none, some (.int x4), some (.int x5), none] [] (hp Γ ρ σ)) (x4 : Int32) (x5 : Int32) (s0 : Int32) (s1 : Int32) (σ : St) (hf : f_X8_unpack_90 N ρ this a1 a2 rec37 x4 x5 s0 s1 σ = some (r, σr)) : Go mX8_unpack 1 0 0 n0 (Kv Γ ρ σr) 0 0 90 [some (.ref this), some (.ref a1), none, none, some (.int x4), some (.int x5), none] [.int s0, .int s1, .ref (ρ this 4)] (hp Γ ρ σ) := by
  unfold f_X8_unpack_90 at hf
  obtain ⟨g1, hf⟩ := gd_some hf
  obtain ⟨σ2, eσ2, hf⟩ := nmd_some hf
  refine go_wI dX8_unpack_90 (hs.1 _ 8 4 h0 rfl) (ib_in g1) ?_
  rw [eσ2]
  refine go_iinc (x5 + 1) [some (.ref this), some (.ref a1), none, none, some (.int x4), some (.int (x5 + 1)), none] dX8_unpack_91 rfl rfl (by decide) rfl ?_
  refine go_goto 37 dX8_unpack_94 (by decide) ?_
  exact hrec37 x4 (x5 + 1) σ2 hf
set_option maxRecDepth 100000 in
set_option maxHeartbeats 4000000 in
theorem w_X8_unpack_97 {N : Nat} {Γ : SG} {ρ : Nat → Nat → Nat} (hs : Sh Γ ρ) {this : Nat} {a1 : Nat} {a2 : Int32} (h0 : Γ[this]? = some (0, 8)) (h1 : Γ[a1]? = some (0, 0)) {n0 : Nat} {r : Int32} {σr : St} (σ : St) (hf : f_X8_unpack_97 N ρ this a1 a2 σ = some (r, σr)) : Go mX8_unpack 1 0 0 n0 (Kv Γ ρ σr) 0 0 97 [none, none, none, none, none, none, none] [] (hp Γ ρ σ) := by
  unfold f_X8_unpack_97 at hf
  cases hf
  exact go_vret rfl dX8_unpack_97 (Nat.le_refl _) ⟨rfl, rfl⟩
set_option maxRecDepth 100000 in
set_option maxHeartbeats 4000000 in
theorem v_X8_unpack_37 {N : Nat} {Γ : SG} {ρ : Nat → Nat → Nat} (hs : Sh Γ ρ) {this : Nat} {a1 : Nat} {a2 : Int32} (h0 : Γ[this]? = some (0, 8)) (h1 : Γ[a1]? = some (0, 0)) {n0 : Nat} {r : Int32} {σr : St} (rec37 : Int32 → Int32 → St → Option (Int32 × St)) (hrec37 : ∀ (x4 : Int32) (x5 : Int32) (σ : St), rec37 x4 x5 σ = some (r, σr) → Go mX8_unpack 1 0 0 n0 (Kv Γ ρ σr) 0 0 37 [some (.ref this), some (.ref a1), none, none, some (.int x4), some (.int x5), none] [] (hp Γ ρ σ)) (x4 : Int32) (x5 : Int32) (σ : St) (hf : b_X8_unpack_37 N ρ this a1 a2 rec37 x4 x5 σ = some (r, σr)) : Go mX8_unpack 1 0 0 n0 (Kv Γ ρ σr) 0 0 37 [some (.ref this), some (.ref a1), none, none, some (.int x4), some (.int x5), none] [] (hp Γ ρ σ) := by
  unfold b_X8_unpack_37 at hf
  refine go_iload dX8_unpack_37 rfl ?_
  refine go_aload_n 1 dX8_unpack_39 rfl rfl ?_
  refine go_fI fl_X8_36 dX8_unpack_40 h1 (by decide) rfl ?_
  refine go_icmp_ge 97 dX8_unpack_43 (by decide) (fun c3 => ?_) (fun c3 => ?_)
  · replace hf := (if_pos c3).symm.trans hf
    refine go_msk [false, false, false, false, false, false, false] [none, none, none, none, none, none, none] rfl ?_
    exact w_X8_unpack_97 hs h0 h1 σ hf
  · replace hf := (if_neg c3).symm.trans hf
    refine go_iload dX8_unpack_46 rfl ?_
    refine go_wts sl_X8_102 dX8_unpack_48 ?_
    refine go_wtl dX8_unpack_51 ?_
    refine go_icmp_ge 97 dX8_unpack_52 (by decide) (fun c4 => ?_) (fun c4 => ?_)
    · replace hf := (if_pos c4).symm.trans hf
      refine go_msk [false, false, false, false, false, false, false] [none, none, none, none, none, none, none] rfl ?_
      exact w_X8_unpack_97 hs h0 h1 σ hf
    · replace hf := (if_neg c4).symm.trans hf
      refine go_iload dX8_unpack_55 rfl ?_
      refine go_wts sl_X8_102 dX8_unpack_57 ?_
      refine go_iload dX8_unpack_60 rfl ?_
      obtain ⟨g5, hf⟩ := gd_some hf
      refine go_wti dX8_unpack_62 (ib_in g5) ?_
      obtain ⟨g6, hf⟩ := gd_some hf
      refine go_idiv dX8_unpack_63 (nz_of g6) ?_
      refine go_bipush 7 dX8_unpack_64 (by decide) ?_
      refine go_irem dX8_unpack_66 (by decide) ?_
      obtain ⟨y7, ey7, hf⟩ := nmd_some hf
      refine go_nm ey7 ?_
      refine go_istore [some (.ref this), some (.ref a1), none, none, some (.int x4), some (.int x5), some (.int y7)] dX8_unpack_67 (by decide) rfl ?_
      refine go_aload_n 0 dX8_unpack_69 rfl rfl ?_
      refine go_fR fl_X8_26 dX8_unpack_70 h0 (by decide) rfl ?_
      refine go_iload dX8_unpack_73 rfl ?_
      refine go_iload dX8_unpack_75 rfl ?_
      refine go_aload_n 1 dX8_unpack_77 rfl rfl ?_
      refine go_fI fl_X8_52 dX8_unpack_78 h1 (by decide) rfl ?_
      refine go_icmp_ge 89 dX8_unpack_81 (by decide) (fun c8 => ?_) (fun c8 => ?_)
      · replace hf := (if_pos c8).symm.trans hf
        refine go_iconst (-1) dX8_unpack_89 (by decide) ?_
        refine go_msk [true, true, false, false, true, true, false] [some (.ref this), some (.ref a1), none, none, some (.int x4), some (.int x5), none] rfl ?_
        exact w_X8_unpack_90 hs h0 h1 rec37 hrec37 x4 x5 (-1) x5 σ hf
      · replace hf := (if_neg c8).symm.trans hf
        refine go_iload dX8_unpack_84 rfl ?_
        refine go_goto 90 dX8_unpack_86 (by decide) ?_
        refine go_msk [true, true, false, false, true, true, false] [some (.ref this), some (.ref a1), none, none, some (.int x4), some (.int x5), none] rfl ?_
        exact w_X8_unpack_90 hs h0 h1 rec37 hrec37 x4 x5 y7 x5 σ hf
theorem w_X8_unpack_37 {N : Nat} {Γ : SG} {ρ : Nat → Nat → Nat} (hs : Sh Γ ρ) {this : Nat} {a1 : Nat} {a2 : Int32} (h0 : Γ[this]? = some (0, 8)) (h1 : Γ[a1]? = some (0, 0)) {n0 : Nat} {r : Int32} {σr : St} : ∀ (n : Nat) (x4 : Int32) (x5 : Int32) (σ : St), f_X8_unpack_37 N ρ this a1 a2 n x4 x5 σ = some (r, σr) → Go mX8_unpack 1 0 0 n0 (Kv Γ ρ σr) 0 0 37 [some (.ref this), some (.ref a1), none, none, some (.int x4), some (.int x5), none] [] (hp Γ ρ σ) := by
  intro n
  induction n with
  | zero => intro x4 x5 σ hf; cases hf
  | succ n ih => intro x4 x5 σ hf; exact v_X8_unpack_37 hs h0 h1 _ ih x4 x5 σ hf
set_option maxRecDepth 100000 in
set_option maxHeartbeats 4000000 in
theorem t_X8_unpack {N : Nat} {Γ : SG} {ρ : Nat → Nat → Nat} (hs : Sh Γ ρ) {this : Nat} {a1 : Nat} {a2 : Int32} (h0 : Γ[this]? = some (0, 8)) (h1 : Γ[a1]? = some (0, 0)) {σ : St} {r : Int32} {σr : St} (hf : f_X8_unpack N ρ this a1 a2 σ = some (r, σr)) : Tri mX8_unpack 1 0 0 [.ref this, .ref a1, .int a2] (hp Γ ρ σ) (Kv Γ ρ σr) := by
  unfold f_X8_unpack at hf
  refine tri_of [some (.ref this), some (.ref a1), some (.int a2), none, none, none, none] (plainFor_of_name rfl) rfl (Nat.le_of_ble_eq_true rfl) ?_
  refine go_iload_n 2 dX8_unpack_0 rfl rfl ?_
  refine go_ldc (8403500) dX8_unpack_1 cn_X8_95 ?_
  obtain ⟨r9, σ10, q11, hf⟩ := bnd_some hf
  refine go_Si (av := [.int a2, .int (8403500)]) (rest := []) (t_J9_floorMod_7cf53 hs  q11) ok_J9_floorMod_7cf53 ml_X8_105 dX8_unpack_3 rfl rfl (by decide) (Nat.le_refl _) (Nat.le_refl _) (Nat.le_of_ble_eq_true rfl) ?_
  refine go_istore_n 3 [some (.ref this), some (.ref a1), some (.int a2), some (.int r9), none, none, none] dX8_unpack_6 rfl (by decide) rfl ?_
  refine go_aload_n 0 dX8_unpack_7 rfl rfl ?_
  refine go_iload_n 2 dX8_unpack_8 rfl rfl ?_
  refine go_ldc (8403500) dX8_unpack_9 cn_X8_95 ?_
  obtain ⟨r12, σ13, q14, hf⟩ := bnd_some hf
  refine go_Si (av := [.int a2, .int (8403500)]) (rest := [.ref this]) (t_J9_floorDiv_7cf53 hs  q14) ok_J9_floorDiv_7cf53 ml_X8_108 dX8_unpack_11 rfl rfl (by decide) (Nat.le_refl _) (Nat.le_refl _) (Nat.le_of_ble_eq_true rfl) ?_
  refine go_ineg dX8_unpack_14 ?_
  obtain ⟨σ15, eσ15, hf⟩ := nmd_some hf
  refine go_pI fl_X8_29 ft_8_5 (okv_i _) dX8_unpack_15 h0 (by decide) rfl ?_
  rw [eσ15]
  refine go_aload_n 0 dX8_unpack_18 rfl rfl ?_
  refine go_iload_n 3 dX8_unpack_19 rfl rfl ?_
  refine go_sipush 16807 dX8_unpack_20 (by decide) ?_
  refine go_idiv dX8_unpack_23 (by decide) ?_
  obtain ⟨σ16, eσ16, hf⟩ := nmd_some hf
  refine go_pI fl_X8_33 ft_8_6 (okv_i _) dX8_unpack_24 h0 (by decide) rfl ?_
  rw [eσ16]
  refine go_iload_n 3 dX8_unpack_27 rfl rfl ?_
  refine go_sipush 16807 dX8_unpack_28 (by decide) ?_
  refine go_irem dX8_unpack_31 (by decide) ?_
  obtain ⟨y17, ey17, hf⟩ := nmd_some hf
  refine go_nm ey17 ?_
  refine go_istore [some (.ref this), some (.ref a1), some (.int a2), some (.int r9), some (.int y17), none, none] dX8_unpack_32 (by decide) rfl ?_
  refine go_iconst 0 dX8_unpack_34 (by decide) ?_
  refine go_istore [some (.ref this), some (.ref a1), some (.int a2), some (.int r9), some (.int y17), some (.int 0), none] dX8_unpack_35 (by decide) rfl ?_
  refine go_msk [true, true, false, false, true, true, false] [some (.ref this), some (.ref a1), none, none, some (.int y17), some (.int 0), none] rfl ?_
  exact w_X8_unpack_37 hs h0 h1 N y17 0 σ16 hf
def f_X8_find_120 (N : Nat) (ρ : Nat → Nat → Nat) (this : Nat) (a1 : Nat) (a2 : Nat) (a3 : Int32) (rec71 : Int32 → Int32 → Int32 → St → Option (Int32 × St)) (x4 : Int32) (x5 : Int32) (x6 : Int32) (σ : St) : Option (Int32 × St) :=
  rec71 x4 x5 (x6 + 1) σ
def b_X8_find_71 (N : Nat) (ρ : Nat → Nat → Nat) (this : Nat) (a1 : Nat) (a2 : Nat) (a3 : Int32) (rec71 : Int32 → Int32 → Int32 → St → Option (Int32 × St)) (x4 : Int32) (x5 : Int32) (x6 : Int32) (σ : St) : Option (Int32 × St) :=
  if x4 ≤ (x6 : Int32) then
    if (x5 : Int32) = (1000000000) then
      some (0, σ)
    else
      bnd (f_X8_unpack N ρ this a1 x5 σ) fun _ σ4 =>
      some (1, σ4)
  else
    gd (ib x6 32) <|
    if (σ.1 (ρ this 0) x6.toNatClampNeg : Int32) = (1000000000) then
      f_X8_find_120 N ρ this a1 a2 a3 rec71 x4 x5 x6 σ
    else
      gd (ib x6 32) <|
      bnd (f_X8_orderOf N ρ (σ.1 a1 12) (x6 ^^^ (-1)) (σ.1 a1 11) σ) fun r9 σ10 =>
      nmd (mmin x5 ((σ.1 (ρ this 0) x6.toNatClampNeg) + r9)) fun y12 =>
      f_X8_find_120 N ρ this a1 a2 a3 rec71 x4 y12 x6 σ10
def f_X8_find_71 (N : Nat) (ρ : Nat → Nat → Nat) (this : Nat) (a1 : Nat) (a2 : Nat) (a3 : Int32) : Nat → Int32 → Int32 → Int32 → St → Option (Int32 × St)
  | 0, _, _, _, _ => none
  | n + 1, x4, x5, x6, σ => b_X8_find_71 N ρ this a1 a2 a3 (f_X8_find_71 N ρ this a1 a2 a3 n) x4 x5 x6 σ
def b_X8_find_32 (N : Nat) (ρ : Nat → Nat → Nat) (this : Nat) (a1 : Nat) (a2 : Nat) (a3 : Int32) (rec32 : Int32 → Int32 → St → Option (Int32 × St)) (x4 : Int32) (x5 : Int32) (σ : St) : Option (Int32 × St) :=
  if (σ.1 a1 11) ≤ (x5 : Int32) then
    f_X8_find_71 N ρ this a1 a2 a3 N x4 (1000000000) 0 σ
  else
    bnd (f_X8_priceSets N ρ this a1 a2 x5 x4 a3 σ) fun _ σ15 =>
    bnd (f_X8_goOnWithHearth N ρ this x4 σ15) fun _ σ18 =>
    rec32 x4 (x5 + 1) σ18
def f_X8_find_32 (N : Nat) (ρ : Nat → Nat → Nat) (this : Nat) (a1 : Nat) (a2 : Nat) (a3 : Int32) : Nat → Int32 → Int32 → St → Option (Int32 × St)
  | 0, _, _, _ => none
  | n + 1, x4, x5, σ => b_X8_find_32 N ρ this a1 a2 a3 (f_X8_find_32 N ρ this a1 a2 a3 n) x4 x5 σ
def f_X8_find (N : Nat) (ρ : Nat → Nat → Nat) (this : Nat) (a1 : Nat) (a2 : Nat) (a3 : Int32) (σ : St) : Option (Int32 × St) :=
  nmd (mmin 32 (1 <<< ((σ.1 a1 12) &&& 31))) fun y20 =>
  bnd (f_J7_fill_53178 N ρ (ρ this 0) 32 (1000000000) σ) fun _ σ22 =>
  gd (ib 0 32) <|
  nmd (sI σ22 (ρ this 0) (0 : Int32).toNatClampNeg 0) fun σ25 =>
  f_X8_find_32 N ρ this a1 a2 a3 N y20 0 σ25
set_option maxRecDepth 100000 in
set_option maxHeartbeats 4000000 in
theorem w_X8_find_120 {N : Nat} {Γ : SG} {ρ : Nat → Nat → Nat} (hs : Sh Γ ρ) {this : Nat} {a1 : Nat} {a2 : Nat} {a3 : Int32} (h0 : Γ[this]? = some (0, 8)) (h1 : Γ[a1]? = some (0, 0)) (h2 : Γ[a2]? = some (0, 9)) {n0 : Nat} {r : Int32} {σr : St} (rec71 : Int32 → Int32 → Int32 → St → Option (Int32 × St)) (hrec71 : ∀ (x4 : Int32) (x5 : Int32) (x6 : Int32) (σ : St), rec71 x4 x5 x6 σ = some (r, σr) → Go mX8_find 5 0 0 n0 (Ki Γ ρ r σr) 0 0 71 [some (.ref this), some (.ref a1), none, none, some (.int x4), some (.int x5), some (.int x6)] [] (hp Γ ρ σ)) (x4 : Int32) (x5 : Int32) (x6 : Int32) (σ : St) (hf : f_X8_find_120 N ρ this a1 a2 a3 rec71 x4 x5 x6 σ = some (r, σr)) : Go mX8_find 5 0 0 n0 (Ki Γ ρ r σr) 0 0 120 [some (.ref this), some (.ref a1), none, none, some (.int x4), some (.int x5), some (.int x6)] [] (hp Γ ρ σ) := by
  unfold f_X8_find_120 at hf
  refine go_iinc (x6 + 1) [some (.ref this), some (.ref a1), none, none, some (.int x4), some (.int x5), some (.int (x6 + 1))] dX8_find_120 rfl rfl (by decide) rfl ?_
  refine go_goto 71 dX8_find_123 (by decide) ?_
  exact hrec71 x4 x5 (x6 + 1) σ hf
set_option maxRecDepth 100000 in
set_option maxHeartbeats 4000000 in
theorem v_X8_find_71 {N : Nat} {Γ : SG} {ρ : Nat → Nat → Nat} (hs : Sh Γ ρ) {this : Nat} {a1 : Nat} {a2 : Nat} {a3 : Int32} (h0 : Γ[this]? = some (0, 8)) (h1 : Γ[a1]? = some (0, 0)) (h2 : Γ[a2]? = some (0, 9)) {n0 : Nat} {r : Int32} {σr : St} (rec71 : Int32 → Int32 → Int32 → St → Option (Int32 × St)) (hrec71 : ∀ (x4 : Int32) (x5 : Int32) (x6 : Int32) (σ : St), rec71 x4 x5 x6 σ = some (r, σr) → Go mX8_find 5 0 0 n0 (Ki Γ ρ r σr) 0 0 71 [some (.ref this), some (.ref a1), none, none, some (.int x4), some (.int x5), some (.int x6)] [] (hp Γ ρ σ)) (x4 : Int32) (x5 : Int32) (x6 : Int32) (σ : St) (hf : b_X8_find_71 N ρ this a1 a2 a3 rec71 x4 x5 x6 σ = some (r, σr)) : Go mX8_find 5 0 0 n0 (Ki Γ ρ r σr) 0 0 71 [some (.ref this), some (.ref a1), none, none, some (.int x4), some (.int x5), some (.int x6)] [] (hp Γ ρ σ) := by
  unfold b_X8_find_71 at hf
  refine go_iload dX8_find_71 rfl ?_
  refine go_iload dX8_find_73 rfl ?_
  refine go_icmp_ge 126 dX8_find_75 (by decide) (fun c1 => ?_) (fun c1 => ?_)
  · replace hf := (if_pos c1).symm.trans hf
    refine go_iload dX8_find_126 rfl ?_
    refine go_ldc (1000000000) dX8_find_128 cn_X8_45 ?_
    refine go_icmp_ne 135 dX8_find_130 (by decide) (fun c2 => ?_) (fun c2 => ?_)
    · replace hf := (if_neg c2).symm.trans hf
      refine go_aload_n 0 dX8_find_135 rfl rfl ?_
      refine go_aload_n 1 dX8_find_136 rfl rfl ?_
      refine go_iload dX8_find_137 rfl ?_
      obtain ⟨r3, σ4, q5, hf⟩ := bnd_some hf
      refine go_Vv (av := [.ref a1, .int x5]) (rest := []) (t_X8_unpack hs h0 h1 q5) ok_X8_unpack ml_X8_67 dX8_find_139 h0 rfl rfl (by decide) (Nat.le_refl _) (Nat.le_refl _) (Nat.le_of_ble_eq_true rfl) ?_
      refine go_iconst 1 dX8_find_142 (by decide) ?_
      cases hf
      exact go_zret rfl (by decide) dX8_find_143 (Nat.le_refl _) ⟨rfl, rfl⟩
    · replace hf := (if_pos c2).symm.trans hf
      refine go_iconst 0 dX8_find_133 (by decide) ?_
      cases hf
      exact go_zret rfl (by decide) dX8_find_134 (Nat.le_refl _) ⟨rfl, rfl⟩
  · replace hf := (if_neg c1).symm.trans hf
    refine go_aload_n 0 dX8_find_78 rfl rfl ?_
    refine go_fR fl_X8_13 dX8_find_79 h0 (by decide) rfl ?_
    refine go_iload dX8_find_82 rfl ?_
    obtain ⟨g6, hf⟩ := gd_some hf
    refine go_rI dX8_find_84 (hs.1 _ 8 0 h0 rfl) (ib_in g6) ?_
    refine go_ldc (1000000000) dX8_find_85 cn_X8_45 ?_
    refine go_icmp_eq 120 dX8_find_87 (by decide) (fun c7 => ?_) (fun c7 => ?_)
    · replace hf := (if_pos c7).symm.trans hf
      exact w_X8_find_120 hs h0 h1 h2 rec71 hrec71 x4 x5 x6 σ hf
    · replace hf := (if_neg c7).symm.trans hf
      refine go_iload dX8_find_90 rfl ?_
      refine go_aload_n 0 dX8_find_92 rfl rfl ?_
      refine go_fR fl_X8_13 dX8_find_93 h0 (by decide) rfl ?_
      refine go_iload dX8_find_96 rfl ?_
      obtain ⟨g8, hf⟩ := gd_some hf
      refine go_rI dX8_find_98 (hs.1 _ 8 0 h0 rfl) (ib_in g8) ?_
      refine go_aload_n 1 dX8_find_99 rfl rfl ?_
      refine go_fI fl_X8_36 dX8_find_100 h1 (by decide) rfl ?_
      refine go_iload dX8_find_103 rfl ?_
      refine go_iconst (-1) dX8_find_105 (by decide) ?_
      refine go_ixor dX8_find_106 ?_
      refine go_aload_n 1 dX8_find_107 rfl rfl ?_
      refine go_fI fl_X8_52 dX8_find_108 h1 (by decide) rfl ?_
      obtain ⟨r9, σ10, q11, hf⟩ := bnd_some hf
      refine go_Si (av := [.int (σ.1 a1 12), .int (x6 ^^^ (-1)), .int (σ.1 a1 11)]) (rest := [.int (σ.1 (ρ this 0) x6.toNatClampNeg), .int x5]) (t_X8_orderOf hs  q11) ok_X8_orderOf ml_X8_63 dX8_find_111 rfl rfl (by decide) (Nat.le_refl _) (Nat.le_refl _) (Nat.le_of_ble_eq_true rfl) ?_
      refine go_iadd dX8_find_114 ?_
      refine go_mmin ml_X8_39 dX8_find_115 (by decide) (Nat.le_refl _) (Nat.le_refl _) (Nat.le_of_ble_eq_true rfl) ?_
      obtain ⟨y12, ey12, hf⟩ := nmd_some hf
      refine go_nm ey12 ?_
      refine go_istore [some (.ref this), some (.ref a1), none, none, some (.int x4), some (.int y12), some (.int x6)] dX8_find_118 (by decide) rfl ?_
      exact w_X8_find_120 hs h0 h1 h2 rec71 hrec71 x4 y12 x6 σ10 hf
theorem w_X8_find_71 {N : Nat} {Γ : SG} {ρ : Nat → Nat → Nat} (hs : Sh Γ ρ) {this : Nat} {a1 : Nat} {a2 : Nat} {a3 : Int32} (h0 : Γ[this]? = some (0, 8)) (h1 : Γ[a1]? = some (0, 0)) (h2 : Γ[a2]? = some (0, 9)) {n0 : Nat} {r : Int32} {σr : St} : ∀ (n : Nat) (x4 : Int32) (x5 : Int32) (x6 : Int32) (σ : St), f_X8_find_71 N ρ this a1 a2 a3 n x4 x5 x6 σ = some (r, σr) → Go mX8_find 5 0 0 n0 (Ki Γ ρ r σr) 0 0 71 [some (.ref this), some (.ref a1), none, none, some (.int x4), some (.int x5), some (.int x6)] [] (hp Γ ρ σ) := by
  intro n
  induction n with
  | zero => intro x4 x5 x6 σ hf; cases hf
  | succ n ih => intro x4 x5 x6 σ hf; exact v_X8_find_71 hs h0 h1 h2 _ ih x4 x5 x6 σ hf
set_option maxRecDepth 100000 in
set_option maxHeartbeats 4000000 in
theorem v_X8_find_32 {N : Nat} {Γ : SG} {ρ : Nat → Nat → Nat} (hs : Sh Γ ρ) {this : Nat} {a1 : Nat} {a2 : Nat} {a3 : Int32} (h0 : Γ[this]? = some (0, 8)) (h1 : Γ[a1]? = some (0, 0)) (h2 : Γ[a2]? = some (0, 9)) {n0 : Nat} {r : Int32} {σr : St} (rec32 : Int32 → Int32 → St → Option (Int32 × St)) (hrec32 : ∀ (x4 : Int32) (x5 : Int32) (σ : St), rec32 x4 x5 σ = some (r, σr) → Go mX8_find 5 0 0 n0 (Ki Γ ρ r σr) 0 0 32 [some (.ref this), some (.ref a1), some (.ref a2), some (.int a3), some (.int x4), some (.int x5), none] [] (hp Γ ρ σ)) (x4 : Int32) (x5 : Int32) (σ : St) (hf : b_X8_find_32 N ρ this a1 a2 a3 rec32 x4 x5 σ = some (r, σr)) : Go mX8_find 5 0 0 n0 (Ki Γ ρ r σr) 0 0 32 [some (.ref this), some (.ref a1), some (.ref a2), some (.int a3), some (.int x4), some (.int x5), none] [] (hp Γ ρ σ) := by
  unfold b_X8_find_32 at hf
  refine go_iload dX8_find_32 rfl ?_
  refine go_aload_n 1 dX8_find_34 rfl rfl ?_
  refine go_fI fl_X8_52 dX8_find_35 h1 (by decide) rfl ?_
  refine go_icmp_ge 64 dX8_find_38 (by decide) (fun c13 => ?_) (fun c13 => ?_)
  · replace hf := (if_pos c13).symm.trans hf
    refine go_ldc (1000000000) dX8_find_64 cn_X8_45 ?_
    refine go_istore [some (.ref this), some (.ref a1), some (.ref a2), some (.int a3), some (.int x4), some (.int (1000000000)), none] dX8_find_66 (by decide) rfl ?_
    refine go_iconst 0 dX8_find_68 (by decide) ?_
    refine go_istore [some (.ref this), some (.ref a1), some (.ref a2), some (.int a3), some (.int x4), some (.int (1000000000)), some (.int 0)] dX8_find_69 (by decide) rfl ?_
    refine go_msk [true, true, false, false, true, true, true] [some (.ref this), some (.ref a1), none, none, some (.int x4), some (.int (1000000000)), some (.int 0)] rfl ?_
    exact w_X8_find_71 hs h0 h1 h2 N x4 (1000000000) 0 σ hf
  · replace hf := (if_neg c13).symm.trans hf
    refine go_aload_n 0 dX8_find_41 rfl rfl ?_
    refine go_aload_n 1 dX8_find_42 rfl rfl ?_
    refine go_aload_n 2 dX8_find_43 rfl rfl ?_
    refine go_iload dX8_find_44 rfl ?_
    refine go_iload dX8_find_46 rfl ?_
    refine go_iload_n 3 dX8_find_48 rfl rfl ?_
    obtain ⟨r14, σ15, q16, hf⟩ := bnd_some hf
    refine go_Vv (av := [.ref a1, .ref a2, .int x5, .int x4, .int a3]) (rest := []) (t_X8_priceSets hs h0 h1 h2 q16) ok_X8_priceSets ml_X8_55 dX8_find_49 h0 rfl rfl (by decide) (Nat.le_refl _) (Nat.le_refl _) (Nat.le_of_ble_eq_true rfl) ?_
    refine go_aload_n 0 dX8_find_52 rfl rfl ?_
    refine go_iload dX8_find_53 rfl ?_
    obtain ⟨r17, σ18, q19, hf⟩ := bnd_some hf
    refine go_Vv (av := [.int x4]) (rest := []) (t_X8_goOnWithHearth hs h0 q19) ok_X8_goOnWithHearth ml_X8_59 dX8_find_55 h0 rfl rfl (by decide) (Nat.le_refl _) (Nat.le_refl _) (Nat.le_of_ble_eq_true rfl) ?_
    refine go_iinc (x5 + 1) [some (.ref this), some (.ref a1), some (.ref a2), some (.int a3), some (.int x4), some (.int (x5 + 1)), none] dX8_find_58 rfl rfl (by decide) rfl ?_
    refine go_goto 32 dX8_find_61 (by decide) ?_
    exact hrec32 x4 (x5 + 1) σ18 hf
theorem w_X8_find_32 {N : Nat} {Γ : SG} {ρ : Nat → Nat → Nat} (hs : Sh Γ ρ) {this : Nat} {a1 : Nat} {a2 : Nat} {a3 : Int32} (h0 : Γ[this]? = some (0, 8)) (h1 : Γ[a1]? = some (0, 0)) (h2 : Γ[a2]? = some (0, 9)) {n0 : Nat} {r : Int32} {σr : St} : ∀ (n : Nat) (x4 : Int32) (x5 : Int32) (σ : St), f_X8_find_32 N ρ this a1 a2 a3 n x4 x5 σ = some (r, σr) → Go mX8_find 5 0 0 n0 (Ki Γ ρ r σr) 0 0 32 [some (.ref this), some (.ref a1), some (.ref a2), some (.int a3), some (.int x4), some (.int x5), none] [] (hp Γ ρ σ) := by
  intro n
  induction n with
  | zero => intro x4 x5 σ hf; cases hf
  | succ n ih => intro x4 x5 σ hf; exact v_X8_find_32 hs h0 h1 h2 _ ih x4 x5 σ hf
set_option maxRecDepth 100000 in
set_option maxHeartbeats 4000000 in
theorem t_X8_find {N : Nat} {Γ : SG} {ρ : Nat → Nat → Nat} (hs : Sh Γ ρ) {this : Nat} {a1 : Nat} {a2 : Nat} {a3 : Int32} (h0 : Γ[this]? = some (0, 8)) (h1 : Γ[a1]? = some (0, 0)) (h2 : Γ[a2]? = some (0, 9)) {σ : St} {r : Int32} {σr : St} (hf : f_X8_find N ρ this a1 a2 a3 σ = some (r, σr)) : Tri mX8_find 5 0 0 [.ref this, .ref a1, .ref a2, .int a3] (hp Γ ρ σ) (Ki Γ ρ r σr) := by
  unfold f_X8_find at hf
  refine tri_of [some (.ref this), some (.ref a1), some (.ref a2), some (.int a3), none, none, none] (plainFor_of_name rfl) rfl (Nat.le_of_ble_eq_true rfl) ?_
  refine go_bipush 32 dX8_find_0 (by decide) ?_
  refine go_iconst 1 dX8_find_2 (by decide) ?_
  refine go_aload_n 1 dX8_find_3 rfl rfl ?_
  refine go_fI fl_X8_36 dX8_find_4 h1 (by decide) rfl ?_
  refine go_ishl dX8_find_7 ?_
  refine go_mmin ml_X8_39 dX8_find_8 (by decide) (Nat.le_refl _) (Nat.le_refl _) (Nat.le_of_ble_eq_true rfl) ?_
  obtain ⟨y20, ey20, hf⟩ := nmd_some hf
  refine go_nm ey20 ?_
  refine go_istore [some (.ref this), some (.ref a1), some (.ref a2), some (.int a3), some (.int y20), none, none] dX8_find_11 (by decide) rfl ?_
  refine go_aload_n 0 dX8_find_13 rfl rfl ?_
  refine go_fR fl_X8_13 dX8_find_14 h0 (by decide) rfl ?_
  refine go_ldc (1000000000) dX8_find_17 cn_X8_45 ?_
  obtain ⟨r21, σ22, q23, hf⟩ := bnd_some hf
  refine go_Sv (av := [.ref (ρ this 0), .int (1000000000)]) (rest := []) (t_J7_fill_53178 hs (hs.1 _ 8 0 h0 rfl) q23) ok_J7_fill_53178 ml_X8_46 dX8_find_19 rfl rfl (by decide) (Nat.le_refl _) (Nat.le_refl _) (Nat.le_of_ble_eq_true rfl) ?_
  refine go_aload_n 0 dX8_find_22 rfl rfl ?_
  refine go_fR fl_X8_13 dX8_find_23 h0 (by decide) rfl ?_
  refine go_iconst 0 dX8_find_26 (by decide) ?_
  refine go_iconst 0 dX8_find_27 (by decide) ?_
  obtain ⟨g24, hf⟩ := gd_some hf
  obtain ⟨σ25, eσ25, hf⟩ := nmd_some hf
  refine go_wI dX8_find_28 (hs.1 _ 8 0 h0 rfl) (ib_in g24) ?_
  rw [eσ25]
  refine go_iconst 0 dX8_find_29 (by decide) ?_
  refine go_istore [some (.ref this), some (.ref a1), some (.ref a2), some (.int a3), some (.int y20), some (.int 0), none] dX8_find_30 (by decide) rfl ?_
  exact w_X8_find_32 hs h0 h1 h2 N y20 0 σ25 hf
