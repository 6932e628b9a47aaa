def f_J6_bitCount_0f7a4 (N : Nat) (ρ : Nat → Nat → Nat) (a1 : Int32) (σ : St) : Option (Int32 × St) :=
  nmd (a1 - ((ushr a1 1) &&& (1431655765))) fun y1 =>
  nmd ((y1 &&& (858993459)) + ((ushr y1 2) &&& (858993459))) fun y2 =>
  nmd ((y2 + (ushr y2 4)) &&& (252645135)) fun y3 =>
  nmd (y3 + (ushr y3 8)) fun y4 =>
  nmd (y4 + (ushr y4 16)) fun y5 =>
  some (y5 &&& 63, σ)
set_option maxRecDepth 100000 in
set_option maxHeartbeats 4000000 in
theorem t_J6_bitCount_0f7a4 {N : Nat} {Γ : SG} {ρ : Nat → Nat → Nat} (hs : Sh Γ ρ) {a1 : Int32} {σ : St} {r : Int32} {σr : St} (hf : f_J6_bitCount_0f7a4 N ρ a1 σ = some (r, σr)) : Tri mJ6_bitCount_0f7a4 0 0 0 [.int a1] (hp Γ ρ σ) (Ki Γ ρ r σr) := by
  unfold f_J6_bitCount_0f7a4 at hf
  refine tri_of [some (.int a1)] (plainFor_of_name rfl) rfl (Nat.le_of_ble_eq_true rfl) ?_
  refine go_iload_n 0 dJ6_bitCount_0f7a4_0 rfl rfl ?_
  refine go_iload_n 0 dJ6_bitCount_0f7a4_1 rfl rfl ?_
  refine go_iconst 1 dJ6_bitCount_0f7a4_2 (by decide) ?_
  refine go_iushr dJ6_bitCount_0f7a4_3 ?_
  refine go_ldcw (1431655765) dJ6_bitCount_0f7a4_4 cn_J6_265 ?_
  refine go_iand dJ6_bitCount_0f7a4_7 ?_
  refine go_isub dJ6_bitCount_0f7a4_8 ?_
  obtain ⟨y1, ey1, hf⟩ := nmd_some hf
  refine go_nm ey1 ?_
  refine go_istore_n 0 [some (.int y1)] dJ6_bitCount_0f7a4_9 rfl (by decide) rfl ?_
  refine go_iload_n 0 dJ6_bitCount_0f7a4_10 rfl rfl ?_
  refine go_ldcw (858993459) dJ6_bitCount_0f7a4_11 cn_J6_266 ?_
  refine go_iand dJ6_bitCount_0f7a4_14 ?_
  refine go_iload_n 0 dJ6_bitCount_0f7a4_15 rfl rfl ?_
  refine go_iconst 2 dJ6_bitCount_0f7a4_16 (by decide) ?_
  refine go_iushr dJ6_bitCount_0f7a4_17 ?_
  refine go_ldcw (858993459) dJ6_bitCount_0f7a4_18 cn_J6_266 ?_
  refine go_iand dJ6_bitCount_0f7a4_21 ?_
  refine go_iadd dJ6_bitCount_0f7a4_22 ?_
  obtain ⟨y2, ey2, hf⟩ := nmd_some hf
  refine go_nm ey2 ?_
  refine go_istore_n 0 [some (.int y2)] dJ6_bitCount_0f7a4_23 rfl (by decide) rfl ?_
  refine go_iload_n 0 dJ6_bitCount_0f7a4_24 rfl rfl ?_
  refine go_iload_n 0 dJ6_bitCount_0f7a4_25 rfl rfl ?_
  refine go_iconst 4 dJ6_bitCount_0f7a4_26 (by decide) ?_
  refine go_iushr dJ6_bitCount_0f7a4_27 ?_
  refine go_iadd dJ6_bitCount_0f7a4_28 ?_
  refine go_ldcw (252645135) dJ6_bitCount_0f7a4_29 cn_J6_267 ?_
  refine go_iand dJ6_bitCount_0f7a4_32 ?_
  obtain ⟨y3, ey3, hf⟩ := nmd_some hf
  refine go_nm ey3 ?_
  refine go_istore_n 0 [some (.int y3)] dJ6_bitCount_0f7a4_33 rfl (by decide) rfl ?_
  refine go_iload_n 0 dJ6_bitCount_0f7a4_34 rfl rfl ?_
  refine go_iload_n 0 dJ6_bitCount_0f7a4_35 rfl rfl ?_
  refine go_bipush 8 dJ6_bitCount_0f7a4_36 (by decide) ?_
  refine go_iushr dJ6_bitCount_0f7a4_38 ?_
  refine go_iadd dJ6_bitCount_0f7a4_39 ?_
  obtain ⟨y4, ey4, hf⟩ := nmd_some hf
  refine go_nm ey4 ?_
  refine go_istore_n 0 [some (.int y4)] dJ6_bitCount_0f7a4_40 rfl (by decide) rfl ?_
  refine go_iload_n 0 dJ6_bitCount_0f7a4_41 rfl rfl ?_
  refine go_iload_n 0 dJ6_bitCount_0f7a4_42 rfl rfl ?_
  refine go_bipush 16 dJ6_bitCount_0f7a4_43 (by decide) ?_
  refine go_iushr dJ6_bitCount_0f7a4_45 ?_
  refine go_iadd dJ6_bitCount_0f7a4_46 ?_
  obtain ⟨y5, ey5, hf⟩ := nmd_some hf
  refine go_nm ey5 ?_
  refine go_istore_n 0 [some (.int y5)] dJ6_bitCount_0f7a4_47 rfl (by decide) rfl ?_
  refine go_iload_n 0 dJ6_bitCount_0f7a4_48 rfl rfl ?_
  refine go_bipush 63 dJ6_bitCount_0f7a4_49 (by decide) ?_
  refine go_iand dJ6_bitCount_0f7a4_51 ?_
  cases hf
  exact go_iret rfl dJ6_bitCount_0f7a4_52 (Nat.le_refl _) ⟨rfl, rfl⟩
def f_J9_floorDiv_7cf53_21 (N : Nat) (ρ : Nat → Nat → Nat) (a1 : Int32) (a2 : Int32) (x2 : Int32) (σ : St) : Option (Int32 × St) :=
  some (x2, σ)
def f_J9_floorDiv_7cf53 (N : Nat) (ρ : Nat → Nat → Nat) (a1 : Int32) (a2 : Int32) (σ : St) : Option (Int32 × St) :=
  gd (nz a2) <|
  nmd (a1 / a2) fun y2 =>
  if 0 ≤ (a1 ^^^ a2 : Int32) then
    f_J9_floorDiv_7cf53_21 N ρ a1 a2 y2 σ
  else
    if (y2 * a2 : Int32) = a1 then
      f_J9_floorDiv_7cf53_21 N ρ a1 a2 y2 σ
    else
      some (y2 - 1, σ)
set_option maxRecDepth 100000 in
set_option maxHeartbeats 4000000 in
theorem w_J9_floorDiv_7cf53_21 {N : Nat} {Γ : SG} {ρ : Nat → Nat → Nat} (hs : Sh Γ ρ) {a1 : Int32} {a2 : Int32} {n0 : Nat} {r : Int32} {σr : St} (x2 : Int32) (σ : St) (hf : f_J9_floorDiv_7cf53_21 N ρ a1 a2 x2 σ = some (r, σr)) : Go mJ9_floorDiv_7cf53 0 0 0 n0 (Ki Γ ρ r σr) 0 0 21 [none, none, some (.int x2)] [] (hp Γ ρ σ) := by
  unfold f_J9_floorDiv_7cf53_21 at hf
  refine go_iload_n 2 dJ9_floorDiv_7cf53_21 rfl rfl ?_
  cases hf
  exact go_iret rfl dJ9_floorDiv_7cf53_22 (Nat.le_refl _) ⟨rfl, rfl⟩
set_option maxRecDepth 100000 in
set_option maxHeartbeats 4000000 in
theorem t_J9_floorDiv_7cf53 {N : Nat} {Γ : SG} {ρ : Nat → Nat → Nat} (hs : Sh Γ ρ) {a1 : Int32} {a2 : Int32} {σ : St} {r : Int32} {σr : St} (hf : f_J9_floorDiv_7cf53 N ρ a1 a2 σ = some (r, σr)) : Tri mJ9_floorDiv_7cf53 0 0 0 [.int a1, .int a2] (hp Γ ρ σ) (Ki Γ ρ r σr) := by
  unfold f_J9_floorDiv_7cf53 at hf
  refine tri_of [some (.int a1), some (.int a2), none] (by decide +kernel) rfl (Nat.le_of_ble_eq_true rfl) ?_
  refine go_iload_n 0 dJ9_floorDiv_7cf53_0 rfl rfl ?_
  refine go_iload_n 1 dJ9_floorDiv_7cf53_1 rfl rfl ?_
  obtain ⟨g1, hf⟩ := gd_some hf
  refine go_idiv dJ9_floorDiv_7cf53_2 (nz_of g1) ?_
  obtain ⟨y2, ey2, hf⟩ := nmd_some hf
  refine go_nm ey2 ?_
  refine go_istore_n 2 [some (.int a1), some (.int a2), some (.int y2)] dJ9_floorDiv_7cf53_3 rfl (by decide) rfl ?_
  refine go_iload_n 0 dJ9_floorDiv_7cf53_4 rfl rfl ?_
  refine go_iload_n 1 dJ9_floorDiv_7cf53_5 rfl rfl ?_
  refine go_ixor dJ9_floorDiv_7cf53_6 ?_
  refine go_if_ge 21 dJ9_floorDiv_7cf53_7 (by decide) (fun c3 => ?_) (fun c3 => ?_)
  · replace hf := (if_pos c3).symm.trans hf
    refine go_msk [false, false, true] [none, none, some (.int y2)] rfl ?_
    exact w_J9_floorDiv_7cf53_21 hs y2 σ hf
  · replace hf := (if_neg c3).symm.trans hf
    refine go_iload_n 2 dJ9_floorDiv_7cf53_10 rfl rfl ?_
    refine go_iload_n 1 dJ9_floorDiv_7cf53_11 rfl rfl ?_
    refine go_imul dJ9_floorDiv_7cf53_12 ?_
    refine go_iload_n 0 dJ9_floorDiv_7cf53_13 rfl rfl ?_
    refine go_icmp_eq 21 dJ9_floorDiv_7cf53_14 (by decide) (fun c4 => ?_) (fun c4 => ?_)
    · replace hf := (if_pos c4).symm.trans hf
      refine go_msk [false, false, true] [none, none, some (.int y2)] rfl ?_
      exact w_J9_floorDiv_7cf53_21 hs y2 σ hf
    · replace hf := (if_neg c4).symm.trans hf
      refine go_iload_n 2 dJ9_floorDiv_7cf53_17 rfl rfl ?_
      refine go_iconst 1 dJ9_floorDiv_7cf53_18 (by decide) ?_
      refine go_isub dJ9_floorDiv_7cf53_19 ?_
      cases hf
      exact go_iret rfl dJ9_floorDiv_7cf53_20 (Nat.le_refl _) ⟨rfl, rfl⟩
def f_J9_floorMod_7cf53_18 (N : Nat) (ρ : Nat → Nat → Nat) (a1 : Int32) (a2 : Int32) (x2 : Int32) (σ : St) : Option (Int32 × St) :=
  some (x2, σ)
def f_J9_floorMod_7cf53 (N : Nat) (ρ : Nat → Nat → Nat) (a1 : Int32) (a2 : Int32) (σ : St) : Option (Int32 × St) :=
  gd (nz a2) <|
  nmd (irem a1 a2) fun y2 =>
  if 0 ≤ (a1 ^^^ a2 : Int32) then
    f_J9_floorMod_7cf53_18 N ρ a1 a2 y2 σ
  else
    if (y2 : Int32) = 0 then
      f_J9_floorMod_7cf53_18 N ρ a1 a2 y2 σ
    else
      some (y2 + a2, σ)
set_option maxRecDepth 100000 in
set_option maxHeartbeats 4000000 in
theorem w_J9_floorMod_7cf53_18 {N : Nat} {Γ : SG} {ρ : Nat → Nat → Nat} (hs : Sh Γ ρ) {a1 : Int32} {a2 : Int32} {n0 : Nat} {r : Int32} {σr : St} (x2 : Int32) (σ : St) (hf : f_J9_floorMod_7cf53_18 N ρ a1 a2 x2 σ = some (r, σr)) : Go mJ9_floorMod_7cf53 0 0 0 n0 (Ki Γ ρ r σr) 0 0 18 [none, none, some (.int x2)] [] (hp Γ ρ σ) := by
  unfold f_J9_floorMod_7cf53_18 at hf
  refine go_iload_n 2 dJ9_floorMod_7cf53_18 rfl rfl ?_
  cases hf
  exact go_iret rfl dJ9_floorMod_7cf53_19 (Nat.le_refl _) ⟨rfl, rfl⟩
set_option maxRecDepth 100000 in
set_option maxHeartbeats 4000000 in
theorem t_J9_floorMod_7cf53 {N : Nat} {Γ : SG} {ρ : Nat → Nat → Nat} (hs : Sh Γ ρ) {a1 : Int32} {a2 : Int32} {σ : St} {r : Int32} {σr : St} (hf : f_J9_floorMod_7cf53 N ρ a1 a2 σ = some (r, σr)) : Tri mJ9_floorMod_7cf53 0 0 0 [.int a1, .int a2] (hp Γ ρ σ) (Ki Γ ρ r σr) := by
  unfold f_J9_floorMod_7cf53 at hf
  refine tri_of [some (.int a1), some (.int a2), none] (by decide +kernel) rfl (Nat.le_of_ble_eq_true rfl) ?_
  refine go_iload_n 0 dJ9_floorMod_7cf53_0 rfl rfl ?_
  refine go_iload_n 1 dJ9_floorMod_7cf53_1 rfl rfl ?_
  obtain ⟨g1, hf⟩ := gd_some hf
  refine go_irem dJ9_floorMod_7cf53_2 (nz_of g1) ?_
  obtain ⟨y2, ey2, hf⟩ := nmd_some hf
  refine go_nm ey2 ?_
  refine go_istore_n 2 [some (.int a1), some (.int a2), some (.int y2)] dJ9_floorMod_7cf53_3 rfl (by decide) rfl ?_
  refine go_iload_n 0 dJ9_floorMod_7cf53_4 rfl rfl ?_
  refine go_iload_n 1 dJ9_floorMod_7cf53_5 rfl rfl ?_
  refine go_ixor dJ9_floorMod_7cf53_6 ?_
  refine go_if_ge 18 dJ9_floorMod_7cf53_7 (by decide) (fun c3 => ?_) (fun c3 => ?_)
  · replace hf := (if_pos c3).symm.trans hf
    refine go_msk [false, false, true] [none, none, some (.int y2)] rfl ?_
    exact w_J9_floorMod_7cf53_18 hs y2 σ hf
  · replace hf := (if_neg c3).symm.trans hf
    refine go_iload_n 2 dJ9_floorMod_7cf53_10 rfl rfl ?_
    refine go_if_eq 18 dJ9_floorMod_7cf53_11 (by decide) (fun c4 => ?_) (fun c4 => ?_)
    · replace hf := (if_pos c4).symm.trans hf
      refine go_msk [false, false, true] [none, none, some (.int y2)] rfl ?_
      exact w_J9_floorMod_7cf53_18 hs y2 σ hf
    · replace hf := (if_neg c4).symm.trans hf
      refine go_iload_n 2 dJ9_floorMod_7cf53_14 rfl rfl ?_
      refine go_iload_n 1 dJ9_floorMod_7cf53_15 rfl rfl ?_
      refine go_iadd dJ9_floorMod_7cf53_16 ?_
      cases hf
      exact go_iret rfl dJ9_floorMod_7cf53_17 (Nat.le_refl _) ⟨rfl, rfl⟩
def b_J7_fill_53178_5 (N : Nat) (ρ : Nat → Nat → Nat) (a1 n1 : Nat) (a2 : Int32) (rec5 : Int32 → Int32 → St → Option (Int32 × St)) (x2 : Int32) (x3 : Int32) (σ : St) : Option (Int32 × St) :=
  if x3 ≤ (x2 : Int32) then
    some (0, σ)
  else
    gd (ib x2 n1) <|
    nmd (sI σ a1 x2.toNatClampNeg a2) fun σ3 =>
    rec5 (x2 + 1) x3 σ3
def f_J7_fill_53178_5 (N : Nat) (ρ : Nat → Nat → Nat) (a1 n1 : Nat) (a2 : Int32) : Nat → Int32 → Int32 → St → Option (Int32 × St)
  | 0, _, _, _ => none
  | n + 1, x2, x3, σ => b_J7_fill_53178_5 N ρ a1 n1 a2 (f_J7_fill_53178_5 N ρ a1 n1 a2 n) x2 x3 σ
def f_J7_fill_53178 (N : Nat) (ρ : Nat → Nat → Nat) (a1 n1 : Nat) (a2 : Int32) (σ : St) : Option (Int32 × St) :=
  nmd (nI n1) fun y4 =>
  f_J7_fill_53178_5 N ρ a1 n1 a2 N 0 y4 σ
set_option maxRecDepth 100000 in
set_option maxHeartbeats 4000000 in
theorem v_J7_fill_53178_5 {N : Nat} {Γ : SG} {ρ : Nat → Nat → Nat} (hs : Sh Γ ρ) {a1 n1 : Nat} {a2 : Int32} (h1 : Γ[a1]? = some (1, n1)) {n0 : Nat} {r : Int32} {σr : St} (rec5 : Int32 → Int32 → St → Option (Int32 × St)) (hrec5 : ∀ (x2 : Int32) (x3 : Int32) (σ : St), rec5 x2 x3 σ = some (r, σr) → Go mJ7_fill_53178 0 0 0 n0 (Kv Γ ρ σr) 0 0 5 [some (.ref a1), some (.int a2), some (.int x2), some (.int x3)] [] (hp Γ ρ σ)) (x2 : Int32) (x3 : Int32) (σ : St) (hf : b_J7_fill_53178_5 N ρ a1 n1 a2 rec5 x2 x3 σ = some (r, σr)) : Go mJ7_fill_53178 0 0 0 n0 (Kv Γ ρ σr) 0 0 5 [some (.ref a1), some (.int a2), some (.int x2), some (.int x3)] [] (hp Γ ρ σ) := by
  unfold b_J7_fill_53178_5 at hf
  refine go_iload_n 2 dJ7_fill_53178_5 rfl rfl ?_
  refine go_iload_n 3 dJ7_fill_53178_6 rfl rfl ?_
  refine go_icmp_ge 20 dJ7_fill_53178_7 (by decide) (fun c1 => ?_) (fun c1 => ?_)
  · replace hf := (if_pos c1).symm.trans hf
    cases hf
    exact go_vret rfl dJ7_fill_53178_20 (Nat.le_refl _) ⟨rfl, rfl⟩
  · replace hf := (if_neg c1).symm.trans hf
    refine go_aload_n 0 dJ7_fill_53178_10 rfl rfl ?_
    refine go_iload_n 2 dJ7_fill_53178_11 rfl rfl ?_
    refine go_iload_n 1 dJ7_fill_53178_12 rfl rfl ?_
    obtain ⟨g2, hf⟩ := gd_some hf
    obtain ⟨σ3, eσ3, hf⟩ := nmd_some hf
    refine go_wI dJ7_fill_53178_13 h1 (ib_in g2) ?_
    rw [eσ3]
    refine go_iinc (x2 + 1) [some (.ref a1), some (.int a2), some (.int (x2 + 1)), some (.int x3)] dJ7_fill_53178_14 rfl rfl (by decide) rfl ?_
    refine go_goto 5 dJ7_fill_53178_17 (by decide) ?_
    exact hrec5 (x2 + 1) x3 σ3 hf
theorem w_J7_fill_53178_5 {N : Nat} {Γ : SG} {ρ : Nat → Nat → Nat} (hs : Sh Γ ρ) {a1 n1 : Nat} {a2 : Int32} (h1 : Γ[a1]? = some (1, n1)) {n0 : Nat} {r : Int32} {σr : St} : ∀ (n : Nat) (x2 : Int32) (x3 : Int32) (σ : St), f_J7_fill_53178_5 N ρ a1 n1 a2 n x2 x3 σ = some (r, σr) → Go mJ7_fill_53178 0 0 0 n0 (Kv Γ ρ σr) 0 0 5 [some (.ref a1), some (.int a2), some (.int x2), some (.int x3)] [] (hp Γ ρ σ) := by
  intro n
  induction n with
  | zero => intro x2 x3 σ hf; cases hf
  | succ n ih => intro x2 x3 σ hf; exact v_J7_fill_53178_5 hs h1 _ ih x2 x3 σ hf
set_option maxRecDepth 100000 in
set_option maxHeartbeats 4000000 in
theorem t_J7_fill_53178 {N : Nat} {Γ : SG} {ρ : Nat → Nat → Nat} (hs : Sh Γ ρ) {a1 n1 : Nat} {a2 : Int32} (h1 : Γ[a1]? = some (1, n1)) {σ : St} {r : Int32} {σr : St} (hf : f_J7_fill_53178 N ρ a1 n1 a2 σ = some (r, σr)) : Tri mJ7_fill_53178 0 0 0 [.ref a1, .int a2] (hp Γ ρ σ) (Kv Γ ρ σr) := by
  unfold f_J7_fill_53178 at hf
  refine tri_of [some (.ref a1), some (.int a2), none, none] (plainFor_of_name rfl) rfl (Nat.le_of_ble_eq_true rfl) ?_
  refine go_iconst 0 dJ7_fill_53178_0 (by decide) ?_
  refine go_istore_n 2 [some (.ref a1), some (.int a2), some (.int 0), none] dJ7_fill_53178_1 rfl (by decide) rfl ?_
  refine go_aload_n 0 dJ7_fill_53178_2 rfl rfl ?_
  refine go_len dJ7_fill_53178_3 h1 (by decide) ?_
  obtain ⟨y4, ey4, hf⟩ := nmd_some hf
  refine go_nm ey4 ?_
  refine go_istore_n 3 [some (.ref a1), some (.int a2), some (.int 0), some (.int y4)] dJ7_fill_53178_4 rfl (by decide) rfl ?_
  exact w_J7_fill_53178_5 hs h1 N 0 y4 σ hf
