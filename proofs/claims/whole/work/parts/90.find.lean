/-! SENDINGS: the best of all, and what it tells -/
def PT (c : CDat) (S : SDat) (g : Int) (V : Nat → Nat) : Int := PV c S g (nh c) V + (od c (nh c) (fun s => !decide (V s < nh c)) : Int)
def CT (c : CDat) (S : SDat) (sv : Bool) (z : Int) : Prop := ∃ V, VV c S sv (nh c) V ∧ z = PT c S (gOf sv) V
def CFn (c : CDat) (S : SDat) (sv : Bool) (i : Nat) (z : Int) : Prop := ∃ Z, Z < i ∧ ∃ z0, CV c S sv (gOf sv) (nh c) Z z0 ∧ (∀ z', CV c S sv (gOf sv) (nh c) Z z' → z0 ≤ z') ∧ z = z0 + (od c (nh c) (fun s => !Z.testBit s) : Int)
theorem fin_all {c : CDat} {S : SDat} {sv : Bool} {w : Int32} {W : Nat → Int32} (wf : WfC c) (d : Dvs c S sv (nh c) W) (hm : MinOf (CFn c S sv (2 ^ ns c)) w) : MinOf (CT c S sv) w := by
  have hns := wf.2.1
  refine mn_dom hm ?_ ?_
  · rintro z ⟨Z, hZ, z0, ⟨V, hV, hv, rfl⟩, _, rfl⟩
    refine ⟨V, hv, ?_⟩
    unfold PT
    rw [od_cg (p := fun s => !Z.testBit s) (q := fun s => !decide (V s < nh c)) (fun s hs => by rw [hV s hs])]
  · rintro z ⟨V, hv, rfl⟩
    obtain ⟨m1, m2⟩ := mkm_ok (p := fun s => decide (V s < nh c)) hns
    generalize hY : mkm (fun s => decide (V s < nh c)) (ns c) = Z at m1 m2
    have sv0 : SetV c (nh c) V Z := fun s hs => (m2 s hs).symm
    obtain ⟨z0, hz0, hmin⟩ := Dvs_ex wf (Nat.le_refl _) d Z m1 ⟨_, V, sv0, hv, rfl⟩
    have l0 := hmin _ ⟨V, sv0, hv, rfl⟩
    refine ⟨z0 + (od c (nh c) (fun s => !Z.testBit s) : Int), ⟨Z, m1, z0, hz0, hmin, rfl⟩, ?_⟩
    unfold PT
    rw [od_cg (p := fun s => !Z.testBit s) (q := fun s => !decide (V s < nh c)) (fun s hs => by rw [m2 s hs])]
    omega
theorem cnt_sum {p : Nat → Bool} : ∀ n, cnt p n = sumN (fun s => if p s = true then 1 else 0) n
  | 0 => rfl
  | n + 1 => by rw [cnt_s, sumN, cnt_sum n]
theorem sum_pick {v : Nat} {f : Nat → Nat} : ∀ H, sumN (fun k => if decide (v = k) = true then f k else 0) H = if v < H then f v else 0
  | 0 => rfl
  | H + 1 => by
    rw [sumN, sum_pick H]
    by_cases e : v = H
    · subst e
      simp
    · by_cases h : v < H
      · have : v < H + 1 := by omega
        simp [e, h, this]
      · have : ¬ v < H + 1 := by omega
        simp [e, h, this]
def Wk (c : CDat) (V : Nat → Nat) : Nat := sumN (fun s => if V s < nh c then wy c s (V s) else 0) (ns c)
def Cn (c : CDat) (S : SDat) (V : Nat → Nat) : Nat := sumN (fun k => ct c S k (fun s => decide (V s = k))) (nh c)
def dV (c : CDat) (V : Nat → Nat) (s : Nat) : Nat := if V s < nh c then V s else nh c
def Ord (c : CDat) (V : Nat → Nat) : Nat := sumN (fun s => dV c V s * Wt s) (ns c)
theorem sumZ_lin {a b d : Nat → Nat} {g : Int} : ∀ n, sumZ (fun k => (a k : Int) * 16807 - g * (b k : Int) + (d k : Int)) n = (sumN a n : Int) * 16807 - g * (sumN b n : Int) + (sumN d n : Int)
  | 0 => by simp [sumZ, sumN]
  | n + 1 => by
    rw [sumZ, sumZ_lin n, sumN, sumN, sumN]
    have e : g * ((sumN b n + b n : Nat) : Int) = g * (sumN b n : Int) + g * (b n : Int) := by
      rw [← Int.mul_add]; congr 1
    rw [e]
    omega
theorem PT_eq {c : CDat} {S : SDat} {g : Int} {V : Nat → Nat} : PT c S g V = (Wk c V : Int) * 16807 - g * (Cn c S V : Int) + (Ord c V : Int) := by
  unfold PT PV
  have e1 : sumN (fun k => wk c k (fun s => decide (V s = k))) (nh c) = Wk c V := by
    unfold wk Wk
    rw [sumN_comm (f := fun k s => if decide (V s = k) = true then wy c s k else 0)]
    exact sumN_cg (fun s _ => sum_pick (nh c))
  have e2 : sumN (fun k => od c k (fun s => decide (V s = k))) (nh c) + od c (nh c) (fun s => !decide (V s < nh c)) = Ord c V := by
    unfold od Ord
    rw [sumN_comm (f := fun k s => if decide (V s = k) = true then k * Wt s else 0), ← sumN_add]
    refine sumN_cg (fun s _ => ?_)
    rw [sum_pick (f := fun k => k * Wt s)]
    unfold dV
    by_cases h : V s < nh c
    · simp [h]
    · simp [h]
  have e3 : sumZ (fun k => prz c S g k (fun s => decide (V s = k))) (nh c) = (sumN (fun k => wk c k (fun s => decide (V s = k))) (nh c) : Int) * 16807 - g * (sumN (fun k => ct c S k (fun s => decide (V s = k))) (nh c) : Int) + (sumN (fun k => od c k (fun s => decide (V s = k))) (nh c) : Int) := sumZ_lin (nh c)
  rw [e3, e1]
  have e4 : sumN (fun k => ct c S k (fun s => decide (V s = k))) (nh c) = Cn c S V := rfl
  rw [e4]
  omega
theorem Wk_le {c : CDat} {V : Nat → Nat} (wf : WfC c) : Wk c V ≤ 495 := by
  have hns := wf.2.1
  have : Wk c V ≤ ns c * 99 := sumN_bd (fun s hs => by
    by_cases hp : V s < nh c
    · rw [if_pos hp]; exact wy_le wf hs hp
    · rw [if_neg hp]; omega)
  omega
theorem dV_le {c : CDat} {V : Nat → Nat} {s : Nat} : dV c V s ≤ nh c := by
  unfold dV
  split <;> omega
theorem Ord_le {c : CDat} {V : Nat → Nat} (wf : WfC c) : Ord c V ≤ 16806 := by
  have hns := wf.2.1
  have hnh := wf.1
  have h1 : Ord c V ≤ sumN (fun s => 6 * Wt s) (ns c) := sumN_mono (fun s _ => Nat.mul_le_mul_right _ (Nat.le_trans dV_le hnh))
  rw [sumN_k] at h1
  have h2 := Wt_sum _ hns
  omega
theorem ct_cnt {c : CDat} {S : SDat} {h : Nat} {p : Nat → Bool} : ct c S h p ≤ cnt p (ns c) := by
  unfold ct
  split
  · omega
  · rw [cnt_sum, cnt_sum]
    refine sumN_mono (fun s _ => ?_)
    cases p s <;> simp
    split <;> omega
theorem Cn_le {c : CDat} {S : SDat} {V : Nat → Nat} (wf : WfC c) : Cn c S V ≤ 5 := by
  have hns := wf.2.1
  have h1 : Cn c S V ≤ sumN (fun k => sumN (fun s => if decide (V s = k) = true then 1 else 0) (ns c)) (nh c) := sumN_mono (fun k _ => by rw [← cnt_sum]; exact ct_cnt)
  rw [sumN_comm (f := fun k s => if decide (V s = k) = true then 1 else 0)] at h1
  have h2 : sumN (fun s => sumN (fun k => if decide (V s = k) = true then 1 else 0) (nh c)) (ns c) ≤ ns c := sumN_le (fun s => by rw [sum_pick (f := fun _ => 1)]; split <;> omega) _
  omega
theorem CT_B {c : CDat} {S : SDat} {sv : Bool} (wf : WfC c) : ∀ z, CT c S sv z → -100000000 ≤ z ∧ z < 100000000 := by
  rintro z ⟨V, _, rfl⟩
  rw [PT_eq]
  have h1 := Wk_le (V := V) wf
  have h2 := Ord_le (V := V) wf
  have h3 := Cn_le (S := S) (V := V) wf
  cases sv
  · show -100000000 ≤ (Wk c V : Int) * 16807 - 8403500 * (Cn c S V : Int) + (Ord c V : Int) ∧ _
    unfold gOf
    simp only [Bool.false_eq_true, if_false]
    omega
  · unfold gOf
    simp only [if_true]
    omega
/-- whole parts downward -/
theorem xor_neg {x m : Int32} (hx : x.toInt < 0) (hm : 0 ≤ m.toInt) : ¬ 0 ≤ x ^^^ m := by
  rw [Int32.le_iff_toInt_le]
  have h1 : x.toBitVec.msb = true := by rw [BitVec.msb_eq_toInt]; simpa using hx
  have h2 : m.toBitVec.msb = false := by rw [BitVec.msb_eq_toInt]; simpa using hm
  have h3 : (x ^^^ m).toBitVec.msb = true := by rw [show (x ^^^ m).toBitVec = x.toBitVec ^^^ m.toBitVec from rfl, BitVec.msb_xor, h1, h2]; rfl
  rw [BitVec.msb_eq_toInt] at h3
  have h4 : (x ^^^ m).toInt < 0 := of_decide_eq_true h3
  have e : (0 : Int32).toInt = 0 := rfl
  omega
theorem xor_pos {x m : Int32} (hx : 0 ≤ x.toInt) (hm : 0 ≤ m.toInt) : 0 ≤ x ^^^ m := by
  rw [Int32.le_iff_toInt_le]
  have h1 : x.toBitVec.msb = false := by rw [BitVec.msb_eq_toInt]; simpa using hx
  have h2 : m.toBitVec.msb = false := by rw [BitVec.msb_eq_toInt]; simpa using hm
  have h3 : (x ^^^ m).toBitVec.msb = false := by rw [show (x ^^^ m).toBitVec = x.toBitVec ^^^ m.toBitVec from rfl, BitVec.msb_xor, h1, h2]; rfl
  rw [BitVec.msb_eq_toInt] at h3
  have h4 : ¬ (x ^^^ m).toInt < 0 := of_decide_eq_false h3
  have e : (0 : Int32).toInt = 0 := rfl
  omega
theorem m84 : (8403500 : Int32) = iI 8403500 := by decide
theorem m84i : (8403500 : Int32).toInt = 8403500 := by decide
theorem div_neg {k : Nat} (hk : k < 2000000000) : iI (-(k : Int)) / 8403500 = iI (-((k / 8403500 : Nat) : Int)) := by
  apply Int32.toInt_inj.mp
  have hd : k / 8403500 ≤ k := Nat.div_le_self _ _
  rw [Int32.toInt_div_of_ne_right _ _ (by decide), iI_int (by omega) (by omega), iI_int (by omega) (by omega), m84i, Int.neg_tdiv, Int.tdiv_eq_ediv_of_nonneg (by omega)]
  omega
theorem s_floor {N R q : Nat} {ρ : Nat → Nat → Nat} {σ : St} (hR : R < 8403500) (hq : q ≤ 5) : f_J9_floorMod_7cf53 N ρ (iI ((R : Int) - 8403500 * (q : Int))) 8403500 σ = some (nI R, σ) ∧ f_J9_floorDiv_7cf53 N ρ (iI ((R : Int) - 8403500 * (q : Int))) 8403500 σ = some (iI (-(q : Int)), σ) := by
  unfold f_J9_floorMod_7cf53 f_J9_floorMod_7cf53_18 f_J9_floorDiv_7cf53 f_J9_floorDiv_7cf53_21
  rw [gd_t (show nz (8403500 : Int32) = true by decide), gd_t (show nz (8403500 : Int32) = true by decide), nmd_e, nmd_e]
  by_cases h0 : q = 0
  · subst h0
    have ex : iI ((R : Int) - 8403500 * ((0 : Nat) : Int)) = nI R := by rw [show ((R : Int) - 8403500 * ((0 : Nat) : Int)) = (R : Int) by omega, iI_n]
    rw [ex, if_pos (xor_pos (by rw [nI_toInt (by omega)]; omega) (by rw [m84i]; omega)), if_pos (xor_pos (by rw [nI_toInt (by omega)]; omega) (by rw [m84i]; omega))]
    refine ⟨?_, ?_⟩
    · rw [show irem (nI R) 8403500 = nI (R % 8403500) from pk_rem (d := 8403500) (by omega) (by decide) (by decide), Nat.mod_eq_of_lt hR]
    · rw [show nI R / 8403500 = nI (R / 8403500) from pk_div (d := 8403500) (by omega) (by decide) (by decide), Nat.div_eq_of_lt hR]
      rfl
  · obtain ⟨k, hk⟩ : ∃ k : Nat, k = 8403500 * q - R := ⟨_, rfl⟩
    have ez : (R : Int) - 8403500 * (q : Int) = -(k : Int) := by omega
    have hk0 : 0 < k := by omega
    have hkb : k < 2000000000 := by omega
    have hneg : ¬ 0 ≤ iI (-(k : Int)) ^^^ 8403500 := xor_neg (by rw [iI_int (by omega) (by omega)]; omega) (by rw [m84i]; omega)
    rw [ez, if_neg hneg, if_neg hneg]
    have hdiv := div_neg hkb
    have hrem : irem (iI (-(k : Int))) 8403500 = iI (-(k : Int) + ((k / 8403500 : Nat) : Int) * 8403500) := by
      show iI (-(k : Int)) - iI (-(k : Int)) / 8403500 * 8403500 = _
      rw [hdiv, m84, iI_mul, iI_sub]
      congr 1
      omega
    rw [hrem, hdiv]
    have mulE : iI (-((k / 8403500 : Nat) : Int)) * 8403500 = iI (-((k / 8403500 : Nat) : Int) * 8403500) := by rw [m84, iI_mul]
    rw [mulE]
    by_cases hR0 : R = 0
    · have hd : k / 8403500 = q := by omega
      rw [hd]
      refine ⟨?_, ?_⟩
      · rw [show (-(k : Int) + (q : Int) * 8403500) = 0 by omega, if_pos (show iI 0 = 0 by decide), hR0]
        rfl
      · rw [if_pos (by rw [show (-(q : Int) * 8403500) = -(k : Int) by omega])]
    · have hd : k / 8403500 = q - 1 := by omega
      rw [hd]
      refine ⟨?_, ?_⟩
      · have hne : ¬ iI (-(k : Int) + ((q - 1 : Nat) : Int) * 8403500) = 0 := fun z => by
          have := congrArg Int32.toInt z
          rw [iI_int (by omega) (by omega)] at this
          have e : (0 : Int32).toInt = 0 := rfl
          omega
        rw [if_neg hne, m84, iI_add, show (-(k : Int) + ((q - 1 : Nat) : Int) * 8403500 + 8403500) = (R : Int) by omega, iI_n]
      · have hne : ¬ iI (-((q - 1 : Nat) : Int) * 8403500) = iI (-(k : Int)) := fun z => by
          have := congrArg Int32.toInt z
          rw [iI_int (by omega) (by omega), iI_int (by omega) (by omega)] at this
          omega
        rw [if_neg hne, show (1 : Int32) = iI 1 by decide, iI_sub, show (-((q - 1 : Nat) : Int) - 1) = -(q : Int) by omega]
