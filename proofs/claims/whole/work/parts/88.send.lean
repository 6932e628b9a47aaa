/-! SENDINGS: the words -/
def iI (z : Int) : Int32 := Int32.ofInt z
theorem iI_n (n : Nat) : iI (n : Int) = nI n := Int32.ofInt_eq_ofNat
theorem iI_add (a b : Int) : iI a + iI b = iI (a + b) := (Int32.ofInt_add a b).symm
theorem iI_sub (a b : Int) : iI a - iI b = iI (a - b) := (Int32.ofInt_sub a b).symm
theorem iI_mul (a b : Int) : iI a * iI b = iI (a * b) := (Int32.ofInt_mul a b).symm
theorem iI_int {z : Int} (h1 : -2147483648 ≤ z) (h2 : z < 2147483648) : (iI z).toInt = z := Int32.toInt_ofInt_of_le (by omega) (by omega)
theorem iI_nv {z : Int} (h1 : -2147483648 ≤ z) (h2 : z < 1000000000) : ¬ iI z = 1000000000 := by
  intro h
  have := congrArg Int32.toInt h
  rw [iI_int h1 (by omega)] at this
  have e : (1000000000 : Int32).toInt = 1000000000 := by decide
  omega
theorem iI_min {a b : Int} (a1 : -2147483648 ≤ a) (a2 : a < 2147483648) (b1 : -2147483648 ≤ b) (b2 : b < 2147483648) : mmin (iI a) (iI b) = iI (min a b) := by
  unfold mmin
  by_cases h : b < a
  · rw [if_pos (by rw [Int32.lt_iff_toInt_lt, iI_int a1 a2, iI_int b1 b2]; exact h), Int.min_eq_right (by omega)]
  · rw [if_neg (by rw [Int32.lt_iff_toInt_lt, iI_int a1 a2, iI_int b1 b2]; exact h), Int.min_eq_left (by omega)]
def MinOf (C : Int → Prop) (w : Int32) : Prop := (w = 1000000000 ∧ ∀ z, ¬ C z) ∨ ∃ z, w = iI z ∧ C z ∧ ∀ z', C z' → z ≤ z'
def BdC (C : Int → Prop) : Prop := ∀ z, C z → -900000000 ≤ z ∧ z < 900000000
theorem mn_cg {C C' : Int → Prop} {w : Int32} (h : MinOf C w) (e : ∀ z, C z ↔ C' z) : MinOf C' w := by
  rcases h with ⟨h1, h2⟩ | ⟨z, h1, h2, h3⟩
  · exact Or.inl ⟨h1, fun z hz => h2 z ((e z).mpr hz)⟩
  · exact Or.inr ⟨z, h1, (e z).mp h2, fun z' hz => h3 z' ((e z').mpr hz)⟩
theorem mn_dom {A B : Int → Prop} {w : Int32} (h : MinOf B w) (hBA : ∀ z, B z → A z) (hAB : ∀ z, A z → ∃ z', B z' ∧ z' ≤ z) : MinOf A w := by
  rcases h with ⟨h1, h2⟩ | ⟨z, h1, h2, h3⟩
  · refine Or.inl ⟨h1, fun z hz => ?_⟩
    obtain ⟨z', hz', _⟩ := hAB z hz
    exact h2 z' hz'
  · refine Or.inr ⟨z, h1, hBA z h2, fun z' hz => ?_⟩
    obtain ⟨z2, hz2, hl⟩ := hAB z' hz
    have := h3 z2 hz2
    omega
theorem mn_nv {C : Int → Prop} {w : Int32} (h : MinOf C w) (b : BdC C) : w = 1000000000 → ∀ z, ¬ C z := by
  intro hw
  rcases h with ⟨_, h2⟩ | ⟨z, h1, h2, _⟩
  · exact h2
  · have := b z h2
    exact absurd (h1.symm.trans hw) (iI_nv (by omega) (by omega))
theorem mn_some {C : Int → Prop} {w : Int32} (h : MinOf C w) (hw : ¬ w = 1000000000) : ∃ z, w = iI z ∧ C z ∧ ∀ z', C z' → z ≤ z' := by
  rcases h with ⟨h1, _⟩ | h
  · exact absurd h1 hw
  · exact h
theorem nv_iI : (1000000000 : Int32) = iI 1000000000 := by decide
theorem mn_add {C : Int → Prop} {w : Int32} {z1 : Int} (h : MinOf C w) (b : BdC C) (b1 : -900000000 ≤ z1) (b2 : z1 < 900000000) : MinOf (fun z => C z ∨ z = z1) (mmin w (iI z1)) := by
  rcases h with ⟨h1, h2⟩ | ⟨z, h1, h2, h3⟩
  · refine Or.inr ⟨z1, ?_, Or.inr rfl, fun z' hz => ?_⟩
    · rw [h1, nv_iI, iI_min (by omega) (by omega) (by omega) (by omega), Int.min_eq_right (by omega)]
    · rcases hz with hz | hz
      · exact absurd hz (h2 z')
      · omega
  · have bz := b z h2
    refine Or.inr ⟨min z z1, ?_, ?_, fun z' hz => ?_⟩
    · rw [h1, iI_min (by omega) (by omega) (by omega) (by omega)]
    · by_cases hl : z ≤ z1
      · rw [Int.min_eq_left hl]; exact Or.inl h2
      · rw [Int.min_eq_right (by omega)]; exact Or.inr rfl
    · rcases hz with hz | hz
      · have := h3 z' hz
        omega
      · omega
/-- masks -/
def dfm (a b : Nat) : Nat := a &&& (31 - b)
theorem dfm_1 : ∀ a, a < 32 → ∀ b, b < 32 → nI a &&& (nI b ^^^ (-1)) = nI (dfm a b) := by decide +kernel
theorem dfm_2 : ∀ a, a < 32 → ∀ b, b < 32 → dfm a b ≤ a := by decide +kernel
theorem dfm_3 : ∀ a, a < 32 → ∀ b, b < 32 → ∀ k, k < 5 → (dfm a b).testBit k = (a.testBit k && !b.testBit k) := by decide +kernel
theorem dfm_4 : ∀ a, a < 32 → ∀ b, b < 32 → dfm a b = 0 → a ≤ b := by decide +kernel
theorem dfm_5 : ∀ a, a < 32 → ∀ b, b < 32 → (∀ k, k < 5 → (a.testBit k && !b.testBit k) = false) → dfm a b = 0 := by decide +kernel
theorem neg_bit : ∀ a, a < 32 → ∀ k, k < 5 → ((nI a ^^^ (-1)) >>> (nI k &&& 31)) &&& 1 = if (!a.testBit k) = true then 1 else 0 := by decide +kernel
def mkm (p : Nat → Bool) : Nat → Nat
  | 0 => 0
  | n + 1 => mkm p n + (if p n = true then 2 ^ n else 0)
theorem mkm_cg {p q : Nat → Bool} : ∀ {n : Nat}, (∀ k, k < n → p k = q k) → mkm p n = mkm q n
  | 0, _ => rfl
  | n + 1, h => by rw [mkm, mkm, mkm_cg (fun k hk => h k (by omega)), h n (by omega)]
theorem mkm_key : ∀ b0 b1 b2 b3 b4 : Bool, ∀ n, n ≤ 5 → mkm (fun k => [b0, b1, b2, b3, b4].getD k false) n < 2 ^ n ∧ ∀ k, k < n → (mkm (fun k => [b0, b1, b2, b3, b4].getD k false) n).testBit k = [b0, b1, b2, b3, b4].getD k false := by decide +kernel
theorem mkm_ok {p : Nat → Bool} {n : Nat} (hn : n ≤ 5) : mkm p n < 2 ^ n ∧ ∀ k, k < n → (mkm p n).testBit k = p k := by
  have hc : ∀ k, k < 5 → p k = [p 0, p 1, p 2, p 3, p 4].getD k false := fun k hk => by
    rcases (show k = 0 ∨ k = 1 ∨ k = 2 ∨ k = 3 ∨ k = 4 by omega) with rfl | rfl | rfl | rfl | rfl <;> rfl
  have e : mkm p n = mkm (fun k => [p 0, p 1, p 2, p 3, p 4].getD k false) n := mkm_cg (fun k hk => hc k (by omega))
  have := mkm_key (p 0) (p 1) (p 2) (p 3) (p 4) n hn
  rw [e]
  exact ⟨this.1, fun k hk => by rw [this.2 k hk, ← hc k (by omega)]⟩
theorem tb_out {X n k : Nat} (h : X < 2 ^ n) (hk : n ≤ k) : X.testBit k = false := Nat.testBit_lt_two_pow (Nat.lt_of_lt_of_le h (Nat.pow_le_pow_right (by decide) hk))
theorem tb_0 {X n : Nat} (h : X < 2 ^ n) (hz : ∀ k, k < n → X.testBit k = false) : X = 0 := by
  apply Nat.eq_of_testBit_eq
  intro k
  rw [Nat.zero_testBit]
  by_cases hk : k < n
  · exact hz k hk
  · exact tb_out h (by omega)
theorem pow_mono {n : Nat} (hn : n ≤ 5) : 1 ≤ 2 ^ n ∧ 2 ^ n ≤ 32 := pow_le5 n hn
/-- prices -/
def Wt (s : Nat) : Nat := ([2401, 343, 49, 7, 1] : List Nat).getD s 0
def wk (c : CDat) (h : Nat) (p : Nat → Bool) : Nat := sumN (fun s => if p s = true then wy c s h else 0) (ns c)
def ct (c : CDat) (S : SDat) (h : Nat) (p : Nat → Bool) : Nat := if qn (dt c 6) p (ns c) = true then 0 else cnt (fun s => p s && decide (ld c S s h (cnt p (ns c)) 0 ≤ nI (S 0 s))) (ns c)
def od (c : CDat) (h : Nat) (p : Nat → Bool) : Nat := sumN (fun s => if p s = true then h * Wt s else 0) (ns c)
def prz (c : CDat) (S : SDat) (g : Int) (h : Nat) (p : Nat → Bool) : Int := (wk c h p : Int) * 16807 - g * (ct c S h p : Int) + (od c h p : Int)
def okP (c : CDat) (S : SDat) (sv : Bool) (h : Nat) (p : Nat → Bool) : Bool := decide (cnt p (ns c) ≤ dt c 2 h) && (!sv || (decide (1 ≤ cnt p (ns c)) && decide (ct c S h p = cnt p (ns c))))
theorem wk_cg {c : CDat} {h : Nat} {p q : Nat → Bool} (e : ∀ s, s < ns c → p s = q s) : wk c h p = wk c h q := sumN_cg (fun s hs => by rw [e s hs])
theorem od_cg {c : CDat} {h : Nat} {p q : Nat → Bool} (e : ∀ s, s < ns c → p s = q s) : od c h p = od c h q := sumN_cg (fun s hs => by rw [e s hs])
theorem ct_cg {c : CDat} {S : SDat} {h : Nat} {p q : Nat → Bool} (e : ∀ s, s < ns c → p s = q s) : ct c S h p = ct c S h q := by
  unfold ct
  rw [qn_cg e, cnt_cg e, cnt_cg (q := fun s => q s && decide (ld c S s h (cnt q (ns c)) 0 ≤ nI (S 0 s))) (fun s hs => by rw [e s hs])]
theorem prz_cg {c : CDat} {S : SDat} {g : Int} {h : Nat} {p q : Nat → Bool} (e : ∀ s, s < ns c → p s = q s) : prz c S g h p = prz c S g h q := by
  unfold prz
  rw [wk_cg e, od_cg e, ct_cg e]
theorem okP_cg {c : CDat} {S : SDat} {sv : Bool} {h : Nat} {p q : Nat → Bool} (e : ∀ s, s < ns c → p s = q s) : okP c S sv h p = okP c S sv h q := by
  unfold okP
  rw [cnt_cg e, ct_cg e]
theorem sumN_bd {f : Nat → Nat} {B : Nat} : ∀ {n : Nat}, (∀ i, i < n → f i ≤ B) → sumN f n ≤ n * B
  | 0, _ => Nat.zero_le _
  | n + 1, h => by
    rw [sumN, Nat.succ_mul]
    exact Nat.add_le_add (sumN_bd (fun i hi => h i (by omega))) (h n (by omega))
theorem sumN_mono {f g : Nat → Nat} : ∀ {n : Nat}, (∀ i, i < n → f i ≤ g i) → sumN f n ≤ sumN g n
  | 0, _ => Nat.le_refl _
  | n + 1, h => by
    rw [sumN, sumN]
    exact Nat.add_le_add (sumN_mono (fun i hi => h i (by omega))) (h n (by omega))
theorem wk_le {c : CDat} {h : Nat} {p : Nat → Bool} (wf : WfC c) (hh : h < nh c) : wk c h p ≤ 495 := by
  have hns := wf.2.1
  have : wk c h p ≤ ns c * 99 := sumN_bd (fun s hs => by
    by_cases hp : p s = true
    · rw [if_pos hp]; exact wy_le wf hs hh
    · rw [if_neg hp]; omega)
  omega
theorem ct_le {c : CDat} {S : SDat} {h : Nat} {p : Nat → Bool} (wf : WfC c) : ct c S h p ≤ 5 := by
  have hns := wf.2.1
  unfold ct
  split
  · omega
  · exact Nat.le_trans (cnt_le _ _) hns
theorem Wt_sum : ∀ n, n ≤ 5 → sumN Wt n ≤ 2801 := by decide +kernel
theorem sumN_k {f : Nat → Nat} {k : Nat} : ∀ n, sumN (fun i => k * f i) n = k * sumN f n
  | 0 => rfl
  | n + 1 => by rw [sumN, sumN, sumN_k n, Nat.mul_add]
theorem od_le {c : CDat} {h : Nat} {p : Nat → Bool} (wf : WfC c) (hh : h ≤ 6) : od c h p ≤ 16806 := by
  have hns := wf.2.1
  have h1 : od c h p ≤ sumN (fun s => h * Wt s) (ns c) := sumN_mono (fun s hs => by
    by_cases hp : p s = true
    · rw [if_pos hp]; exact Nat.le_refl _
    · rw [if_neg hp]; omega)
  rw [sumN_k] at h1
  have h2 := Wt_sum _ hns
  have h3 : h * sumN Wt (ns c) ≤ 6 * 2801 := Nat.mul_le_mul hh h2
  omega
def okG (g : Int) : Prop := g = 0 ∨ g = 8403500
theorem prz_bd {c : CDat} {S : SDat} {g : Int} {h : Nat} {p : Nat → Bool} (wf : WfC c) (hg : okG g) (hh : h < nh c) : -50000000 ≤ prz c S g h p ∧ prz c S g h p ≤ 50000000 := by
  have hnh := wf.1
  have h1 := wk_le (p := p) wf hh
  have h2 := ct_le (S := S) (h := h) (p := p) wf
  have h3 := od_le (p := p) wf (show h ≤ 6 by omega)
  unfold prz
  rcases hg with rfl | rfl <;> omega
def sumZ (f : Nat → Int) : Nat → Int
  | 0 => 0
  | n + 1 => sumZ f n + f n
theorem sumZ_cg {f g : Nat → Int} : ∀ {n : Nat}, (∀ i, i < n → f i = g i) → sumZ f n = sumZ g n
  | 0, _ => rfl
  | n + 1, h => by rw [sumZ, sumZ, sumZ_cg (fun i hi => h i (by omega)), h n (by omega)]
def VV (c : CDat) (S : SDat) (sv : Bool) (h : Nat) (V : Nat → Nat) : Prop := ∀ k, k < h → okP c S sv k (fun s => decide (V s = k)) = true
def PV (c : CDat) (S : SDat) (g : Int) (h : Nat) (V : Nat → Nat) : Int := sumZ (fun k => prz c S g k (fun s => decide (V s = k))) h
def SetV (c : CDat) (h : Nat) (V : Nat → Nat) (X : Nat) : Prop := ∀ s, s < ns c → decide (V s < h) = X.testBit s
def CV (c : CDat) (S : SDat) (sv : Bool) (g : Int) (h X : Nat) (z : Int) : Prop := ∃ V, SetV c h V X ∧ VV c S sv h V ∧ z = PV c S g h V
theorem PV_bd {c : CDat} {S : SDat} {g : Int} {V : Nat → Nat} (wf : WfC c) (hg : okG g) : ∀ h, h ≤ nh c → -50000000 * (h : Int) ≤ PV c S g h V ∧ PV c S g h V ≤ 50000000 * (h : Int)
  | 0, _ => by
    show -50000000 * ((0 : Nat) : Int) ≤ 0 ∧ (0 : Int) ≤ 50000000 * ((0 : Nat) : Int)
    omega
  | h + 1, hh => by
    have ih := PV_bd (S := S) (V := V) wf hg h (by omega)
    have hp := prz_bd (S := S) (p := fun s => decide (V s = h)) wf hg (show h < nh c by omega)
    have e : PV c S g (h + 1) V = PV c S g h V + prz c S g h (fun s => decide (V s = h)) := rfl
    rw [e]
    have hc : ((h + 1 : Nat) : Int) = (h : Int) + 1 := by omega
    rw [hc]
    omega
theorem CV_bd {c : CDat} {S : SDat} {sv : Bool} {g : Int} {h X : Nat} (wf : WfC c) (hg : okG g) (hh : h ≤ nh c) : ∀ z, CV c S sv g h X z → -350000000 ≤ z ∧ z ≤ 350000000 := by
  rintro z ⟨V, _, _, rfl⟩
  have := PV_bd (S := S) (V := V) wf hg h hh
  have := wf.1
  omega
theorem CV_B {c : CDat} {S : SDat} {sv : Bool} {g : Int} {h X : Nat} (wf : WfC c) (hg : okG g) (hh : h ≤ nh c) : BdC (CV c S sv g h X) := fun z hz => by
  have := CV_bd wf hg hh z hz
  omega
/-- one hearth more -/
def Cnd (c : CDat) (S : SDat) (sv : Bool) (g : Int) (h X i : Nat) (z : Int) : Prop := ∃ Y, Y < i ∧ dfm Y X = 0 ∧ okP c S sv h (fun s => Y.testBit s) = true ∧ ∃ z0, CV c S sv g h (dfm X Y) z0 ∧ (∀ z', CV c S sv g h (dfm X Y) z' → z0 ≤ z') ∧ z = z0 + prz c S g h (fun s => Y.testBit s)
theorem cnd_all {c : CDat} {S : SDat} {sv : Bool} {g : Int} {h X : Nat} {w : Int32} (wf : WfC c) (hX : X < 2 ^ ns c) (hm : MinOf (Cnd c S sv g h X (X + 1)) w) (hex : ∀ Z, Z < 2 ^ ns c → (∃ z, CV c S sv g h Z z) → ∃ z, CV c S sv g h Z z ∧ ∀ z', CV c S sv g h Z z' → z ≤ z') : MinOf (CV c S sv g (h + 1) X) w := by
  have hns := wf.2.1
  have pm := pow_mono hns
  have X32 : X < 32 := by omega
  refine mn_dom hm ?_ ?_
  · rintro z ⟨Y, hY, hYX, hok, z0, ⟨V0, hV0, hv0, rfl⟩, _, rfl⟩
    have Y32 : Y < 32 := by omega
    have hd := dfm_3 X X32 Y Y32
    have hsub : ∀ k, k < 5 → Y.testBit k = true → X.testBit k = true := by
      intro k hk hyk
      have := dfm_3 Y Y32 X X32 k hk
      rw [hYX, Nat.zero_testBit, hyk] at this
      simpa using this.symm
    refine ⟨fun s => if Y.testBit s = true then h else if V0 s < h then V0 s else h + 1, fun s hs => ?_, fun k hk => ?_, ?_⟩
    · have h0 := hV0 s hs
      rw [hd s (by omega)] at h0
      by_cases hy : Y.testBit s = true
      · simp only [if_pos hy]
        rw [hsub s (by omega) hy]
        simp
      · simp only [if_neg hy]
        have hy' : Y.testBit s = false := by simpa using hy
        rw [hy'] at h0
        by_cases hv : V0 s < h
        · have : V0 s < h + 1 := by omega
          simp only [if_pos hv]
          rw [show decide (V0 s < h) = true by simpa using hv] at h0
          simp only [this, decide_true]
          simpa using h0
        · simp only [if_neg hv]
          rw [show decide (V0 s < h) = false by simpa using hv] at h0
          simp only [Nat.lt_irrefl, decide_false]
          simpa using h0
    · by_cases ek : k = h
      · subst ek
        refine (okP_cg (q := fun s => Y.testBit s) (fun s hs => ?_)).trans hok
        by_cases hy : Y.testBit s = true
        · simp [hy]
        · by_cases hv : V0 s < k
          · have : V0 s ≠ k := by omega
            simp [hy, hv, this]
          · simp [hy, hv]
      · refine (okP_cg (q := fun s => decide (V0 s = k)) (fun s hs => ?_)).trans (hv0 k (by omega))
        have h0 := hV0 s hs
        rw [hd s (by omega)] at h0
        by_cases hy : Y.testBit s = true
        · have : ¬ V0 s < h := by
            intro z
            rw [hy, show decide (V0 s < h) = true by simpa using z] at h0
            simp at h0
          have e1 : ¬ h = k := fun z => ek z.symm
          have e2 : ¬ V0 s = k := by omega
          simp [hy, e1, e2]
        · by_cases hv : V0 s < h
          · simp [hy, hv]
          · have e1 : ¬ h + 1 = k := by omega
            have e2 : ¬ V0 s = k := by omega
            simp [hy, hv, e1, e2]
    · have e1 : PV c S g h V0 = PV c S g h (fun s => if Y.testBit s = true then h else if V0 s < h then V0 s else h + 1) := by
        refine sumZ_cg (fun k hk => prz_cg (fun s hs => ?_))
        have h0 := hV0 s hs
        rw [hd s (by omega)] at h0
        by_cases hy : Y.testBit s = true
        · have : ¬ V0 s < h := by
            intro z
            rw [hy, show decide (V0 s < h) = true by simpa using z] at h0
            simp at h0
          have e1 : ¬ h = k := by omega
          have e2 : ¬ V0 s = k := by omega
          simp [hy, e1, e2]
        · by_cases hv : V0 s < h
          · simp [hy, hv]
          · have e1 : ¬ h + 1 = k := by omega
            have e2 : ¬ V0 s = k := by omega
            simp [hy, hv, e1, e2]
      have e2 : prz c S g h (fun s => Y.testBit s) = prz c S g h (fun s => decide ((if Y.testBit s = true then h else if V0 s < h then V0 s else h + 1) = h)) := by
        refine prz_cg (fun s hs => ?_)
        by_cases hy : Y.testBit s = true
        · simp [hy]
        · by_cases hv : V0 s < h
          · have : V0 s ≠ h := by omega
            simp [hy, hv, this]
          · simp [hy, hv]
      rw [e1, e2]
      rfl
  · rintro z ⟨V, hV, hv, rfl⟩
    obtain ⟨m1, m2⟩ := mkm_ok (p := fun s => decide (V s = h)) hns
    generalize hY : mkm (fun s => decide (V s = h)) (ns c) = Y at m1 m2
    have Y32 : Y < 32 := by omega
    have yb : ∀ k, k < 5 → Y.testBit k = (decide (k < ns c) && decide (V k = h)) := by
      intro k hk
      by_cases hkn : k < ns c
      · rw [m2 k hkn]; simp [hkn]
      · rw [tb_out m1 (by omega)]; simp [hkn]
    have h0 : dfm Y X = 0 := dfm_5 Y Y32 X X32 (fun k hk => by
      rw [yb k hk]
      by_cases hkn : k < ns c
      · have := hV k hkn
        by_cases e : V k = h
        · rw [← this]; simp [hkn, e]
        · simp [e]
      · simp [hkn])
    have hYX := dfm_4 Y Y32 X X32 h0
    have hd := dfm_3 X X32 Y Y32
    have sv0 : SetV c h V (dfm X Y) := fun s hs => by
      rw [hd s (by omega), yb s (by omega), ← hV s hs]
      by_cases e : V s < h
      · have a : V s < h + 1 := by omega
        have b : V s ≠ h := by omega
        simp [e, a, b, hs]
      · by_cases e2 : V s = h
        · simp [e2, hs]
        · have a : ¬ V s < h + 1 := by omega
          simp [e, a]
    have dz : dfm X Y < 2 ^ ns c := Nat.lt_of_le_of_lt (dfm_2 X X32 Y Y32) hX
    obtain ⟨z0, hz0, hmin⟩ := hex (dfm X Y) dz ⟨_, V, sv0, fun k hk => hv k (by omega), rfl⟩
    have l0 := hmin _ ⟨V, sv0, fun k hk => hv k (by omega), rfl⟩
    have ep : prz c S g h (fun s => Y.testBit s) = prz c S g h (fun s => decide (V s = h)) := prz_cg (fun s hs => m2 s hs)
    refine ⟨z0 + prz c S g h (fun s => Y.testBit s), ⟨Y, by omega, h0, ?_, z0, hz0, hmin, rfl⟩, ?_⟩
    · exact (okP_cg (q := fun s => decide (V s = h)) (fun s hs => m2 s hs)).trans (hv h (by omega))
    · rw [ep]
      show _ ≤ PV c S g h V + prz c S g h (fun s => decide (V s = h))
      omega
