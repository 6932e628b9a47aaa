/-! SENDINGS by their codes -/
def Vc (c : CDat) (code s : Nat) : Nat := dgt (nh c + 1) code (ns c - 1 - s)
theorem Vc_lt {c : CDat} {code s : Nat} : Vc c code s < nh c + 1 := Nat.mod_lt _ (by omega)
theorem dgt_0 {m a d : Nat} (hm : 0 < m) (hd : d < m) : dgt m (a * m + d) 0 = d := by
  unfold dgt
  rw [Nat.pow_zero, Nat.div_one, (dg_0 hm hd).1]
theorem dgt_s {m a d i : Nat} (hm : 0 < m) (hd : d < m) : dgt m (a * m + d) (i + 1) = dgt m a i := by
  unfold dgt
  rw [Nat.pow_succ, Nat.mul_comm (m ^ i) m, ← Nat.div_div_eq_div_mul, (dg_0 hm hd).2]
def cdV (m : Nat) (d : Nat → Nat) : Nat → Nat
  | 0 => 0
  | s + 1 => cdV m d s * m + d s
theorem cdV_lt {m : Nat} {d : Nat → Nat} (hd : ∀ s, d s < m) : ∀ n, cdV m d n < m ^ n
  | 0 => by simp [cdV]
  | n + 1 => by
    have ih := cdV_lt hd n
    have := hd n
    rw [cdV, Nat.pow_succ]
    have h1 : (cdV m d n + 1) * m ≤ m ^ n * m := Nat.mul_le_mul_right _ ih
    rw [Nat.add_mul, Nat.one_mul] at h1
    omega
theorem cdV_dg {m : Nat} {d : Nat → Nat} (hm : 0 < m) (hd : ∀ s, d s < m) : ∀ n s, s < n → dgt m (cdV m d n) (n - 1 - s) = d s
  | 0, s, h => by omega
  | n + 1, s, h => by
    rw [cdV]
    by_cases e : s = n
    · subst e
      rw [show s + 1 - 1 - s = 0 by omega, dgt_0 hm (hd s)]
    · rw [show n + 1 - 1 - s = (n - 1 - s) + 1 by omega, dgt_s hm (hd n)]
      exact cdV_dg hm hd n s (by omega)
def fo (m : Nat) : Nat → Nat → Nat
  | 0, _ => 0
  | n + 1, code => 7 * fo m n (code / m) + code % m
theorem fo_mono {m : Nat} (hm : 0 < m) (h7 : m ≤ 7) : ∀ n a b, a < b → b < m ^ n → fo m n a < fo m n b
  | 0, a, b, h1, h2 => by rw [Nat.pow_zero] at h2; omega
  | n + 1, a, b, h1, h2 => by
    rw [fo, fo]
    have hle : a / m ≤ b / m := Nat.div_le_div_right (by omega)
    have ra := Nat.mod_lt a hm
    have rb := Nat.mod_lt b hm
    by_cases e : a / m = b / m
    · have ea := Nat.div_add_mod a m
      have eb := Nat.div_add_mod b m
      rw [e] at ea
      rw [e]
      omega
    · have hb : b / m < m ^ n := by
        rw [Nat.pow_succ] at h2
        exact Nat.div_lt_of_lt_mul (by rw [Nat.mul_comm]; exact h2)
      have := fo_mono hm h7 n (a / m) (b / m) (by omega) hb
      omega
theorem fo_ord {m code : Nat} : ∀ n, n ≤ 5 → sumN (fun s => dgt m code (n - 1 - s) * Wt s) n = fo m n code * 7 ^ (5 - n) := by
  intro n hn
  rcases (show n = 0 ∨ n = 1 ∨ n = 2 ∨ n = 3 ∨ n = 4 ∨ n = 5 by omega) with rfl | rfl | rfl | rfl | rfl | rfl <;> simp [sumN, fo, dgt, Wt, Nat.div_div_eq_div_mul, Nat.pow_succ] <;> omega
theorem dV_c {c : CDat} {code s : Nat} : dV c (Vc c code) s = Vc c code s := by
  have := Vc_lt (c := c) (code := code) (s := s)
  unfold dV
  split
  · rfl
  · omega
theorem Ord_mono {c : CDat} {a b : Nat} (wf : WfC c) (h1 : a < b) (h2 : b < (nh c + 1) ^ ns c) : Ord c (Vc c a) < Ord c (Vc c b) := by
  have hns := wf.2.1
  have hnh := wf.1
  have e : ∀ x, Ord c (Vc c x) = fo (nh c + 1) (ns c) x * 7 ^ (5 - ns c) := fun x => by
    rw [← fo_ord _ hns]
    exact sumN_cg (fun s _ => by rw [dV_c]; rfl)
  rw [e, e]
  have := fo_mono (m := nh c + 1) (by omega) (by omega) (ns c) a b h1 h2
  exact Nat.mul_lt_mul_of_pos_right this (Nat.pow_pos (by decide))
/-- what depends on V but by its digits -/
theorem VV_cg {c : CDat} {S : SDat} {sv' : Bool} {V U : Nat → Nat} (e : ∀ s, s < ns c → dV c U s = dV c V s) (h : VV c S sv' (nh c) V) : VV c S sv' (nh c) U := by
  intro k hk
  refine (okP_cg (q := fun s => decide (V s = k)) (fun s hs => ?_)).trans (h k hk)
  have := e s hs
  unfold dV at this
  by_cases h1 : U s < nh c
  · rw [if_pos h1] at this
    by_cases h2 : V s < nh c
    · rw [if_pos h2] at this; rw [this]
    · rw [if_neg h2] at this; omega
  · rw [if_neg h1] at this
    by_cases h2 : V s < nh c
    · rw [if_pos h2] at this; omega
    · have a : ¬ U s = k := by omega
      have b : ¬ V s = k := by omega
      simp [a, b]
theorem pick_cg {c : CDat} {V U : Nat → Nat} {s : Nat} (e : dV c U s = dV c V s) : (U s < nh c ↔ V s < nh c) ∧ (U s < nh c → U s = V s) := by
  unfold dV at e
  by_cases h1 : U s < nh c
  · rw [if_pos h1] at e
    by_cases h2 : V s < nh c
    · rw [if_pos h2] at e
      exact ⟨⟨fun _ => h2, fun _ => h1⟩, fun _ => e⟩
    · rw [if_neg h2] at e; omega
  · rw [if_neg h1] at e
    by_cases h2 : V s < nh c
    · rw [if_pos h2] at e; omega
    · exact ⟨⟨fun z => absurd z h1, fun z => absurd z h2⟩, fun z => absurd z h1⟩
theorem Wk_cg {c : CDat} {V U : Nat → Nat} (e : ∀ s, s < ns c → dV c U s = dV c V s) : Wk c U = Wk c V := by
  refine sumN_cg (fun s hs => ?_)
  obtain ⟨a, b⟩ := pick_cg (e s hs)
  by_cases h : U s < nh c
  · rw [if_pos h, if_pos (a.mp h), b h]
  · rw [if_neg h, if_neg (fun z => h (a.mpr z))]
theorem Cn_cg {c : CDat} {S : SDat} {V U : Nat → Nat} (e : ∀ s, s < ns c → dV c U s = dV c V s) : Cn c S U = Cn c S V := by
  refine sumN_cg (fun k hk => ct_cg (fun s hs => ?_))
  obtain ⟨a, b⟩ := pick_cg (e s hs)
  by_cases h : U s < nh c
  · rw [b h]
  · have h' : ¬ V s < nh c := fun z => h (a.mpr z)
    have x : ¬ U s = k := by omega
    have y : ¬ V s = k := by omega
    simp [x, y]
theorem Ord_cg {c : CDat} {V U : Nat → Nat} (e : ∀ s, s < ns c → dV c U s = dV c V s) : Ord c U = Ord c V := sumN_cg (fun s hs => by rw [e s hs])
theorem PT_cg {c : CDat} {S : SDat} {g : Int} {V U : Nat → Nat} (e : ∀ s, s < ns c → dV c U s = dV c V s) : PT c S g U = PT c S g V := by
  rw [PT_eq, PT_eq, Wk_cg e, Cn_cg e, Ord_cg e]
theorem code_of {c : CDat} (V : Nat → Nat) : ∃ code, code < (nh c + 1) ^ ns c ∧ ∀ s, s < ns c → dV c (Vc c code) s = dV c V s := by
  have hd : ∀ s, dV c V s < nh c + 1 := fun s => Nat.lt_succ_of_le dV_le
  refine ⟨cdV (nh c + 1) (dV c V) (ns c), cdV_lt hd _, fun s hs => ?_⟩
  rw [dV_c]
  exact cdV_dg (by omega) hd (ns c) s hs
theorem found_code {c : CDat} {S : SDat} {sv' : Bool} {b : Nat} (h1 : VV c S sv' (nh c) (Vc c b)) (h2 : ∀ a, a < (nh c + 1) ^ ns c → VV c S sv' (nh c) (Vc c a) → PT c S (gOf sv') (Vc c b) ≤ PT c S (gOf sv') (Vc c a)) : Found c S sv' (Vc c b) := by
  refine ⟨h1, fun V hV => ?_⟩
  obtain ⟨a, ha, e⟩ := code_of (c := c) V
  have := h2 a ha (VV_cg e hV)
  rw [PT_cg e] at this
  exact this
theorem found_eq {c : CDat} {S : SDat} {sv' : Bool} {V U : Nat → Nat} (wf : WfC c) (h1 : Found c S sv' V) (h2 : Found c S sv' U) : qOf c S sv' V = qOf c S sv' U ∧ Wk c V = Wk c U ∧ ∀ s, s < ns c → pv c V s = pv c U s := by
  have hns := wf.2.1
  have hnh := wf.1
  have a := h1.2 U h2.1
  have b := h2.2 V h1.1
  rw [PT_q, PT_q] at a b
  have w1 := Wk_le (V := V) wf
  have w2 := Wk_le (V := U) wf
  have o1 := Ord_le (V := V) wf
  have o2 := Ord_le (V := U) wf
  have eo : Ord c V = Ord c U := by omega
  refine ⟨by omega, by omega, fun s hs => ?_⟩
  have d1 := dig_at (d := dV c V) (fun s => Nat.le_trans dV_le hnh) (ns c) hns s hs
  have d2 := dig_at (d := dV c U) (fun s => Nat.le_trans dV_le hnh) (ns c) hns s hs
  have e : dV c V s = dV c U s := by
    rw [← d1, ← d2]
    exact congrArg (fun x => x / Wt s % 7) eo
  obtain ⟨p, q⟩ := pick_cg e
  unfold pv
  by_cases h : V s < nh c
  · rw [if_pos h, if_pos (p.mp h), q h]
  · rw [if_neg h, if_neg (fun z => h (p.mpr z))]
theorem exmin {P : Nat → Prop} {f : Nat → Int} : ∀ K, (∃ a, a < K ∧ P a) → ∃ b, b < K ∧ P b ∧ ∀ a, a < K → P a → f b ≤ f a
  | 0, ⟨a, h, _⟩ => by omega
  | K + 1, ⟨a, h, hp⟩ => by
    by_cases hex : ∃ a, a < K ∧ P a
    · obtain ⟨b, hb, hpb, hmin⟩ := exmin (P := P) (f := f) K hex
      by_cases hK : P K ∧ f K < f b
      · refine ⟨K, by omega, hK.1, fun x hx hpx => ?_⟩
        by_cases e : x = K
        · subst e; exact Int.le_refl _
        · have := hmin x (by omega) hpx
          omega
      · refine ⟨b, by omega, hpb, fun x hx hpx => ?_⟩
        by_cases e : x = K
        · subst e
          have : ¬ f x < f b := fun z => hK ⟨hpx, z⟩
          omega
        · exact hmin x (by omega) hpx
    · have : a = K := by
        by_cases e : a = K
        · exact e
        · exact absurd ⟨a, by omega, hp⟩ hex
      subst this
      refine ⟨a, by omega, hp, fun x hx hpx => ?_⟩
      by_cases e : x = a
      · subst e; exact Int.le_refl _
      · exact absurd ⟨x, by omega, hpx⟩ hex
/-- the state that a sending makes -/
def USn (c : CDat) (S : SDat) (V : Nat → Nat) : SDat := fun r s => if r = 3 then pv c V s else S r s
theorem USn_n {c : CDat} {S : SDat} {V : Nat → Nat} {r s : Nat} (h : r ≠ 3) : USn c S V r s = S r s := if_neg h
theorem USn_3 {c : CDat} {S : SDat} {V : Nat → Nat} {s : Nat} : USn c S V 3 s = pv c V s := if_pos rfl
theorem pv_le {c : CDat} {V : Nat → Nat} {s : Nat} : pv c V s ≤ nh c := by
  unfold pv
  split <;> omega
theorem USn_wf {c : CDat} {S : SDat} {V : Nat → Nat} (ws : WfS c S) : WfS c (USn c S V) := by
  refine ⟨fun s hs => ?_, ?_, ?_⟩
  · have := ws.1 s hs
    rw [USn_n (by decide), USn_n (by decide), USn_n (by decide), USn_3]
    exact ⟨this.1, this.2.1, this.2.2.1, pv_le⟩
  · rw [USn_n (by decide)]; exact ws.2.1
  · rw [USn_n (by decide)]; exact ws.2.2
theorem USn_at {c : CDat} {S : SDat} {V : Nat → Nat} {h : Nat} (hh : h < nh c) : atH (USn c S V) h = fun s => decide (V s = h) := by
  funext s
  unfold atH
  rw [USn_3]
  unfold pv
  by_cases hv : V s < nh c
  · rw [if_pos hv]
    have : V s + 1 = h + 1 ↔ V s = h := by omega
    exact decide_eq_decide.mpr this
  · rw [if_neg hv]
    have a : ¬ V s = h := by omega
    simp [a]
theorem USn_mny {c : CDat} {S : SDat} {V : Nat → Nat} {h : Nat} (hh : h < nh c) : mny c (USn c S V) h = cnt (fun s => decide (V s = h)) (ns c) := by
  unfold mny
  rw [USn_at hh]
theorem USn_fare {c : CDat} {S : SDat} {V : Nat → Nat} {s : Nat} : fare c (USn c S V) 0 s = if V s < nh c then (if qn (dt c 6) (fun i => decide (V i = V s)) (ns c) = true then 3 else if ld c S s (V s) (cnt (fun i => decide (V i = V s)) (ns c)) 0 ≤ nI (S 0 s) then 1 else 2) else 0 := by
  unfold fare lod qrl
  rw [USn_3]
  unfold pv
  by_cases hv : V s < nh c
  · rw [if_pos hv, if_pos hv, if_neg (by omega), show V s + 1 - 1 = V s from rfl, USn_at hv, USn_mny hv, ld_cg (S := S) (USn_n (by decide)) (USn_n (by decide)) (USn_n (by decide)), USn_n (by decide)]
  · rw [if_neg hv, if_neg hv, if_pos rfl]
theorem Cn_fare {c : CDat} {S : SDat} {V : Nat → Nat} : cnt (fun s => decide (fare c (USn c S V) 0 s = 1)) (ns c) = Cn c S V := by
  unfold Cn
  have e : ∀ k, ct c S k (fun s => decide (V s = k)) = sumN (fun s => if decide (V s = k) = true then (if qn (dt c 6) (fun i => decide (V i = k)) (ns c) = true then 0 else if ld c S s k (cnt (fun i => decide (V i = k)) (ns c)) 0 ≤ nI (S 0 s) then 1 else 0) else 0) (ns c) := by
    intro k
    unfold ct
    by_cases hq : qn (dt c 6) (fun i => decide (V i = k)) (ns c) = true
    · rw [if_pos hq]
      refine (sumN_0 (fun s _ => ?_)).symm
      rw [if_pos hq]
      split <;> rfl
    · rw [if_neg hq, cnt_sum]
      refine sumN_cg (fun s _ => ?_)
      rw [if_neg hq]
      by_cases h1 : V s = k
      · simp [h1]
      · simp [h1]
  rw [sumN_cg (fun k _ => e k), sumN_comm (f := fun k s => if decide (V s = k) = true then (if qn (dt c 6) (fun i => decide (V i = k)) (ns c) = true then 0 else if ld c S s k (cnt (fun i => decide (V i = k)) (ns c)) 0 ≤ nI (S 0 s) then 1 else 0) else 0), cnt_sum]
  refine sumN_cg (fun s _ => ?_)
  rw [sum_pick (f := fun k => if qn (dt c 6) (fun i => decide (V i = k)) (ns c) = true then 0 else if ld c S s k (cnt (fun i => decide (V i = k)) (ns c)) 0 ≤ nI (S 0 s) then 1 else 0), USn_fare]
  by_cases hv : V s < nh c
  · rw [if_pos hv, if_pos hv]
    by_cases hq : qn (dt c 6) (fun i => decide (V i = V s)) (ns c) = true
    · simp [hq]
    · by_cases hl : ld c S s (V s) (cnt (fun i => decide (V i = V s)) (ns c)) 0 ≤ nI (S 0 s) <;> simp [hq, hl]
  · rw [if_neg hv, if_neg hv]
    rfl
theorem wlk_Wk {c : CDat} {S : SDat} {V : Nat → Nat} : wlk c (USn c S V 3) (ns c) = Wk c V := by
  have key : ∀ n, wlk c (USn c S V 3) n = sumN (fun s => if V s < nh c then wy c s (V s) else 0) n := by
    intro n
    induction n with
    | zero => rfl
    | succ n ih =>
      rw [wlk, sumN, ih, USn_3]
      congr 1
      unfold wyv pv
      by_cases hv : V n < nh c
      · rw [if_pos hv, if_neg (by omega), if_pos hv]; rfl
      · rw [if_neg hv, if_pos rfl, if_neg hv]
  exact key (ns c)
