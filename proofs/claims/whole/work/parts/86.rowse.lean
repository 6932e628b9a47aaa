/-! ROWS: both count alike -/
theorem sumN_cg {f g : Nat → Nat} : ∀ {n : Nat}, (∀ i, i < n → f i = g i) → sumN f n = sumN g n
  | 0, _ => rfl
  | n + 1, h => by rw [sumN, sumN, sumN_cg (fun i hi => h i (by omega)), h n (by omega)]
theorem sumN_add {f g : Nat → Nat} : ∀ n, sumN (fun i => f i + g i) n = sumN f n + sumN g n
  | 0 => rfl
  | n + 1 => by
    rw [sumN, sumN, sumN, sumN_add n]
    omega
theorem sumN_comm {f : Nat → Nat → Nat} (b : Nat) : ∀ a, sumN (fun i => sumN (fun j => f i j) b) a = sumN (fun j => sumN (fun i => f i j) a) b
  | 0 => (sumN_0 (fun _ _ => rfl)).symm
  | a + 1 => by
    rw [sumN, sumN_comm b a, ← sumN_add]
    rfl
theorem sumN_app {f : Nat → Nat} (n : Nat) : ∀ m, sumN f (n + m) = sumN f n + sumN (fun j => f (n + j)) m
  | 0 => rfl
  | m + 1 => by
    rw [← Nat.add_assoc, sumN, sumN_app n m, sumN, Nat.add_assoc]
theorem sumN_mul {f : Nat → Nat} (b : Nat) : ∀ a, sumN f (a * b) = sumN (fun i => sumN (fun j => f (i * b + j)) b) a
  | 0 => by rw [Nat.zero_mul]; rfl
  | a + 1 => by rw [Nat.succ_mul, sumN_app, sumN_mul b a, sumN]
def sum3 (m : Nat) (w : Nat → Nat → Nat → Nat) : Nat := sumN (fun p0 => sumN (fun p1 => sumN (fun p2 => w p0 p1 p2) m) m) m
theorem dg_0 {m a p : Nat} (hm : 0 < m) (hp : p < m) : (a * m + p) % m = p ∧ (a * m + p) / m = a := by
  refine ⟨?_, ?_⟩
  · rw [Nat.add_comm, Nat.add_mul_mod_self_right, Nat.mod_eq_of_lt hp]
  · rw [Nat.add_comm, Nat.add_mul_div_right _ _ hm, Nat.div_eq_of_lt hp, Nat.zero_add]
theorem dgts {m p0 p1 p2 : Nat} (hm : 0 < m) (h0 : p0 < m) (h1 : p1 < m) (h2 : p2 < m) : dgt m ((p2 * m + p1) * m + p0) 0 = p0 ∧ dgt m ((p2 * m + p1) * m + p0) 1 = p1 ∧ dgt m ((p2 * m + p1) * m + p0) 2 = p2 := by
  unfold dgt
  have a := dg_0 (a := p2 * m + p1) hm h0
  have b := dg_0 (a := p2) hm h1
  refine ⟨?_, ?_, ?_⟩
  · rw [Nat.pow_zero, Nat.div_one, a.1]
  · rw [Nat.pow_one, a.2, b.1]
  · rw [show m ^ 2 = m * m from Nat.pow_two m, ← Nat.div_div_eq_div_mul, a.2, b.2, Nat.mod_eq_of_lt h2]
theorem sum_code {m : Nat} (hm : 0 < m) (w : Nat → Nat → Nat → Nat) : sumN (fun code => w (dgt m code 0) (dgt m code 1) (dgt m code 2)) (m ^ 3) = sum3 m w := by
  rw [show m ^ 3 = m * m * m by rw [Nat.pow_succ, Nat.pow_two], sumN_mul, sumN_mul]
  have e : sumN (fun p2 => sumN (fun p1 => sumN (fun p0 => w (dgt m ((p2 * m + p1) * m + p0) 0) (dgt m ((p2 * m + p1) * m + p0) 1) (dgt m ((p2 * m + p1) * m + p0) 2)) m) m) m = sumN (fun p2 => sumN (fun p1 => sumN (fun p0 => w p0 p1 p2) m) m) m := by
    refine sumN_cg (fun p2 h2 => sumN_cg (fun p1 h1 => sumN_cg (fun p0 h0 => ?_)))
    obtain ⟨a, b, d⟩ := dgts hm h0 h1 h2
    rw [a, b, d]
  rw [e]
  unfold sum3
  rw [sumN_comm (f := fun p2 p1 => sumN (fun p0 => w p0 p1 p2) m)]
  have e2 : sumN (fun p1 => sumN (fun p2 => sumN (fun p0 => w p0 p1 p2) m) m) m = sumN (fun p1 => sumN (fun p0 => sumN (fun p2 => w p0 p1 p2) m) m) m := sumN_cg (fun p1 _ => sumN_comm (f := fun p2 p0 => w p0 p1 p2) m m)
  rw [e2, sumN_comm (f := fun p1 p0 => sumN (fun p2 => w p0 p1 p2) m)]
def fit3 (c : CDat) (F : Nat → Nat → Nat → Bool) (a d p0 p1 p2 : Nat) : Bool :=
  F 0 (sp0 c a d 0 p0) (sp1 c a d 0 p0) && (F (0 + 1) (sp0 c (sp0 c a d 0 p0) (sp1 c a d 0 p0) (0 + 1) p1) (sp1 c (sp0 c a d 0 p0) (sp1 c a d 0 p0) (0 + 1) p1) && F (0 + 1 + 1) (sp0 c (sp0 c (sp0 c a d 0 p0) (sp1 c a d 0 p0) (0 + 1) p1) (sp1 c (sp0 c a d 0 p0) (sp1 c a d 0 p0) (0 + 1) p1) (0 + 1 + 1) p2) (sp1 c (sp0 c (sp0 c a d 0 p0) (sp1 c a d 0 p0) (0 + 1) p1) (sp1 c (sp0 c a d 0 p0) (sp1 c a d 0 p0) (0 + 1) p1) (0 + 1 + 1) p2))
theorem if_and3 {A B C : Bool} {x : Nat} : (if A = true then (if B = true then (if C = true then x else 0) else 0) else 0) = if (A && (B && C)) = true then x else 0 := by
  cases A <;> cases B <;> cases C <;> rfl
theorem sum_if {A : Bool} {f : Nat → Nat} {n : Nat} : (if A = true then sumN f n else 0) = sumN (fun i => if A = true then f i else 0) n := by
  cases A
  · exact (sumN_0 (fun _ _ => rfl)).symm
  · rfl
theorem rw_sum3 {c : CDat} {F : Nat → Nat → Nat → Bool} {a d : Nat} : rwN c F 3 0 a d = sum3 (nh c + 1) (fun p0 p1 p2 => if fit3 c F a d p0 p1 p2 = true then 1 else 0) := by
  rw [rwN]
  refine sumN_cg (fun p0 _ => ?_)
  rw [rwN, sum_if]
  refine sumN_cg (fun p1 _ => ?_)
  rw [rwN, sum_if, sum_if]
  refine sumN_cg (fun p2 _ => ?_)
  exact if_and3
theorem if_z {A B : Bool} {P : Prop} [Decidable P] {f : Nat} : (if A = true then (if P then f else 0) else 0) = if A = true then f * (if P then 1 else 0) else 0 := by
  cases A
  · rfl
  · by_cases h : P
    · rw [if_pos h, if_pos h, Nat.mul_one]
    · rw [if_neg h, if_neg h, Nat.mul_zero]
theorem tl_at {c : CDat} {F : Nat → Nat → Nat → Bool} {r e a d p : Nat} : tlN c F (r + 1) e a d e p = sumN (fun q => if F e (sp0 c a d e q) (sp1 c a d e q) = true then (if p = q then rwN c F r (e + 1) (sp0 c a d e q) (sp1 c a d e q) else 0) else 0) (nh c + 1) := by
  rw [tlN]
  refine sumN_cg (fun q _ => ?_)
  rw [if_pos rfl]
theorem tl_on {c : CDat} {F : Nat → Nat → Nat → Bool} {r e e' a d p : Nat} (h : e' ≠ e) : tlN c F (r + 1) e a d e' p = sumN (fun q => if F e (sp0 c a d e q) (sp1 c a d e q) = true then tlN c F r (e + 1) (sp0 c a d e q) (sp1 c a d e q) e' p else 0) (nh c + 1) := by
  rw [tlN]
  refine sumN_cg (fun q _ => ?_)
  rw [if_neg h]
theorem sum_if' {P : Prop} [Decidable P] {f : Nat → Nat} {n : Nat} : (if P then sumN f n else 0) = sumN (fun i => if P then f i else 0) n := by
  by_cases h : P
  · simp only [if_pos h]
  · simp only [if_neg h]
    exact (sumN_0 (fun _ _ => rfl)).symm
theorem if_sw {A : Bool} {P : Prop} [Decidable P] {x : Nat} : (if P then (if A = true then x else 0) else 0) = if A = true then (if P then x else 0) else 0 := by
  cases A <;> by_cases h : P <;> simp [h]
theorem if_p0 {A B C : Bool} {P : Prop} [Decidable P] : (if A = true then (if P then (if B = true then (if C = true then 1 else 0) else 0) else 0) else 0) = if (A && (B && C)) = true then (if P then 1 else 0) else 0 := by
  cases A <;> cases B <;> cases C <;> by_cases h : P <;> simp [h]
theorem if_p1 {A B C : Bool} {P : Prop} [Decidable P] : (if A = true then (if B = true then (if P then (if C = true then 1 else 0) else 0) else 0) else 0) = if (A && (B && C)) = true then (if P then 1 else 0) else 0 := by
  cases A <;> cases B <;> cases C <;> by_cases h : P <;> simp [h]
theorem tl_0 {c : CDat} {F : Nat → Nat → Nat → Bool} {a d p : Nat} : tlN c F 3 0 a d 0 p = sum3 (nh c + 1) (fun p0 p1 p2 => if fit3 c F a d p0 p1 p2 = true then (if p = p0 then 1 else 0) else 0) := by
  rw [tl_at]
  refine sumN_cg (fun p0 _ => ?_)
  rw [rwN, sum_if', sum_if]
  refine sumN_cg (fun p1 _ => ?_)
  rw [rwN, sum_if, sum_if', sum_if]
  refine sumN_cg (fun p2 _ => ?_)
  rw [rwN]
  exact if_p0
theorem tl_1 {c : CDat} {F : Nat → Nat → Nat → Bool} {a d p : Nat} : tlN c F 3 0 a d (0 + 1) p = sum3 (nh c + 1) (fun p0 p1 p2 => if fit3 c F a d p0 p1 p2 = true then (if p = p1 then 1 else 0) else 0) := by
  rw [tl_on (by decide)]
  refine sumN_cg (fun p0 _ => ?_)
  rw [tl_at, sum_if]
  refine sumN_cg (fun p1 _ => ?_)
  rw [rwN, sum_if', sum_if, sum_if]
  refine sumN_cg (fun p2 _ => ?_)
  rw [rwN]
  exact if_p1
theorem tl_2 {c : CDat} {F : Nat → Nat → Nat → Bool} {a d p : Nat} : tlN c F 3 0 a d (0 + 1 + 1) p = sum3 (nh c + 1) (fun p0 p1 p2 => if fit3 c F a d p0 p1 p2 = true then (if p = p2 then 1 else 0) else 0) := by
  rw [tl_on (by decide)]
  refine sumN_cg (fun p0 _ => ?_)
  rw [tl_on (by decide), sum_if]
  refine sumN_cg (fun p1 _ => ?_)
  rw [tl_at, sum_if, sum_if]
  refine sumN_cg (fun p2 _ => ?_)
  rw [rwN]
  exact if_and3
theorem al_cg {p q : Nat → Bool} : ∀ {n : Nat}, (∀ k, k < n → p k = q k) → al p n = al q n
  | 0, _ => rfl
  | n + 1, h => by rw [al, al, al_cg (fun k hk => h k (by omega)), h n (by omega)]
theorem gfit_3 {c : CDat} {mk : Nat → Nat → Nat} {k : Int32} {M code : Nat} (hok : ∀ j, j < M → MkOk mk j) : gfit c mk k M code = fit3 c (fe mk k M) (dt c 5 0) (dt c 7 0) (dgt (nh c + 1) code 0) (dgt (nh c + 1) code 1) (dgt (nh c + 1) code 2) := by
  unfold gfit fit3 fe
  rw [← al_and, ← al_and]
  refine al_cg (fun j hj => ?_)
  obtain ⟨o0, o0', _⟩ := hok j hj
  unfold mf3 mfit
  rcases (show mk j 0 = 1 ∨ mk j 0 = 2 ∨ mk j 0 = 3 by omega) with h | h | h
  · rw [h]; simp [rAq]
  · rw [h]; simp [rAq]
  · rw [h]; simp [rAq]
theorem rw_eq {c : CDat} {mk : Nat → Nat → Nat} {k : Int32} {M : Nat} (hok : ∀ j, j < M → MkOk mk j) : rwN c (fe mk k M) 3 0 (dt c 5 0) (dt c 7 0) = sumN (gn c mk k M) ((nh c + 1) ^ 3) := by
  rw [rw_sum3, ← sum_code (by omega)]
  refine sumN_cg (fun code _ => ?_)
  unfold gn
  rw [gfit_3 hok]
theorem tl_eq {c : CDat} {mk : Nat → Nat → Nat} {k : Int32} {M e p : Nat} (hok : ∀ j, j < M → MkOk mk j) (he : e < 3) : tlN c (fe mk k M) 3 0 (dt c 5 0) (dt c 7 0) e p = sumN (gt c mk k M e p) ((nh c + 1) ^ 3) := by
  have cm : ∀ x y : Nat, (if x = y then (1 : Nat) else 0) = if y = x then 1 else 0 := fun x y => by
    by_cases h : x = y
    · rw [if_pos h, if_pos h.symm]
    · rw [if_neg h, if_neg (fun z => h z.symm)]
  rcases (show e = 0 ∨ e = 1 ∨ e = 2 by omega) with rfl | rfl | rfl
  · rw [tl_0, ← sum_code (by omega)]
    refine sumN_cg (fun code _ => ?_)
    unfold gt
    rw [gfit_3 hok, cm]
  · rw [show tlN c (fe mk k M) 3 0 (dt c 5 0) (dt c 7 0) 1 p = tlN c (fe mk k M) 3 0 (dt c 5 0) (dt c 7 0) (0 + 1) p from rfl, tl_1, ← sum_code (by omega)]
    refine sumN_cg (fun code _ => ?_)
    unfold gt
    rw [gfit_3 hok, cm]
  · rw [show tlN c (fe mk k M) 3 0 (dt c 5 0) (dt c 7 0) 2 p = tlN c (fe mk k M) 3 0 (dt c 5 0) (dt c 7 0) (0 + 1 + 1) p from rfl, tl_2, ← sum_code (by omega)]
    refine sumN_cg (fun code _ => ?_)
    unfold gt
    rw [gfit_3 hok, cm]
/-- all rows of an evening are somewhere -/
theorem sum_one {q m : Nat} (h : q < m) : sumN (fun p => if q = p then 1 else 0) m = 1 := by
  induction m with
  | zero => omega
  | succ m ih =>
    rw [sumN]
    by_cases e : q = m
    · subst e
      rw [if_pos rfl, sumN_0 (fun i hi => if_neg (by omega))]
    · rw [if_neg e, ih (by omega)]
theorem sum_tl {c : CDat} {mk : Nat → Nat → Nat} {k : Int32} {M e : Nat} : sumN (fun p => sumN (gt c mk k M e p) ((nh c + 1) ^ 3)) (nh c + 1) = sumN (gn c mk k M) ((nh c + 1) ^ 3) := by
  rw [sumN_comm (f := fun p code => gt c mk k M e p code)]
  refine sumN_cg (fun code _ => ?_)
  unfold gt gn
  rw [← sum_if, sum_one (q := dgt (nh c + 1) code e) (Nat.mod_lt _ (by omega))]
theorem sum_two {f : Nat → Nat} {p q : Nat} : ∀ {m : Nat}, p < q → q < m → f p + f q ≤ sumN f m
  | 0, _, h => by omega
  | m + 1, h1, h2 => by
    have one : ∀ {n : Nat}, p < n → f p ≤ sumN f n := by
      intro n
      induction n with
      | zero => intro h; omega
      | succ n ih =>
        intro h
        rw [sumN]
        by_cases e : p = n
        · subst e; omega
        · have := ih (by omega); omega
    rw [sumN]
    by_cases e : q = m
    · subst e
      have := one h1
      omega
    · have := sum_two (f := f) (m := m) h1 (by omega)
      omega
theorem gt_out {c : CDat} {mk : Nat → Nat → Nat} {k : Int32} {M e p : Nat} (h : nh c < p) : sumN (gt c mk k M e p) ((nh c + 1) ^ 3) = 0 := by
  refine sumN_0 (fun code _ => ?_)
  have : dgt (nh c + 1) code e < nh c + 1 := Nat.mod_lt _ (by omega)
  unfold gt
  rw [if_neg (show ¬ dgt (nh c + 1) code e = p by omega)]
  split <;> rfl
theorem sumN_le {f : Nat → Nat} (h : ∀ i, f i ≤ 1) : ∀ n, sumN f n ≤ n
  | 0 => Nat.le_refl _
  | n + 1 => by
    have := sumN_le h n
    have := h n
    rw [sumN]
    omega
theorem gn_le {c : CDat} {mk : Nat → Nat → Nat} {k : Int32} {M : Nat} (wf : WfC c) : sumN (gn c mk k M) ((nh c + 1) ^ 3) ≤ 343 := by
  have p3 := pow3 (nh c + 1) (by have := wf.1; omega)
  exact Nat.le_trans (sumN_le (fun i => by unfold gn; split <;> decide) _) p3
theorem gt_le {c : CDat} {mk : Nat → Nat → Nat} {k : Int32} {M e p : Nat} (wf : WfC c) : sumN (gt c mk k M e p) ((nh c + 1) ^ 3) ≤ 343 := by
  have p3 := pow3 (nh c + 1) (by have := wf.1; omega)
  exact Nat.le_trans (sumN_le (fun i => by unfold gt; split; split <;> decide; decide) _) p3
theorem s_tallyRows0 {N t : Nat} {c : CDat} {k : Int32} {σ : St} (hn0 : ns c = 0) (rc : RepC t c σ) : f_X6_tallyRows N (RR t) 68 t k σ = some (0, σ) := by
  unfold f_X6_tallyRows
  rw [rc.2.1, hn0, if_pos (show nI 0 = 0 from rfl)]
theorem frL {t : Nat} {σ σ' : St} (a : Ag (fun p => p = 120 ∨ p = 121 ∨ p = 100 ∨ p = 102 ∨ p = 122 ∨ p = 123 ∨ p = 135 ∨ p = 136 ∨ p = 137 ∨ p = 134) σ σ') : Ag ScM σ σ' := ag_mono a (fun p hp => by unfold ScM; omega)
theorem s_layF {N t : Nat} {k : Int32} {σ : St} {P : Int32 → St → Prop} (h : Ok (f_X12_layRows N (RR t) 90 k σ) P) : Ok (f_X12_layRows N (RR t) 90 k σ) (fun r σ' => P r σ' ∧ Ag ScM σ σ') := ok_ag h (fun r σ' e => by have := m_X12_layRows e; rw [r_90_57 rfl, r_90_58 rfl, r_90_18 rfl, r_90_26 rfl, r_90_59 rfl, r_90_60 rfl, r_90_77 rfl, r_90_78 rfl, r_90_79 rfl, r_90_76 rfl] at this; exact frL (t := t) this)
theorem api_rows {N : Nat} (hN : 20000 ≤ N) (a1 : Int32) : Api Inv (fun ρ σ => f_X11_rows N ρ 0 a1 σ) (fun ρ σ => f_X12_rows N ρ 90 a1 σ) := by
  refine api_gw (fun c S M T mk wf ws hd hM hok => ?_)
  by_cases hn0 : ns c = 0
  · refine ⟨0, fun t σ ht rc mx => ?_, fun t σ rm hx mm => ?_⟩
    · show Ok (f_X11_rows N (RR t) 0 a1 σ) _
      unfold f_X11_rows
      rw [r_0_2 rfl, r_0_11 rfl]
      exact ok_bnd (s_tallyRows0 hn0 rc) (ok_ret ⟨rfl, ai_refl, rfl⟩)
    · show Ok (f_X12_rows N (RR t) 90 a1 σ) _
      unfold f_X12_rows
      exact ok_call (s_layF (s_layRows0 hN wf hn0 rm)) (fun r σ1 h1 => ok_ret ⟨h1.1, h1.2⟩)
  · have hn0 : 0 < ns c := by omega
    refine ⟨nI (sumN (gn c mk a1 M) ((nh c + 1) ^ 3)), fun t σ ht rc mx => ?_, fun t σ rm hx mm => ?_⟩
    · show Ok (f_X11_rows N (RR t) 0 a1 σ) _
      unfold f_X11_rows
      rw [r_0_2 rfl, r_0_11 rfl, ← rw_eq hok]
      exact ok_call (s_tallyRows hN ht wf hn0 rc mx hM hok) (fun r σ1 h1 => ok_ret ⟨h1.1.1, h1.1.2.2.2, h1.2⟩)
    · show Ok (f_X12_rows N (RR t) 90 a1 σ) _
      unfold f_X12_rows
      exact ok_call (s_layF (s_layRows hN wf hn0 rm hx mm hM hok)) (fun r σ1 h1 => ok_ret ⟨h1.1.1, h1.2⟩)
