/-! THE MODEL's STACK and its steps -/
def enO (x : Nat) : Int32 := if x = 10 then 21 else if x = 11 then 20 else opM x
theorem enO_20 : ∀ x, x < 12 → (enO x = 20 ↔ x = 11) ∧ (enO x = 21 ↔ x = 10) := by decide +kernel
theorem s_tight {N x : Nat} {ρ : Nat → Nat → Nat} {σ : St} (hx : x < 11) : f_X12_tight N ρ (enO x) σ = some (nI (tg x), σ) := by
  rcases (show x = 0 ∨ x = 1 ∨ x = 2 ∨ x = 3 ∨ x = 4 ∨ x = 5 ∨ x = 6 ∨ x = 7 ∨ x = 8 ∨ x = 9 ∨ x = 10 by omega) with rfl | rfl | rfl | rfl | rfl | rfl | rfl | rfl | rfl | rfl | rfl <;> rfl
def stO : List Nat → (Nat → Int32) → Prop
  | [], _ => True
  | x :: r, a => a r.length = enO x ∧ stO r a
theorem stO_upd {k : Nat} {v : Int32} {a : Nat → Int32} : ∀ {O : List Nat}, O.length ≤ k → stO O a → stO O (upd a k v)
  | [], _, _ => trivial
  | x :: r, h, hs => ⟨by rw [pk_un (by have : r.length + 1 ≤ k := h; omega)]; exact hs.1, stO_upd (by have : r.length + 1 ≤ k := h; omega) hs.2⟩
/-- what a formula has put down so far -/
def EmM (w : Nat) (E : List Cd) (σ : St) : Prop := σ.1 95 w = nI E.length ∧ ∀ j, j < E.length → σ.1 93 (320 * w + j) = encS (E.getD j (.inl 0)) ∧ σ.1 94 (320 * w + j) = encA (E.getD j (.inl 0))
def OtM (w : Nat) (σ σ' : St) : Prop := (∀ k, k < 320 * w ∨ 320 * w + 320 ≤ k → σ'.1 93 k = σ.1 93 k ∧ σ'.1 94 k = σ.1 94 k) ∧ ∀ k, k ≠ w → σ'.1 95 k = σ.1 95 k
theorem ot_refl {w : Nat} {σ : St} : OtM w σ σ := ⟨fun _ _ => ⟨rfl, rfl⟩, fun _ _ => rfl⟩
theorem ot_trans {w : Nat} {a b c : St} (h : OtM w a b) (g : OtM w b c) : OtM w a c := ⟨fun k hk => ⟨(g.1 k hk).1.trans (h.1 k hk).1, (g.1 k hk).2.trans (h.1 k hk).2⟩, fun k hk => (g.2 k hk).trans (h.2 k hk)⟩
theorem s_addM {N t w : Nat} {E : List Cd} {c : Cd} {x y : Int32} {σ : St} (hw : w < 2) (h20 : σ.1 90 20 = nI w) (h : EmM w E σ) (hl : E.length < 320) (hx : x = encS c) (hy : y = encA c) :
    Ok (f_X12_add N (RR t) 90 x y σ) (fun _ σ' => EmM w (E ++ [c]) σ' ∧ OtM w σ σ' ∧ (∀ q, q < 93 ∨ 95 < q → σ'.1 q = σ.1 q) ∧ σ'.2 = σ.2) := by
  have m20 : (320 : Int32) * nI w + nI E.length = nI (320 * w + E.length) := by rw [show (320 : Int32) = nI 320 from rfl, pk_mul, nI_add]
  have i2 : ib (nI w) 2 = true := ib_nI hw (by decide)
  have i6 : ib (nI (320 * w + E.length)) 640 = true := ib_nI (by omega) (by decide)
  unfold f_X12_add
  rw [r_90_11 rfl, r_90_12 rfl, r_90_13 rfl, h20, nI_clamp (show w < 2 ^ 31 by omega), h.1, m20, nI_clamp (show 320 * w + E.length < 2 ^ 31 by omega)]
  refine ok_gd i2 (ok_gd i6 (ok_sI2 fun σ1 n1 u1 f1 => ?_))
  rw [n1 90 (by decide), n1 95 (by decide), h20, nI_clamp (show w < 2 ^ 31 by omega), h.1, m20, nI_clamp (show 320 * w + E.length < 2 ^ 31 by omega)]
  refine ok_gd i2 (ok_gd i6 (ok_sI2 fun σ2 n2 u2 f2 => ?_))
  rw [n2 90 (by decide), n1 90 (by decide), n2 95 (by decide), n1 95 (by decide), h20, nI_clamp (show w < 2 ^ 31 by omega), h.1, nI_1 E.length]
  refine ok_gd i2 (ok_gd i2 (ok_sI2 fun σ3 n3 u3 f3 => ok_ret ⟨⟨?_, fun j hj => ?_⟩, ⟨fun k hk => ⟨?_, ?_⟩, fun k hk => ?_⟩, fun q hq => ?_, by rw [f3, f2, f1]⟩))
  · rw [u3, pk_us, List.length_append]; rfl
  · rw [List.length_append] at hj
    have hj : j < E.length + 1 := hj
    rw [n3 93 (by decide), n2 93 (by decide), u1, n3 94 (by decide), u2, n1 94 (by decide), getD_app]
    by_cases e : j = E.length
    · subst e
      rw [pk_us, pk_us, if_neg (by omega), if_pos rfl]
      exact ⟨hx, hy⟩
    · rw [pk_un (by omega), pk_un (by omega), if_pos (by omega)]
      exact h.2 j (by omega)
  · rw [n3 93 (by decide), n2 93 (by decide), u1, pk_un (by omega)]
  · rw [n3 94 (by decide), u2, pk_un (by omega), n1 94 (by decide)]
  · rw [u3, pk_un hk, n2 95 (by decide), n1 95 (by decide)]
  · rw [n3 q (by omega), n2 q (by omega), n1 q (by omega)]
theorem enc_o {x : Nat} (h : x < 10) : (3 : Int32) = encS (outc x) ∧ enO x = encA (outc x) := by
  have e : outc x = .inr (.inr (.inr x)) := if_neg (by omega)
  rw [e]
  exact ⟨rfl, by unfold enO; rw [if_neg (by omega), if_neg (by omega)]; rfl⟩
/-- closing: P goes down, O stays -/
theorem s_close {N t w l : Nat} {O : List Nat} (hw : w < 2) (hO : stp l O) (hl : l ≤ 6) : ∀ (P : List Nat) (E : List Cd) (n : Nat) (σ : St), (∀ x ∈ P, x ≠ 11 ∧ l ≤ tg x) → (∀ x ∈ P ++ O, x < 12) → P.length < n → (P ++ O).length ≤ 160 → E.length + P.length < 320 → σ.1 90 20 = nI w → σ.1 90 21 = nI (P ++ O).length → stO (P ++ O) (σ.1 99) → EmM w E σ → σ.1 90 25 = nI (dpt (P ++ O)) →
    Ok (f_X12_close_0 N (RR t) 90 (nI l) n σ) (fun _ σ' => EmM w (E ++ P.map outc) σ' ∧ OtM w σ σ' ∧ σ'.1 90 21 = nI O.length ∧ σ'.1 90 25 = nI (dpt O) ∧ (∀ k, k ≠ 21 → k ≠ 25 → σ'.1 90 k = σ.1 90 k) ∧ (∀ q, q ≠ 90 → q < 93 ∨ 95 < q → σ'.1 q = σ.1 q) ∧ σ'.2 = σ.2)
  | [], E, 0, σ, _, _, h, _, _, _, _, _, _, _ => absurd h (by simp)
  | [], E, n + 1, σ, _, h12, _, h160, _, h20, h21, hst, em, h25 => by
    rw [List.nil_append] at h12 h160 h21 hst h25
    have fin : Ok (f_X12_close_101 N (RR t) 90 (nI l) σ) (fun _ σ' => EmM w (E ++ ([] : List Nat).map outc) σ' ∧ OtM w σ σ' ∧ σ'.1 90 21 = nI O.length ∧ σ'.1 90 25 = nI (dpt O) ∧ (∀ k, k ≠ 21 → k ≠ 25 → σ'.1 90 k = σ.1 90 k) ∧ (∀ q, q ≠ 90 → q < 93 ∨ 95 < q → σ'.1 q = σ.1 q) ∧ σ'.2 = σ.2) := by
      unfold f_X12_close_101
      exact ok_ret ⟨by rw [List.map_nil, List.append_nil]; exact em, ot_refl, h21, h25, fun _ _ _ => rfl, fun _ _ _ => rfl, rfl⟩
    show Ok (b_X12_close_0 _ _ _ _ _ _) _
    unfold b_X12_close_0
    rw [h21, r_90_17 rfl]
    cases O with
    | nil => exact ok_pos (show nI 0 ≤ 0 by decide) fin
    | cons x r =>
      have hx12 := h12 x List.mem_cons_self
      have hlen : r.length + 1 ≤ 160 := h160
      have e1 : nI (x :: r).length - 1 = nI r.length := by rw [nI_sub1]; exact pk_m1 r.length
      have i1 : ib (nI r.length) 160 = true := ib_nI (by omega) (by decide)
      rw [e1, nI_clamp (show r.length < 2 ^ 31 by omega), hst.1]
      refine ok_neg (nI_nle (by show 0 < r.length + 1; omega) (by show r.length + 1 < _; omega)) (ok_gd i1 ?_)
      by_cases h11 : x = 11
      · exact ok_pos ((enO_20 x hx12).1.mpr h11) fin
      · refine ok_neg (fun z => h11 ((enO_20 x hx12).1.mp z)) (ok_gd i1 (ok_bnd (s_tight (by omega)) ?_))
        have := hO.resolve_left h11
        exact ok_pos (nI_lt this (by omega)) fin
  | x :: P, E, 0, σ, _, _, h, _, _, _, _, _, _, _ => absurd h (by simp)
  | x :: P, E, n + 1, σ, hP, h12, hn, h160, hE, h20, h21, hst, em, h25 => by
    have hx := hP x List.mem_cons_self
    have hx12 : x < 12 := h12 x (by simp)
    have hlen : (P ++ O).length + 1 ≤ 160 := h160
    have hEl : E.length + (P.length + 1) < 320 := hE
    have hst' : σ.1 99 (P ++ O).length = enO x ∧ stO (P ++ O) (σ.1 99) := hst
    have e1 : nI (x :: P ++ O).length - 1 = nI (P ++ O).length := by rw [nI_sub1]; exact pk_m1 (P ++ O).length
    have i1 : ib (nI (P ++ O).length) 160 = true := ib_nI (by omega) (by decide)
    have cx : nI (P ++ O).length = nI (P ++ O).length := rfl
    show Ok (b_X12_close_0 _ _ _ _ _ _) _
    unfold b_X12_close_0
    rw [h21, r_90_17 rfl, e1, nI_clamp (show (P ++ O).length < 2 ^ 31 by omega), hst'.1]
    have tgx : tg x ≤ 6 := by
      have key : ∀ x, x < 12 → tg x ≤ 6 := by decide +kernel
      exact key x hx12
    refine ok_neg (nI_nle (by show 0 < (P ++ O).length + 1; omega) (by show (P ++ O).length + 1 < _; omega)) (ok_gd i1 (ok_neg (fun z => hx.1 ((enO_20 x hx12).1.mp z)) (ok_gd i1 (ok_bnd (s_tight (by have := hx.1; omega)) (ok_neg (nI_nlt hx.2 (by omega)) (ok_sI2 fun σ1 n1 u1 f1 => ?_))))))
    have a1 : σ1.1 90 21 = nI (P ++ O).length := by rw [u1, pk_us, h21]; exact e1
    have b1 : ∀ k, k ≠ 21 → σ1.1 90 k = σ.1 90 k := fun k hk => by rw [u1, pk_un hk]
    have em1 : EmM w E σ1 := by unfold EmM; rw [n1 95 (by decide), n1 93 (by decide), n1 94 (by decide)]; exact em
    have ot1 : OtM w σ σ1 := ⟨fun k _ => ⟨by rw [n1 93 (by decide)], by rw [n1 94 (by decide)]⟩, fun k _ => by rw [n1 95 (by decide)]⟩
    rw [a1, nI_clamp (show (P ++ O).length < 2 ^ 31 by omega), n1 99 (by decide), hst'.1]
    refine ok_gd i1 ?_
    have fin : ∀ σ2 σ3 : St, EmM w (E ++ [outc x]) σ3 → OtM w σ1 σ3 → σ3.1 90 21 = nI (P ++ O).length → σ3.1 90 25 = nI (dpt (P ++ O)) → (∀ k, k ≠ 21 → k ≠ 25 → σ3.1 90 k = σ1.1 90 k) → (∀ q, q ≠ 90 → q < 93 ∨ 95 < q → σ3.1 q = σ1.1 q) → σ3.2 = σ1.2 → Ok (f_X12_close_0 N (RR t) 90 (nI l) n σ3) (fun _ σ' => EmM w (E ++ (x :: P).map outc) σ' ∧ OtM w σ σ' ∧ σ'.1 90 21 = nI O.length ∧ σ'.1 90 25 = nI (dpt O) ∧ (∀ k, k ≠ 21 → k ≠ 25 → σ'.1 90 k = σ.1 90 k) ∧ (∀ q, q ≠ 90 → q < 93 ∨ 95 < q → σ'.1 q = σ.1 q) ∧ σ'.2 = σ.2) := by
      intro _ σ3 g1 g2 g3 g4 g5 g6 g7
      refine ok_mono (s_close hw hO hl P (E ++ [outc x]) n σ3 (fun y hy => hP y (List.mem_cons_of_mem _ hy)) (fun y hy => h12 y (by rw [List.cons_append]; exact List.mem_cons_of_mem _ hy)) (by have : P.length + 1 < n + 1 := hn; omega) (by omega) (by rw [List.length_append]; show E.length + 1 + P.length < 320; omega) (by rw [g5 20 (by decide) (by decide), b1 20 (by decide)]; exact h20) g3 (by rw [g6 99 (by decide) (by decide), n1 99 (by decide)]; exact hst'.2) g1 g4) (fun r σ4 h4 => ?_)
      obtain ⟨k1, k2, k3, k4, k5, k6, k7⟩ := h4
      refine ⟨?_, ot_trans ot1 (ot_trans g2 k2), k3, k4, fun k q1 q2 => ?_, fun q q1 q2 => ?_, by rw [k7, g7, f1]⟩
      · rw [List.append_assoc] at k1
        exact k1
      · rw [k5 k q1 q2, g5 k q1 q2, b1 k q1]
      · rw [k6 q q1 q2, g6 q q1 q2, n1 q q1]
    by_cases h10 : x = 10
    · refine ok_pos ((enO_20 x hx12).2.mpr h10) (ok_call (s_addM (c := outc x) hw (by rw [b1 20 (by decide)]; exact h20) em1 (by omega) (by rw [h10]; rfl) (by rw [h10]; rfl)) (fun _ σ2 h2 => ?_))
      obtain ⟨g1, g2, g3, g4⟩ := h2
      refine ok_sI2 fun σ3 n3 u3 f3 => fin σ2 σ3 ?_ ⟨fun k hk => ?_, fun k hk => ?_⟩ ?_ ?_ (fun k q1 q2 => ?_) (fun q q1 q2 => ?_) (by rw [f3, g4])
      · unfold EmM; rw [n3 95 (by decide), n3 93 (by decide), n3 94 (by decide)]; exact g1
      · rw [n3 93 (by decide), n3 94 (by decide)]; exact g2.1 k hk
      · rw [n3 95 (by decide)]; exact g2.2 k hk
      · rw [u3, pk_un (by decide), g3 90 (by decide)]; exact a1
      · rw [u3, pk_us, g3 90 (by decide), b1 25 (by decide), h25, h10, List.cons_append, dpt_nt, nI_sub1]
        exact pk_m1 _
      · rw [u3, pk_un q2, g3 90 (by decide)]
      · rw [n3 q q1, g3 q q2]
    · have hx10 : x < 10 := by have := hx.1; omega
      refine ok_neg (fun z => h10 ((enO_20 x hx12).2.mp z)) (ok_gd i1 (ok_call (s_addM (c := outc x) hw (by rw [b1 20 (by decide)]; exact h20) em1 (by omega) (enc_o hx10).1 (enc_o hx10).2) (fun _ σ2 h2 => ?_)))
      obtain ⟨g1, g2, g3, g4⟩ := h2
      refine fin σ2 σ2 g1 g2 ?_ ?_ (fun k q1 q2 => by rw [g3 90 (by decide)]) (fun q q1 q2 => g3 q q2) g4
      · rw [g3 90 (by decide)]; exact a1
      · rw [g3 90 (by decide), b1 25 (by decide), h25, List.cons_append, dpt_op hx10]
