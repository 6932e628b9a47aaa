/-! THE LAW's ENTRY: the machine as the Statement gives it -/
theorem op_K {s : State} {args : Array Value} (hts : ∀ w ∈ gtb, w.before args s = true) (hAO : aoI s) : ∃ (D : va_G) (cT : Nat → ClassId), va_K D vwCl (tysL cT) s := by
  have hi : ∀ (k : Nat) (v : vw_C), vwCl[k]? = some v → Cond.instantiable v.1 v.2.2 ∈ gtb := by
    intro k v h
    match k, h with
    | 0, h => cases h; exact is_X0
    | 1, h => cases h; exact is_X1
    | 2, h => cases h; exact is_X2
    | 3, h => cases h; exact is_X3
    | 4, h => cases h; exact is_X4
    | 5, h => cases h; exact is_X5
    | 6, h => cases h; exact is_X6
    | 7, h => cases h; exact is_X7
    | 8, h => cases h; exact is_X8
    | 9, h => cases h; exact is_X9
    | 10, h => cases h; exact is_X10
    | 11, h => cases h; exact is_X11
    | 12, h => cases h; exact is_X12
    | n + 13, h => simp [vwCl] at h
  have hk : ∀ k : Nat, ∃ q : ClassId × (Nat → Nat), ∀ v : vw_C, vwCl[k]? = some v → u_Kn s v.1 v.2.1 v.2.2 q.1 q.2 := by
    intro k
    cases hv : vwCl[k]? with
    | none => exact ⟨(0, fun _ => 0), fun v h => by cases h⟩
    | some v =>
      obtain ⟨C, T, N⟩ := v
      obtain ⟨c, i, h⟩ := u_known hts (cls_ok k C T N hv).1 (hts _ (hi k _ hv))
      exact ⟨(c, i), fun v h2 => by cases h2; exact h⟩
  obtain ⟨f, hf⟩ := Classical.axiomOfChoice hk
  obtain ⟨a0, k0, m0, p0, q0, r0⟩ := Cond.arrayClass_spec (hts _ ac_int)
  obtain ⟨a1, k1, m1, p1, q1, r1⟩ := Cond.arrayClass_spec (hts _ ac_boolean)
  obtain ⟨a2, k2, m2, p2, q2, r2⟩ := Cond.arrayClass_spec (hts _ ac_byte)
  obtain ⟨a3, k3, m3, p3, q3, r3⟩ := Cond.arrayClass_spec (hts _ ac_long)
  obtain ⟨comp, a4, k4, -, -, q4, ⟨m4, r4⟩, p4⟩ := aoI_is hAO
  refine ⟨(fun k => (f k).1, fun k => (f k).2), fun k => match k with | 0 => a0 | 1 => a1 | 2 => a2 | 3 => a3 | _ => a4, fun c q hq => hf c q hq, fun k q hq => ?_⟩
  match k, hq with
  | 0, hq => cases hq; exact ⟨fun n z => ⟨fun k h => (by cases h), k0, q0, m0, r0⟩, p0⟩
  | 1, hq => cases hq; exact ⟨fun n z => ⟨fun k h => (by cases h), k1, q1, m1, r1⟩, p1⟩
  | 2, hq => cases hq; exact ⟨fun n z => ⟨fun k h => (by cases h), k2, q2, m2, r2⟩, p2⟩
  | 3, hq => cases hq; exact ⟨fun n z => ⟨fun k h => (by cases h), k3, q3, m3, r3⟩, p3⟩
  | 4, hq => cases hq; exact ⟨fun n z => ⟨fun k h => (by cases h), k4, q4, m4, r4⟩, p4⟩
  | k + 5, hq => simp [tysL] at hq
def opS (k : Nat) : Term := .string "FaithfulStools$Lexer" (if k = 0 then 45 else 75)
theorem two {P : Nat → Prop} (h0 : P 0) (h1 : P 1) : ∀ i, i < 2 → P i := fun i hi => match i, hi with
  | 0, _ => h0
  | 1, _ => h1
theorem twob {P : Nat → Nat → Prop} (h00 : P 0 0) (h01 : P 0 1) (h10 : P 1 0) (h11 : P 1 1) : ∀ i j, i < 2 → j < 2 → P i j := fun i j hi hj => match i, j, hi, hj with
  | 0, 0, _, _ => h00
  | 0, 1, _, _ => h01
  | 1, 0, _, _ => h10
  | 1, 1, _, _ => h11
set_option maxRecDepth 100000 in
set_option maxHeartbeats 4000000 in
theorem op_R {s : State} {b : Nat} {A : Nat → Prop} (hts : ∀ w ∈ lw_tbl, w.before #[Value.ref b] s = true) (hgv : (Jvm.Cond.and given_1 narrow_1).before #[Value.ref b] s = true) (hA : ∀ a : Nat, a < s.heap.size → ¬ A a) : ∃ ro : Nat → Nat, ro 6 = b ∧ Rom ro A s := by
  have hs := flat_of_before _ hgv
  obtain ⟨t, ht, hT⟩ := va_Tof (tm := .static "FaithfulStools$Sendings" "WEIGHTS" "[I") (ty := .int) (N := 5) (f := fun j => .int (romW j)) (A := A) (by decide) (hs _ (by decide +kernel)) (va_eqt (hs _ (by decide +kernel))) (fun j hj => va_eqt (hs _ ((by decide +kernel : ∀ j, j < 5 → Cond.eq (.elem (.static "FaithfulStools$Sendings" "WEIGHTS" "[I") (.int (Int32.ofNat j))) (.int (romW j)) ∈ flatC (Jvm.Cond.and given_1 narrow_1)) j hj))) hA
  have hZ := va_Zof (A := A) (hts (.laysStatic "FaithfulStools$Sendings" "WEIGHTS" "[I") (by decide +kernel)) (hts _ (by decide +kernel)) ht hA
  obtain ⟨aK, aV, hS, hE⟩ := vk_Sof (N := 2) (tm := opS) (len := [98, 11]) (byt := [romT1, romT2]) (A := A) (two (by decide) (by decide)) (two (hs _ (by decide +kernel)) (hs _ (by decide +kernel))) (two (hs _ (by decide +kernel)) (hs _ (by decide +kernel))) (two (hs _ (by decide +kernel)) (hs _ (by decide +kernel))) (two (hs _ (by decide +kernel)) (hs _ (by decide +kernel)))
    (two (fun j hj => hs _ ((by decide +kernel : ∀ j, j < 98 → Cond.eq (.elem (.field (opS 0) "java/lang/String" "value" "[B") (.int (Int32.ofNat j))) (.int (romT1.getD j 0)) ∈ flatC (Jvm.Cond.and given_1 narrow_1)) j hj)) (fun j hj => hs _ ((by decide +kernel : ∀ j, j < 11 → Cond.eq (.elem (.field (opS 1) "java/lang/String" "value" "[B") (.int (Int32.ofNat j))) (.int (romT2.getD j 0)) ∈ flatC (Jvm.Cond.and given_1 narrow_1)) j hj)))
    (twob (fun h => absurd rfl h) (fun _ => Or.inl (hs _ (by decide +kernel))) (fun _ => Or.inr (hs _ (by decide +kernel))) (fun h => absurd rfl h)) hA
  have hC := va_Zof (A := A) (hts (.laysStatic "java/lang/String" "COMPACT_STRINGS" "Z") (by decide +kernel)) (hts _ (by decide +kernel)) (va_eqi (z := 1) (hs _ (by decide +kernel))) hA
  have hQ := va_Zqof (A := A) (hts (.laysStatic "jdk/internal/util/Preconditions" "SIOOBE_FORMATTER" "Ljava/util/function/BiFunction;") (by decide +kernel)) (hts _ (by decide +kernel)) (hs _ (by decide +kernel)) hA
  have hN : ∀ q ∈ nst, va_Nw (.methodLinkNest q.1 q.2.1 q.2.2.1 q.2.2.2) s := fun q hq => va_Nw.of rfl (hts _ ((by decide +kernel : ∀ q ∈ nst, Cond.methodLinkNest q.1 q.2.1 q.2.2.1 q.2.2.2 ∈ lw_tbl) q hq))
  have hO : aoI s := hts (Cond.arrayOver (.array .int)) (by decide +kernel)
  have hR1 := vk_R.of (hts (.stringRef "FaithfulStools$Lexer" 45 "heavy many warm dent strong day or and not hearth at room stool creed bears wears saves cold draw ") (by decide +kernel)) (hE 0 (by decide))
  have hR2 := vk_R.of (hts (.stringRef "FaithfulStools$Lexer" 75 ";()<>=+-*/%") (by decide +kernel)) (hE 1 (by decide))
  have fin : ∀ f : Nat, (va_Z "jdk/internal/util/Preconditions" "SIOOBE_FORMATTER" "Ljava/util/function/BiFunction;" .null A s s.heap ∨ va_Z "jdk/internal/util/Preconditions" "SIOOBE_FORMATTER" "Ljava/util/function/BiFunction;" (.ref f) A s s.heap) → ∃ ro : Nat → Nat, ro 6 = b ∧ Rom ro A s := fun f hf => by
    refine ⟨fun k => match k with | 0 => t | 1 => aK 0 | 2 => aK 1 | 3 => aV 0 | 4 => aV 1 | 5 => f | _ => b, rfl, hZ, hT, hR1, hR2, ⟨two (hS.1 0 (by decide)) (hS.1 1 (by decide)), twob (fun _ => rfl) (hS.2 0 1 (by decide) (by decide)) (hS.2 1 0 (by decide) (by decide)) (fun _ => rfl)⟩, hC, hf, hN, hO⟩
  rcases hQ with h | ⟨f, h⟩
  · exact fin 0 (Or.inl h)
  · exact fin f (Or.inr h)
/-- the law's walk from its entry -/
theorem op_start {p : Program} {l : Launch} {e : Env} {s : State} {m : MethodId} {below : List Frame} {meth : Method} {c : Code} {b L : Nat} {xs : Nat → Int32} (C0 : lw_At p s m meth c b L xs) (k : Lw L xs 0 0 0 [some (.retAddr 6), none, none, none] [] []) : W p l e room_1 s m #[Value.ref b] below meth c s.heap [] 0 0 (lw_Z below #[Value.ref b] s) (entryFrame m ([Value.ref b] : List Value).toArray 4) := by
  obtain ⟨hx, hb, hr, hml, hown, hts, hX, hbl, hlocks, hgv⟩ := id C0
  have htg : ∀ w ∈ gtb, w.before #[Value.ref b] s = true := fun w hw => hts w (List.mem_filter.mp hw).1
  have hO : aoI s := hts (Cond.arrayOver (.array .int)) (by decide +kernel)
  obtain ⟨D, cT, hK⟩ := op_K htg hO
  obtain ⟨ro, hro, hR⟩ := op_R (A := Fr (fun j => s.heap.size + j) 0 s.heap.size) hts hgv (fun a ha => FrL ha)
  have he := lv_entry ([.ref b]) (n := 4) (Nat.le_of_ble_eq_true rfl)
  rw [lg_entry_eq]
  refine k p l e s m b below meth c D cT (fun j => s.heap.size + j) ro s.heap [] _ ⟨hx, hb, hml, hown, htg, hr, hlocks, hK, (fun j _ => by show s.heap.size + j = _; omega), hR, hro, hX, hbl⟩ ⟨fun k q h => by simp [rW] at h, fun i j h => by simp at h, rfl, Nat.le_refl _⟩ va_S.rf ⟨he.1, he.2.1, fun i v hi => ?_⟩
  match i, hi with
  | 0, hi =>
    cases hi
    show _ = some (Slot.val (.ref (ro 6)))
    rw [hro]
    exact he.2.2 (0, .ref b) List.mem_cons_self
  | 1, hi => cases hi
  | 2, hi => cases hi
  | 3, hi => cases hi
  | i + 4, hi => simp at hi
