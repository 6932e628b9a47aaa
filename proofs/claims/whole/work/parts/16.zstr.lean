/-! THE TWO TEXTS: rows of the JDK's members over them -/
def romL (i : Nat) : Nat := ([98, 11] : List Nat).getD i 0
def romB (i j : Nat) : Int32 := ([romT1, romT2].getD i []).getD j 0
theorem sl_J0_9 : Cond.fieldLink RJ0 9 "java/lang/String" "value" "[B" ∈ gtb := gtb_in (tb_8 (List.mem_of_getElem? (i := 227) (by decide +kernel))) rfl
theorem sl_J0_15 : Cond.fieldLink RJ0 15 "java/lang/String" "coder" "B" ∈ gtb := gtb_in (tb_8 (List.mem_of_getElem? (i := 228) (by decide +kernel))) rfl
theorem sl_J0_38 : Cond.fieldLink RJ0 38 "java/lang/String" "COMPACT_STRINGS" "Z" ∈ gtb := gtb_in (tb_1 (List.mem_of_getElem? (i := 75) (by decide +kernel))) rfl
theorem sl_J0_1053 : Cond.fieldLink RJ0 1053 "jdk/internal/util/Preconditions" "SIOOBE_FORMATTER" "Ljava/util/function/BiFunction;" ∈ gtb := gtb_in (tb_1 (List.mem_of_getElem? (i := 91) (by decide +kernel))) rfl
def OkR (Z : MD) (n : Nat) : Prop := OkM Z n ∧ Cond.instanceMethod Z.1 ∈ gtb ∧ Cond.selects Z.1.cls Z.1 Z.1 ∈ gtb ∧ Z.1.cls = "java/lang/String"
def nbf (ty : FieldType) (v : Int32) : Bool := decide (narrow ty (.int v) = .int v)
section TEXTS
variable {Y : MD} {d kc ks n0 : Nat} {K : Option Value → HL → Prop} {cells slots pc : Nat} {loc : List (Option Value)} {st : List Value} {μ : HL} {Γ : SG} {ρ : Nat → Nat → Nat} {σ : St}
theorem go_aloadR {k4 : Fin 4} (i : Nat) {x : Nat} (hdg : decode Y.2.1 pc = .ok (.aload_n k4, 1)) (hi : (k4 : Nat) = i) (hl : loc[i]? = some (some (.retAddr x))) (k : Go Y d kc ks n0 K cells slots (pc + 1) loc (.retAddr x :: st) μ) : Go Y d kc ks n0 K cells slots pc loc st μ := by
  intro p l e s m args below meth c D cT ad ro sz H locs ls F w hS hL
  exact lv_aload_n F.1 F.2.1 hdg hi (hL.at hl) (k p l e s m args below meth c D cT ad ro sz H locs ls F w hS hL)
theorem go_sval {i idx : Nat} (hi : i < 2) (hl : Cond.fieldLink Y.1.cls idx "java/lang/String" "value" "[B" ∈ gtb) (hdg : decode Y.2.1 pc = .ok (.getfield idx, 3)) (k : Go Y d kc ks n0 K cells slots (pc + 3) loc (.retAddr (3 + i) :: st) μ) : Go Y d kc ks n0 K cells slots pc loc (.retAddr (1 + i) :: st) μ := by
  intro p l e s m args below meth c D cT ad ro sz H locs ls F w hS hL
  obtain ⟨-, -, -, -, hv, -⟩ := F.2.2.2.2.2.2.2.2.2.2.2
  exact vk_getf F.1 F.2.1 (hv.1 i hi).2.2.1 hS F.2.2.2.1 (F.2.2.2.2.1 _ hl) (fun _ h => h) hdg (k p l e s m args below meth c D cT ad ro sz H locs ls F w hS hL)
theorem go_scod {i idx : Nat} (hi : i < 2) (hl : Cond.fieldLink Y.1.cls idx "java/lang/String" "coder" "B" ∈ gtb) (hdg : decode Y.2.1 pc = .ok (.getfield idx, 3)) (k : Go Y d kc ks n0 K cells slots (pc + 3) loc (.int 0 :: st) μ) : Go Y d kc ks n0 K cells slots pc loc (.retAddr (1 + i) :: st) μ := by
  intro p l e s m args below meth c D cT ad ro sz H locs ls F w hS hL
  obtain ⟨-, -, -, -, hv, -⟩ := F.2.2.2.2.2.2.2.2.2.2.2
  exact vk_getf F.1 F.2.1 (hv.1 i hi).2.1 hS F.2.2.2.1 (F.2.2.2.2.1 _ hl) (fun _ h => h) hdg (k p l e s m args below meth c D cT ad ro sz H locs ls F w hS hL)
theorem go_csg {idx : Nat} (hl : Cond.fieldLink Y.1.cls idx "java/lang/String" "COMPACT_STRINGS" "Z" ∈ gtb) (hdg : decode Y.2.1 pc = .ok (.getstatic idx, 3)) (k : Go Y d kc ks n0 K cells slots (pc + 3) loc (.int 1 :: st) μ) : Go Y d kc ks n0 K cells slots pc loc st μ := by
  intro p l e s m args below meth c D cT ad ro sz H locs ls F w hS hL
  obtain ⟨-, -, -, -, -, hv, -⟩ := F.2.2.2.2.2.2.2.2.2.2.2
  exact va_gets F.1 F.2.1 hv hS F.2.2.2.1 (F.2.2.2.2.1 _ hl) (fun _ h => h) hdg (k p l e s m args below meth c D cT ad ro sz H locs ls F w hS hL)
theorem go_sfg {idx : Nat} (hl : Cond.fieldLink Y.1.cls idx "jdk/internal/util/Preconditions" "SIOOBE_FORMATTER" "Ljava/util/function/BiFunction;" ∈ gtb) (hdg : decode Y.2.1 pc = .ok (.getstatic idx, 3)) (k : ∀ v : Value, v = .null ∨ v = .retAddr 5 → Go Y d kc ks n0 K cells slots (pc + 3) loc (v :: st) μ) : Go Y d kc ks n0 K cells slots pc loc st μ := by
  intro p l e s m args below meth c D cT ad ro sz H locs ls F w hS hL
  obtain ⟨-, -, -, -, -, -, hv, -⟩ := F.2.2.2.2.2.2.2.2.2.2.2
  rcases hv with hv | hv
  · exact va_gets F.1 F.2.1 hv hS F.2.2.2.1 (F.2.2.2.2.1 _ hl) (fun _ h => h) hdg (k .null (Or.inl rfl) p l e s m args below meth c D cT ad ro sz H locs ls F w hS hL)
  · exact va_gets F.1 F.2.1 hv hS F.2.2.2.1 (F.2.2.2.2.1 _ hl) (fun _ h => h) hdg (k (.retAddr 5) (Or.inr rfl) p l e s m args below meth c D cT ad ro sz H locs ls F w hS hL)
theorem go_blen {i : Nat} (hi : i < 2) (hdg : decode Y.2.1 pc = .ok (.arraylength, 1)) (k : Go Y d kc ks n0 K cells slots (pc + 1) loc (.int (nI (romL i)) :: st) μ) : Go Y d kc ks n0 K cells slots pc loc (.retAddr (3 + i) :: st) μ := by
  intro p l e s m args below meth c D cT ad ro sz H locs ls F w hS hL
  obtain ⟨-, -, -, -, hv, -⟩ := F.2.2.2.2.2.2.2.2.2.2.2
  obtain ⟨cell, q1, q2, q3, q4, q5, q6, q7⟩ := (hv.1 i hi).2.2.2
  exact W.alen (n := nI (romL i)) F.1 F.2.1 (by rw [hS.2.1 _ (Array.getElem?_eq_some_iff.mp q1).1 q7]; exact q1) q2 q5 rfl rfl hdg (k p l e s m args below meth c D cT ad ro sz H locs ls F w hS hL)
theorem go_bld {i : Nat} {j : Int32} (hi : i < 2) (hdg : decode Y.2.1 pc = .ok (.baload, 1)) (hin : vp_in j (romL i)) (k : Go Y d kc ks n0 K cells slots (pc + 1) loc (.int (romB i j.toNatClampNeg) :: st) μ) : Go Y d kc ks n0 K cells slots pc loc (.int j :: .retAddr (3 + i) :: st) μ := by
  intro p l e s m args below meth c D cT ad ro sz H locs ls F w hS hL
  obtain ⟨-, -, -, -, hv, -⟩ := F.2.2.2.2.2.2.2.2.2.2.2
  obtain ⟨cell, q1, q2, q3, q4, q5, q6, q7⟩ := (hv.1 i hi).2.2.2
  have hlt : j.toNatClampNeg < romL i := Nat.not_le.mp fun q => hin (Or.inr q)
  have q4 : romL i ≤ cell.slots.size := q4
  exact W.bald (v := .int (romB i j.toNatClampNeg)) F.1 F.2.1 (by rw [hS.2.1 _ (Array.getElem?_eq_some_iff.mp q1).1 q7]; exact q1) q2 q3 (fun q => by rcases q with q | q; exact hin (Or.inl q); omega) (q6 _ hlt) rfl rfl hdg (k p l e s m args below meth c D cT ad ro sz H locs ls F w hS hL)
theorem go_lds0 (hy : Y.1.cls = "FaithfulStools$Lexer") (hdg : decode Y.2.1 pc = .ok (.ldc 45, 2)) (k : Go Y d kc ks n0 K cells slots (pc + 2) loc (.retAddr (1 + 0) :: st) μ) : Go Y d kc ks n0 K cells slots pc loc st μ := by
  intro p l e s m args below meth c D cT ad ro sz H locs ls F w hS hL
  obtain ⟨-, -, hv, -⟩ := F.2.2.2.2.2.2.2.2.2.2.2
  exact va_ldcS F.1 F.2.1 (by rw [← hy]; exact F.2.2.2.1) hv hdg (k p l e s m args below meth c D cT ad ro sz H locs ls F w hS hL)
theorem go_lds1 (hy : Y.1.cls = "FaithfulStools$Lexer") (hdg : decode Y.2.1 pc = .ok (.ldc 75, 2)) (k : Go Y d kc ks n0 K cells slots (pc + 2) loc (.retAddr (1 + 1) :: st) μ) : Go Y d kc ks n0 K cells slots pc loc st μ := by
  intro p l e s m args below meth c D cT ad ro sz H locs ls F w hS hL
  obtain ⟨-, -, -, hv, -⟩ := F.2.2.2.2.2.2.2.2.2.2.2
  exact va_ldcS F.1 F.2.1 (by rw [← hy]; exact F.2.2.2.1) hv hdg (k p l e s m args below meth c D cT ad ro sz H locs ls F w hS hL)
theorem go_nret {v : Int32} {ty : FieldType} (hr : Y.2.2.2 = some ty) (hn : nbf ty v = true) (hdg : decode Y.2.1 pc = .ok (.ireturn, 1)) (hs : slots ≤ ks) (k : K (some (.int v)) μ) : Go Y d kc ks n0 K kc slots pc loc [.int v] μ := by
  intro p l e s m args below meth c D cT ad ro sz H locs ls F w hS hL
  refine W.widen (k := kc) (n := ks) (Nat.le_refl _) hs ?_
  exact W.zret (v := v) (ty := ty) F.1 F.2.1 (F.2.2.2.2.2.1.trans hr) (by simpa [nbf] using hn) (fun t ht hW => ⟨⟨some (.int v), μ, rfl, k, by rw [ht]; exact w⟩, hS.F ht⟩) hS.2.2 hdg F.2.2.2.2.2.2.1
/-- a call of a text's method -/
theorem go_Ri {Z : MD} {d' i n idx : Nat} {av rest : List Value} {r : Int32} {σ' : St} (hi : i < 2) (hT : Tri Z d' 0 0 (.retAddr (1 + i) :: av) (hp Γ ρ σ) (Ki Γ ρ r σ')) (hZ : OkR Z n) (hl : Cond.methodLink Y.1.cls idx Z.1 ∈ gtb) (hdg : decode Y.2.1 pc = .ok (.invokevirtual idx, 3)) (hst : st = av.reverse ++ .retAddr (1 + i) :: rest) (hn : av.length = n) (hd : d' + 1 ≤ d) (hc : cells ≤ kc) (hs : slots ≤ ks) (hrm : (rest.map fun v => v.category).sum ≤ 8) (kk : Go Y d kc ks n0 K cells slots (pc + 3) loc (.int r :: rest) (hp Γ ρ σ')) : Go Y d kc ks n0 K cells slots pc loc st (hp Γ ρ σ) := by
  subst hst
  intro p l e s m args below meth c D cT ad ro sz H locs ls F w hS hL
  refine W_sz fun hzu => ?_
  have hz : H.size = sz + cells := by have := w.2.2.2; have := F.2.2.2.2.2.2.2.2.2.1; omega
  have hcut := cut_id (hp Γ ρ σ)
  have hnd := nd_range (hp Γ ρ σ).length
  obtain ⟨hfr, hpre⟩ := pre_of F w hS hz hcut hnd
  obtain ⟨hM, hin, hse, hC⟩ := hZ
  obtain ⟨-, -, -, -, hv, -⟩ := F.2.2.2.2.2.2.2.2.2.2.2
  refine go_run (rest := rest) (μs := hp Γ ρ σ) (is := List.range (hp Γ ρ σ).length) (K' := Ki Γ ρ r σ') (kc' := 0) (ks' := 0) (a := (Value.ref (ro (1 + i)) :: av.map (rv (fun j => ad (em (List.range (hp Γ ρ σ).length) (hp Γ ρ σ).length j)) ro)).toArray) F w hS hL hz hcut hnd hfr ?_ (fun v μs' h => ?_)
  · refine va_runV (C := Z.1.cls) (b := ro (1 + i)) (As := av.map (rv (fun j => ad (em (List.range (hp Γ ρ σ).length) (hp Γ ρ σ).length j)) ro)) (n := n) ⟨F.1, F.2.1, F.2.2.1, F.2.2.2.1, F.2.2.2.2.1⟩ (hT l D cT (fun j => ad (em (List.range (hp Γ ρ σ).length) (hp Γ ρ σ).length j)) ro H.size) ⟨cb_of hM F.2.2.2.2.1 hl hd, F.2.2.2.2.1 _ hin, F.2.2.2.2.1 _ hse⟩ ⟨blind_of, ?_, fun U hU hW => ⟨rfl, hpre U hU hW⟩⟩ rfl (by rw [List.length_map]; exact hn) hL.1 ?_ (room_of hrm) hdg ⟨hc, hs⟩
    · rw [hC]
      exact vk_recv (i := i) hv hi hS
    · show List.map (rv ad ro) _ = _
      rw [List.map_append, List.map_reverse]
      congr 2
      exact List.map_congr_left fun v _ => by
        have hq := rv_rn (ad := ad) (ro := ro) (em := em (List.range (hp Γ ρ σ).length) (hp Γ ρ σ).length) v
        rw [rn_id] at hq
        exact hq
  · obtain ⟨rfl, rfl⟩ := h
    rw [one_mu (by rw [hp_len, hp_len])]
    exact kk
end TEXTS
theorem ok_J0_length_8abf5 : OkR mJ0_length_8abf5 0 := ⟨⟨gtb_in (tb_1 (List.mem_of_getElem? (i := 70) (by rfl))) rfl, gtb_in (tb_1 (List.mem_of_getElem? (i := 6) (by decide +kernel))) rfl, by decide +kernel, by decide⟩, gtb_in (tb_1 (List.mem_of_getElem? (i := 68) (by decide +kernel))) rfl, gtb_in (tb_1 (List.mem_of_getElem? (i := 69) (by decide +kernel))) rfl, rfl⟩
theorem ok_J0_coder_7d493 : OkR mJ0_coder_7d493 0 := ⟨⟨gtb_in (tb_1 (List.mem_of_getElem? (i := 74) (by rfl))) rfl, gtb_in (tb_1 (List.mem_of_getElem? (i := 6) (by decide +kernel))) rfl, by decide +kernel, by decide⟩, gtb_in (tb_1 (List.mem_of_getElem? (i := 72) (by decide +kernel))) rfl, gtb_in (tb_1 (List.mem_of_getElem? (i := 73) (by decide +kernel))) rfl, rfl⟩
theorem ok_J0_charAt_5068e : OkR mJ0_charAt_5068e 1 := ⟨⟨gtb_in (tb_1 (List.mem_of_getElem? (i := 80) (by rfl))) rfl, gtb_in (tb_1 (List.mem_of_getElem? (i := 6) (by decide +kernel))) rfl, by decide +kernel, by decide⟩, gtb_in (tb_1 (List.mem_of_getElem? (i := 78) (by decide +kernel))) rfl, gtb_in (tb_1 (List.mem_of_getElem? (i := 79) (by decide +kernel))) rfl, rfl⟩
theorem ok_J0_isLatin1_aae02 : OkR mJ0_isLatin1_aae02 0 := ⟨⟨gtb_in (tb_1 (List.mem_of_getElem? (i := 84) (by rfl))) rfl, gtb_in (tb_1 (List.mem_of_getElem? (i := 6) (by decide +kernel))) rfl, by decide +kernel, by decide⟩, gtb_in (tb_1 (List.mem_of_getElem? (i := 82) (by decide +kernel))) rfl, gtb_in (tb_1 (List.mem_of_getElem? (i := 83) (by decide +kernel))) rfl, rfl⟩
theorem ok_J0_indexOf_0f7a4 : OkR mJ0_indexOf_0f7a4 1 := ⟨⟨gtb_in (tb_3 (List.mem_of_getElem? (i := 105) (by rfl))) rfl, gtb_in (tb_1 (List.mem_of_getElem? (i := 6) (by decide +kernel))) rfl, by decide +kernel, by decide⟩, gtb_in (tb_3 (List.mem_of_getElem? (i := 103) (by decide +kernel))) rfl, gtb_in (tb_3 (List.mem_of_getElem? (i := 104) (by decide +kernel))) rfl, rfl⟩
theorem ok_J0_indexOf_7cf53 : OkR mJ0_indexOf_7cf53 2 := ⟨⟨gtb_in (tb_3 (List.mem_of_getElem? (i := 109) (by rfl))) rfl, gtb_in (tb_1 (List.mem_of_getElem? (i := 6) (by decide +kernel))) rfl, by decide +kernel, by decide⟩, gtb_in (tb_3 (List.mem_of_getElem? (i := 107) (by decide +kernel))) rfl, gtb_in (tb_3 (List.mem_of_getElem? (i := 108) (by decide +kernel))) rfl, rfl⟩
def f_J0_checkIndex_df160 (N : Nat) (ρ : Nat → Nat → Nat) (a1 a2 : Int32) (σ : St) : Option (Int32 × St) := gd (decide (0 ≤ a1) && decide (a1 < a2)) (some (0, σ))
theorem t_J3_checkIndex_8e157 {Γ : SG} {ρ : Nat → Nat → Nat} {v : Value} (hv : v = .null ∨ v = .retAddr 5) {a1 a2 : Int32} {σ : St} (h1 : 0 ≤ a1) (h2 : a1 < a2) : Tri mJ3_checkIndex_8e157 0 0 0 [.int a1, .int a2, v] (hp Γ ρ σ) (Ki Γ ρ a1 σ) := by
  have h1' : ¬ a1 < 0 := by rw [Int32.not_lt]; exact h1
  have key : Go mJ3_checkIndex_8e157 0 0 0 (hp Γ ρ σ).length (Ki Γ ρ a1 σ) 0 0 0 [some (.int a1), some (.int a2), some v] [] (hp Γ ρ σ) := by
    refine go_iload_n 0 dJ3_checkIndex_8e157_0 rfl rfl ?_
    refine go_if_lt 9 dJ3_checkIndex_8e157_1 (by decide) (fun c => absurd c h1') (fun c => ?_)
    refine go_iload_n 0 dJ3_checkIndex_8e157_4 rfl rfl ?_
    refine go_iload_n 1 dJ3_checkIndex_8e157_5 rfl rfl ?_
    refine go_icmp_lt 16 dJ3_checkIndex_8e157_6 (by decide) (fun c => ?_) (fun c => absurd h2 c)
    refine go_iload_n 0 dJ3_checkIndex_8e157_16 rfl rfl ?_
    exact go_iret rfl dJ3_checkIndex_8e157_17 (Nat.le_refl _) ⟨rfl, rfl⟩
  rcases hv with rfl | rfl
  · exact tri_of [some (.int a1), some (.int a2), some .null] (plainFor_of_name rfl) rfl (Nat.le_of_ble_eq_true rfl) key
  · exact tri_of [some (.int a1), some (.int a2), some (.retAddr 5)] (plainFor_of_name rfl) rfl (Nat.le_of_ble_eq_true rfl) key
theorem t_J0_checkIndex_df160 {N : Nat} {Γ : SG} {ρ : Nat → Nat → Nat} (hs : Sh Γ ρ) {a1 a2 : Int32} {σ : St} {r : Int32} {σr : St} (hf : f_J0_checkIndex_df160 N ρ a1 a2 σ = some (r, σr)) : Tri mJ0_checkIndex_df160 1 0 0 [.int a1, .int a2] (hp Γ ρ σ) (Kv Γ ρ σr) := by
  unfold f_J0_checkIndex_df160 at hf
  obtain ⟨g, hf⟩ := gd_some hf
  cases hf
  simp only [Bool.and_eq_true, decide_eq_true_eq] at g
  refine tri_of [some (.int a1), some (.int a2)] (plainFor_of_name rfl) rfl (Nat.le_of_ble_eq_true rfl) ?_
  refine go_iload_n 0 dJ0_checkIndex_df160_0 rfl rfl ?_
  refine go_iload_n 1 dJ0_checkIndex_df160_1 rfl rfl ?_
  refine go_sfg sl_J0_1053 dJ0_checkIndex_df160_2 (fun v hv => ?_)
  refine go_Si (av := [.int a1, .int a2, v]) (rest := []) (t_J3_checkIndex_8e157 hv g.1 g.2) ok_J3_checkIndex_8e157 ml_J0_1059 dJ0_checkIndex_df160_5 rfl rfl (by decide) (Nat.le_refl _) (Nat.le_refl _) (Nat.le_of_ble_eq_true rfl) ?_
  refine go_pop dJ0_checkIndex_df160_8 rfl ?_
  exact go_vret rfl dJ0_checkIndex_df160_9 (Nat.le_refl _) ⟨rfl, rfl⟩
