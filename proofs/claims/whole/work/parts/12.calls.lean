theorem W_sz {p : Program} {l : Launch} {e : Env} {R : Room} {s : State} {m : MethodId} {args : Array Value} {below : List Frame} {meth : Method} {c : Code} {H : Heap} {locs : List Loc} {cells slots : Nat} {Q : State → Prop} {g : JFrame} (k : H.size ≤ s.heap.size + cells → W p l e R s m args below meth c H locs cells slots Q g) : W p l e R s m args below meth c H locs cells slots Q g := fun T hT X => k (by rw [← hT]; exact X.same.2.2.1) T hT X
/-- what a call of Z wants of the tables -/
def OkM (Z : MD) (n : Nat) : Prop := Cond.code Z.1 Z.2.1 Z.2.2.1 Z.2.2.2 ∈ gtb ∧ Cond.initialized Z.1.cls ∈ gtb ∧ (Z.1.cls ≠ "java/lang/invoke/MethodHandle" ∧ Z.1.cls ≠ "java/lang/invoke/VarHandle" ∧ (parseMethodDescriptor Z.1.desc).map (fun d => d.parameters.length) = some n) ∧ Z.2.2.1 ≤ 21
def OkV (Z : MD) (n ci : Nat) : Prop := OkM Z n ∧ Cond.instanceMethod Z.1 ∈ gtb ∧ Cond.selects Z.1.cls Z.1 Z.1 ∈ gtb ∧ ∃ (T : u_T) (N : Nat), vwCl[ci]? = some (Z.1.cls, T, N)
def OkS (Z : MD) (n : Nat) : Prop := OkM Z n ∧ Cond.static Z.1 ∈ gtb
def OkI (Z : MD) (n : Nat) : Prop := OkM Z n ∧ Z.1.name = "<init>" ∧ Cond.instanceMethod Z.1 ∈ gtb
theorem ws_good {Z : MD} {n : Nat} (h : OkM Z n) : GoodIn gtb (WS Z) := by
  intro w hw
  rcases List.mem_cons.mp hw with e | hw
  · subst e
    exact ⟨h.1, good_of_word (gtb_good _ h.1)⟩
  · exact ⟨hw, good_of_word (gtb_good _ hw)⟩
theorem mrg_get : ∀ (is : List Nat) (μ es : HL) (k : Nat) (e : va_E), is.length ≤ es.length → va_nd is = true → (∀ i ∈ is, i < μ.length) → (mrg is μ es)[k]? = some e →
    (∃ j : Nat, is[j]? = some k ∧ es[j]? = some e) ∨ (k ∉ is ∧ μ[k]? = some e) ∨ (μ.length ≤ k ∧ es[is.length + (k - μ.length)]? = some e)
  | [], μ, es, k, e, _, _, _, h => by
    have h : (μ ++ es)[k]? = some e := by cases es <;> exact h
    by_cases hk : k < μ.length
    · rw [List.getElem?_append_left hk] at h
      exact Or.inr (Or.inl ⟨by simp, h⟩)
    · rw [List.getElem?_append_right (by omega)] at h
      exact Or.inr (Or.inr ⟨by omega, by simpa using h⟩)
  | i :: is, μ, [], k, e, hl, _, _, h => by simp at hl
  | i :: is, μ, x :: es, k, e, hl, hn, hb, h => by
    simp only [va_nd, Bool.and_eq_true, decide_eq_true_eq] at hn
    have h : (mrg is (μ.set i x) es)[k]? = some e := h
    have hi : i < μ.length := hb i List.mem_cons_self
    rcases mrg_get is (μ.set i x) es k e (by simpa using hl) hn.2 (fun j hj => by rw [List.length_set]; exact hb j (List.mem_cons_of_mem _ hj)) h with ⟨j, h1, h2⟩ | ⟨h1, h2⟩ | ⟨h1, h2⟩
    · exact Or.inl ⟨j + 1, by simpa using h1, by simpa using h2⟩
    · by_cases hk : i = k
      · subst hk
        rw [List.getElem?_set_self hi] at h2
        exact Or.inl ⟨0, by simp, by simpa using h2⟩
      · rw [List.getElem?_set_ne hk] at h2
        exact Or.inr (Or.inl ⟨by simp; exact ⟨fun q => hk q.symm, h1⟩, h2⟩)
    · rw [List.length_set] at h1 h2
      exact Or.inr (Or.inr ⟨h1, by simp only [List.length_cons]; rw [show is.length + 1 + (k - μ.length) = is.length + (k - μ.length) + 1 by omega, List.getElem?_cons_succ]; exact h2⟩)
theorem mrg_len : ∀ (is : List Nat) (μ es : HL), is.length ≤ es.length → (mrg is μ es).length = μ.length + (es.length - is.length)
  | [], μ, es, _ => by cases es <;> simp [mrg]
  | i :: is, μ, [], h => by simp at h
  | i :: is, μ, x :: es, h => by
    have := mrg_len is (μ.set i x) es (by simpa using h)
    show (mrg is (μ.set i x) es).length = _
    rw [this, List.length_set]
    simp
    try omega
theorem em_in {is : List Nat} {n j i : Nat} (h : is[j]? = some i) : em is n j = i := by unfold em; rw [h]
theorem em_out {is : List Nat} {n j : Nat} (h : is.length ≤ j) : em is n j = n + (j - is.length) := by unfold em; rw [List.getElem?_eq_none h]
section CALLS
variable {Y : MD} {d kc ks n0 : Nat} {K : Option Value → HL → Prop} {cells slots pc : Nat} {loc : List (Option Value)} {st : List Value} {μ : HL}
variable {p : Program} {l : Launch} {e : Env} {s : State} {m : MethodId} {args : Array Value} {below : List Frame} {meth : Method} {c : Code} {D : va_G} {cT : Nat → ClassId} {ad ro : Nat → Nat} {sz : Nat} {H : Heap} {locs : List Loc} {ls : Array Slot}
/-- the callee's part of the heap -/
theorem cut_in {is : List Nat} {μ μs : HL} {f : Nat → Nat} (hcut : is.map (fun i => μ[i]?) = μs.map (fun x => some (rnE f x))) {j : Nat} {x : va_E} (h : μs[j]? = some x) : ∃ i, is[j]? = some i ∧ μ[i]? = some (rnE f x) := by
  have h1 : (is.map (fun i => μ[i]?))[j]? = some (some (rnE f x)) := by rw [hcut, List.getElem?_map, h]; rfl
  rw [List.getElem?_map] at h1
  cases hi : is[j]? with
  | none => rw [hi] at h1; cases h1
  | some i => rw [hi] at h1; exact ⟨i, rfl, Option.some.inj h1⟩
theorem cut_len {is : List Nat} {μ μs : HL} {f : Nat → Nat} (hcut : is.map (fun i => μ[i]?) = μs.map (fun x => some (rnE f x))) : is.length = μs.length := by
  have := congrArg List.length hcut
  simpa using this
theorem cut_lt {is : List Nat} {μ μs : HL} {f : Nat → Nat} (hcut : is.map (fun i => μ[i]?) = μs.map (fun x => some (rnE f x))) {i : Nat} (h : i ∈ is) : i < μ.length := by
  obtain ⟨j, hj⟩ := List.getElem?_of_mem h
  have hl : j < μs.length := by rw [← cut_len hcut]; exact (List.getElem?_eq_some_iff.mp hj).1
  obtain ⟨i', h1, h2⟩ := cut_in hcut (List.getElem?_eq_getElem hl)
  have e : i' = i := Option.some.inj (h1.symm.trans hj)
  subst e
  exact (List.getElem?_eq_some_iff.mp h2).1
theorem pre_of {is : List Nat} {μs : HL} (F : Fx Y p s m args meth c D cT ad ro n0 sz) (w : Wd D cT ad ro n0 sz cells μ H) (hS : va_S (Fr ad n0 sz) s.heap H locs) (hz : H.size = sz + cells) (hcut : is.map (fun i => μ[i]?) = μs.map (fun x => some (rnE (em is μ.length) x))) (hnd : va_nd is = true) :
    (∀ q, Fr (fun j => ad (em is μ.length j)) μs.length H.size q → Fr ad n0 sz q) ∧ ∀ U : State, U.heap = H → s.WarmedH U.vm → PreU D cT (fun j => ad (em is μ.length j)) ro H.size μs U := by
  have hA : An ad n0 sz := F.2.2.2.2.2.2.2.2.2.2.1
  have hfr : ∀ q, Fr (fun j => ad (em is μ.length j)) μs.length H.size q → Fr ad n0 sz q := by
    intro q hq
    rcases hq with ⟨j, hj, rfl⟩ | hq
    · exact Fr_at hA
    · exact Or.inr (by omega)
  refine ⟨hfr, fun U hU hW => ⟨va_K.moved hW.alike F.2.2.2.2.2.2.2.2.1, by rw [hU], fun j hj => ?_, F.2.2.2.2.2.2.2.2.2.2.2.down hS hU hW hfr, ?_, fun i j hi hj he => ?_, by omega, by rw [hU]; omega⟩⟩
  · show ad (em is μ.length j) = _
    rw [em_out (by rw [cut_len hcut]; exact hj), hA _ (by have := w.2.2.1; omega), cut_len hcut]
    have := w.2.2.1
    omega
  · rw [hU]
    intro k q hk
    obtain ⟨x, h1, rfl⟩ := rW_of hk
    obtain ⟨i, h2, h3⟩ := cut_in hcut h1
    have := w.1 i _ (rW_at h3)
    rw [rE_rn] at this
    rw [em_in h2]
    exact this
  · obtain ⟨i', a1, a2⟩ := cut_in hcut (List.getElem?_eq_getElem hi)
    obtain ⟨j', b1, b2⟩ := cut_in hcut (List.getElem?_eq_getElem hj)
    have he : ad (em is μ.length i) = ad (em is μ.length j) := he
    rw [em_in a1, em_in b1] at he
    have := w.2.1 i' j' (List.getElem?_eq_some_iff.mp a2).1 (List.getElem?_eq_some_iff.mp b2).1 he
    subst this
    exact va_nd_inj is hnd i j i' a1 b1
/-- behind the call -/
theorem go_run {is : List Nat} {μs : HL} {K' : Option Value → HL → Prop} {kc' ks' : Nat} {stR : List Value} {rest : List Value} {a : Array Value} (F : Fx Y p s m args meth c D cT ad ro n0 sz) (w : Wd D cT ad ro n0 sz cells μ H) (hS : va_S (Fr ad n0 sz) s.heap H locs) (hL : Lc ad ro Y.2.2.1 loc ls) (hz : H.size = sz + cells) (hcut : is.map (fun i => μ[i]?) = μs.map (fun x => some (rnE (em is μ.length) x))) (hnd : va_nd is = true)
    (hfr : ∀ q, Fr (fun j => ad (em is μ.length j)) μs.length H.size q → Fr ad n0 sz q)
    (hr : va_Run p l e (rmv d kc ks) s m args below meth c H locs cells slots kc' ks' (F0 m pc ls stR) (rest.map (rv ad ro)) (Qm D cT (fun j => ad (em is μ.length j)) ro μs.length H.size kc' K' a) (Fr (fun j => ad (em is μ.length j)) μs.length H.size))
    (kk : ∀ (v : Option Value) (μs' : HL), K' v μs' → Go Y d kc ks n0 K (cells + kc') (slots + ks') (pc + 3) loc ((v.map (rn (em is μ.length))).toList ++ rest) (mrg is μ (μs'.map (rnE (em is μ.length))))) :
    W p l e (rmv d kc ks) s m args below meth c H locs cells slots (MQ below (Qm D cT ad ro n0 sz kc K) args s kc ks (Fr ad n0 sz)) (F0 m pc ls stR) := by
  intro T hT X
  obtain ⟨v, st₀, t, T', L, h0, X', hLo, e1, e2, ⟨⟨v', μs', hv, hK', hw'⟩, hzz, hk⟩, stp⟩ := hr T hT X
  have hA : An ad n0 sz := F.2.2.2.2.2.2.2.2.2.2.1
  have hv2 : v = v'.map (rv (fun j => ad (em is μ.length j)) ro) := by cases hv; rfl
  have hlen : is.length = μs.length := cut_len hcut
  have hll : is.length ≤ (μs'.map (rnE (em is μ.length))).length := by rw [List.length_map, hw'.2.2.1]; omega
  have hml := mrg_len is μ (μs'.map (rnE (em is μ.length))) hll
  rw [List.length_map, hw'.2.2.1] at hml
  rw [h0] at hzz hk
  have hkeep : ∀ k, k < μ.length → k ∉ is → T'.heap[ad k]? = H[ad k]? := by
    intro k hkl hki
    rw [e1]
    refine hk (ad k) (w.lt hkl) (fun q => ?_)
    rcases q with ⟨j, hj, he⟩ | q
    · obtain ⟨i, a1, a2⟩ := cut_in hcut (List.getElem?_eq_getElem hj)
      have he : ad (em is μ.length j) = ad k := he
      rw [em_in a1] at he
      have := w.2.1 i k (List.getElem?_eq_some_iff.mp a2).1 hkl he
      subst this
      exact hki (List.mem_of_getElem? a1)
    · have := w.lt hkl
      omega
  have hnew : Wd D cT ad ro n0 sz (cells + kc') (mrg is μ (μs'.map (rnE (em is μ.length)))) T'.heap := by
    refine ⟨fun k q hkq => ?_, fun i j hi hj he => ?_, ?_, ?_⟩
    · obtain ⟨x, hx, rfl⟩ := rW_of hkq
      rcases mrg_get is μ _ k x hll hnd (fun i hi => cut_lt hcut hi) hx with ⟨j, h1, h2⟩ | ⟨h1, h2⟩ | ⟨h1, h2⟩
      · rw [List.getElem?_map] at h2
        cases hj : μs'[j]? with
        | none => rw [hj] at h2; cases h2
        | some y =>
          rw [hj] at h2
          cases h2
          have := hw'.1 j _ (rW_at hj)
          rw [rE_rn, e1]
          rw [em_in h1] at this
          exact this
      · exact (w.1 k _ (rW_at h2)).kept (hkeep k (List.getElem?_eq_some_iff.mp h2).1 h1)
      · rw [List.getElem?_map] at h2
        cases hj : μs'[is.length + (k - μ.length)]? with
        | none => rw [hj] at h2; cases h2
        | some y =>
          rw [hj] at h2
          cases h2
          have := hw'.1 _ _ (rW_at hj)
          rw [rE_rn, e1]
          rw [em_out (by omega), show μ.length + (is.length + (k - μ.length) - is.length) = k by omega] at this
          exact this
    · rw [hml] at hi hj
      have key : ∀ k, ¬ k < μ.length → ad k = sz + (k - n0) := fun k h => hA k (by have := w.2.2.1; omega)
      by_cases a1 : i < μ.length
      · by_cases b1 : j < μ.length
        · exact w.2.1 i j a1 b1 he
        · have := w.lt a1
          rw [he, key j b1] at this
          have := w.2.2.1
          omega
      · by_cases b1 : j < μ.length
        · have := w.lt b1
          rw [← he, key i a1] at this
          have := w.2.2.1
          omega
        · rw [key i a1, key j b1] at he
          have := w.2.2.1
          omega
    · rw [hml, w.2.2.1]
      omega
    · have := hw'.2.2.2
      rw [← e1] at this
      omega
  have hS' : va_S (Fr ad n0 sz) s.heap T'.heap (locs ++ L) := ⟨Nat.le_trans hS.1 (by rw [e1]; exact hzz), fun q h1 h2 => by rw [e1, hk q (Nat.lt_of_lt_of_le h1 hS.1) (fun z => h2 (hfr q z))]; exact hS.2.1 q h1 h2, fun q hq => by
      rcases List.mem_append.mp hq with h | h
      · exact hS.2.2 q h
      · exact hfr _ (hLo q h)⟩
  obtain ⟨t2, a1, b1⟩ := kk v' μs' hK' p l e s m args below meth c D cT ad ro sz T'.heap (locs ++ L) ls F hnew hS' hL T' rfl X'
  have hst : ((v'.map (rn (em is μ.length))).toList ++ rest).map (rv ad ro) = v.toList ++ rest.map (rv ad ro) := by
    rw [hv2, List.map_append]
    congr 1
    cases v' with
    | none => rfl
    | some x => simp [rv_rn]
  rw [hst] at a1
  exact ⟨t2, stp t2 a1, b1⟩
end CALLS
section CALLR
variable {Y : MD} {d kc ks n0 : Nat} {K : Option Value → HL → Prop} {cells slots pc : Nat} {loc : List (Option Value)} {st : List Value} {μ : HL}
theorem blind_of {D : va_G} {cT : Nat → ClassId} {ad ro : Nat → Nat} {sz : Nat} {μs : HL} {av : List Value} : FrameBlind (va_Pc av (PreU D cT ad ro sz μs)) := by
  intro a U g mk h
  obtain ⟨h1, h2, h3, h4, h5, h6⟩ := h
  exact ⟨h1, va_K.moved (u := U) (U := U.calling g mk a) (Vm.Alike.refl U.vm) h2, h3, h4, h5.blind, h6⟩
theorem cb_of {Z : MD} {n idx d' kc' ks' : Nat} {s : State} {args : Array Value} (h : OkM Z n) (ht : ∀ w ∈ gtb, w.before args s = true) (hl : Cond.methodLink Y.1.cls idx Z.1 ∈ gtb) (hd : d' + 1 ≤ d) : CallB (rmv d kc ks) s args Y.1.cls idx Z.1 Z.2.1 Z.2.2.1 Z.2.2.2 (WS Z) (rmv d' kc' ks') kc' ks' n :=
  callB_of n ht (ws_good h) rfl rfl rfl (ht _ h.2.1) (ht _ hl) h.2.2.1 ⟨hd, by have := h.2.2.2; show 8 + (Z.2.2.1 + 11) + 40 * d' ≤ 40 * d; omega⟩
theorem room_of {m : MethodId} {pc : Nat} {ls : Array Slot} {st rest : List Value} {ad ro : Nat → Nat} (h : (rest.map fun v => v.category).sum ≤ 8) : 2 * (F0 m pc ls st).monitorRoom + ((rest.map (rv ad ro)).map fun v => v.category).sum ≤ 8 := by
  refine lv_room ?_
  rw [List.map_map]
  refine Nat.le_trans (Nat.le_of_eq (congrArg List.sum (List.map_congr_left fun v _ => rv_cat v))) h
theorem args_of {ad ro f : Nat → Nat} (av : List Value) : (av.map (rn f)).map (rv ad ro) = av.map (rv (fun j => ad (f j)) ro) := by
  rw [List.map_map]
  exact List.map_congr_left fun v _ => rv_rn v
/-- a call of an object's method -/
theorem go_callV {Z : MD} {d' kc' ks' b n idx ci : Nat} {fs : List Value} {av rest : List Value} {μs : HL} {K' : Option Value → HL → Prop} (is : List Nat) (hT : Tri Z d' kc' ks' (.ref b :: av) μs K') (hZ : OkV Z n ci) (hl : Cond.methodLink Y.1.cls idx Z.1 ∈ gtb) (hdg : decode Y.2.1 pc = .ok (.invokevirtual idx, 3)) (hcut : is.map (fun i => μ[i]?) = μs.map (fun x => some (rnE (em is μ.length) x))) (hnd : va_nd is = true) (hst : st = (av.map (rn (em is μ.length))).reverse ++ .ref (em is μ.length b) :: rest) (hb : μs[b]? = some (.inr (ci, fs))) (hn : av.length = n) (hd : d' + 1 ≤ d) (hc : cells + kc' ≤ kc) (hs : slots + ks' ≤ ks) (hrm : (rest.map fun v => v.category).sum ≤ 8)
    (kk : ∀ (v : Option Value) (μs' : HL), K' v μs' → Go Y d kc ks n0 K (cells + kc') (slots + ks') (pc + 3) loc ((v.map (rn (em is μ.length))).toList ++ rest) (mrg is μ (μs'.map (rnE (em is μ.length))))) : Go Y d kc ks n0 K cells slots pc loc st μ := by
  subst hst
  intro p l e s m args below meth c D cT ad ro sz H locs ls F w hS hL
  refine W_sz fun hzu => ?_
  have hz : H.size = sz + cells := by have := w.2.2.2; have := F.2.2.2.2.2.2.2.2.2.1; omega
  obtain ⟨hfr, hpre⟩ := pre_of F w hS hz hcut hnd
  obtain ⟨hM, hin, hse, T0, N0, hci⟩ := hZ
  obtain ⟨i, hi1, hi2⟩ := cut_in hcut hb
  refine go_run (rest := rest) (μs := μs) (is := is) (K' := K') (kc' := kc') (ks' := ks') (a := (Value.ref (ad (em is μ.length b)) :: av.map (rv (fun j => ad (em is μ.length j)) ro)).toArray) F w hS hL hz hcut hnd hfr ?_ kk
  refine va_runV (C := Z.1.cls) (b := ad (em is μ.length b)) (As := av.map (rv (fun j => ad (em is μ.length j)) ro)) (n := n) ⟨F.1, F.2.1, F.2.2.1, F.2.2.2.1, F.2.2.2.2.1⟩ (hT l D cT (fun j => ad (em is μ.length j)) ro H.size) ⟨cb_of hM F.2.2.2.2.1 hl hd, F.2.2.2.2.1 _ hin, F.2.2.2.2.1 _ hse⟩ ⟨blind_of, ?_, fun U hU hW => ⟨rfl, hpre U hU hW⟩⟩ rfl (by rw [List.length_map]; exact hn) hL.1 ?_ (room_of hrm) hdg ⟨hc, hs⟩
  · rw [em_in hi1]
    exact va_recv F.2.2.2.2.2.2.2.2.1 w.1 hci (rW_at hi2)
  · show List.map (rv ad ro) _ = _
    rw [List.map_append, List.map_reverse, args_of]
    rfl
/-- a call of a static method -/
theorem go_callS {Z : MD} {d' kc' ks' n idx : Nat} {av rest : List Value} {μs : HL} {K' : Option Value → HL → Prop} (is : List Nat) (hT : Tri Z d' kc' ks' av μs K') (hZ : OkS Z n) (hl : Cond.methodLink Y.1.cls idx Z.1 ∈ gtb) (hdg : decode Y.2.1 pc = .ok (.invokestatic idx, 3)) (hcut : is.map (fun i => μ[i]?) = μs.map (fun x => some (rnE (em is μ.length) x))) (hnd : va_nd is = true) (hst : st = (av.map (rn (em is μ.length))).reverse ++ rest) (hn : av.length = n) (hd : d' + 1 ≤ d) (hc : cells + kc' ≤ kc) (hs : slots + ks' ≤ ks) (hrm : (rest.map fun v => v.category).sum ≤ 8)
    (kk : ∀ (v : Option Value) (μs' : HL), K' v μs' → Go Y d kc ks n0 K (cells + kc') (slots + ks') (pc + 3) loc ((v.map (rn (em is μ.length))).toList ++ rest) (mrg is μ (μs'.map (rnE (em is μ.length))))) : Go Y d kc ks n0 K cells slots pc loc st μ := by
  subst hst
  intro p l e s m args below meth c D cT ad ro sz H locs ls F w hS hL
  refine W_sz fun hzu => ?_
  have hz : H.size = sz + cells := by have := w.2.2.2; have := F.2.2.2.2.2.2.2.2.2.1; omega
  obtain ⟨hfr, hpre⟩ := pre_of F w hS hz hcut hnd
  obtain ⟨hM, hstt⟩ := hZ
  refine go_run (rest := rest) (μs := μs) (is := is) (K' := K') (kc' := kc') (ks' := ks') (a := (av.map (rv (fun j => ad (em is μ.length j)) ro)).toArray) F w hS hL hz hcut hnd hfr ?_ kk
  refine va_runS (As := av.map (rv (fun j => ad (em is μ.length j)) ro)) (n := n) ⟨F.1, F.2.1, F.2.2.1, F.2.2.2.1, F.2.2.2.2.1⟩ (hT l D cT (fun j => ad (em is μ.length j)) ro H.size) ⟨cb_of hM F.2.2.2.2.1 hl hd, F.2.2.2.2.1 _ hstt⟩ ⟨blind_of, fun U hU hW => ⟨rfl, hpre U hU hW⟩⟩ rfl (by rw [List.length_map]; exact hn) hL.1 ?_ (room_of hrm) hdg ⟨hc, hs⟩
  show List.map (rv ad ro) _ = _
  rw [List.map_append, List.map_reverse, args_of]
/-- a constructor's call -/
theorem go_callI {Z : MD} {d' kc' ks' b n idx : Nat} {av rest : List Value} {μs : HL} {K' : Option Value → HL → Prop} (is : List Nat) (hT : Tri Z d' kc' ks' (.ref b :: av) μs K') (hZ : OkI Z n) (hv : Z.2.2.2 = none) (hl : Cond.methodLink Y.1.cls idx Z.1 ∈ gtb) (hdg : decode Y.2.1 pc = .ok (.invokespecial idx, 3)) (hcut : is.map (fun i => μ[i]?) = μs.map (fun x => some (rnE (em is μ.length) x))) (hnd : va_nd is = true) (hst : st = (av.map (rn (em is μ.length))).reverse ++ .ref (em is μ.length b) :: rest) (hn : av.length = n) (hd : d' + 1 ≤ d) (hc : cells + kc' ≤ kc) (hs : slots + ks' ≤ ks) (hrm : (rest.map fun v => v.category).sum ≤ 8)
    (kk : ∀ (v : Option Value) (μs' : HL), K' v μs' → Go Y d kc ks n0 K (cells + kc') (slots + ks') (pc + 3) loc ((v.map (rn (em is μ.length))).toList ++ rest) (mrg is μ (μs'.map (rnE (em is μ.length))))) : Go Y d kc ks n0 K cells slots pc loc st μ := by
  subst hst
  intro p l e s m args below meth c D cT ad ro sz H locs ls F w hS hL
  refine W_sz fun hzu => ?_
  have hz : H.size = sz + cells := by have := w.2.2.2; have := F.2.2.2.2.2.2.2.2.2.1; omega
  obtain ⟨hfr, hpre⟩ := pre_of F w hS hz hcut hnd
  obtain ⟨hM, hnm, hin⟩ := hZ
  have hcb := cb_of (Y := Y) (d := d) (kc := kc) (ks := ks) (d' := d') (kc' := kc') (ks' := ks') hM F.2.2.2.2.1 hl hd
  rw [hv] at hcb
  refine go_run (rest := rest) (μs := μs) (is := is) (K' := K') (kc' := kc') (ks' := ks') (a := (Value.ref (ad (em is μ.length b)) :: av.map (rv (fun j => ad (em is μ.length j)) ro)).toArray) F w hS hL hz hcut hnd hfr ?_ kk
  refine va_runI (b := ad (em is μ.length b)) (As := av.map (rv (fun j => ad (em is μ.length j)) ro)) (n := n) ⟨F.1, F.2.1, F.2.2.1, F.2.2.2.1, F.2.2.2.2.1⟩ (hT l D cT (fun j => ad (em is μ.length j)) ro H.size) ⟨hcb, hnm, F.2.2.2.2.1 _ hin⟩ ⟨blind_of, fun U hU hW => ⟨rfl, hpre U hU hW⟩⟩ rfl (by rw [List.length_map]; exact hn) hL.1 ?_ (room_of hrm) hdg ⟨hc, hs⟩
  show List.map (rv ad ro) _ = _
  rw [List.map_append, List.map_reverse, args_of]
  rfl
theorem cn_of {Z : MD} {n idx d' kc' ks' : Nat} {host : String} {s : State} {args : Array Value} (h : OkM Z n) (ht : ∀ w ∈ gtb, w.before args s = true) (hl : va_Nw (.methodLinkNest Y.1.cls idx Z.1 host) s) (hd : d' + 1 ≤ d) : va_CN (rmv d kc ks) s args Y.1.cls idx Z.1 host Z.2.1 Z.2.2.1 Z.2.2.2 (WS Z) (rmv d' kc' ks') kc' ks' n :=
  va_cnB n ht (ws_good h) rfl rfl rfl hl (ht _ h.2.1) h.2.2.1 ⟨hd, by have := h.2.2.2; show 8 + (Z.2.2.1 + 11) + 40 * d' ≤ 40 * d; omega⟩
/-- a call of a nest mate's private method -/
theorem go_callVN {Z : MD} {d' kc' ks' b n idx ci : Nat} {fs : List Value} {av rest : List Value} {μs : HL} {K' : Option Value → HL → Prop} (is : List Nat) (hT : Tri Z d' kc' ks' (.ref b :: av) μs K') (hZ : OkV Z n ci) {host : String} (hl : (Y.1.cls, idx, Z.1, host) ∈ nst) (hdg : decode Y.2.1 pc = .ok (.invokevirtual idx, 3)) (hcut : is.map (fun i => μ[i]?) = μs.map (fun x => some (rnE (em is μ.length) x))) (hnd : va_nd is = true) (hst : st = (av.map (rn (em is μ.length))).reverse ++ .ref (em is μ.length b) :: rest) (hb : μs[b]? = some (.inr (ci, fs))) (hn : av.length = n) (hd : d' + 1 ≤ d) (hc : cells + kc' ≤ kc) (hs : slots + ks' ≤ ks) (hrm : (rest.map fun v => v.category).sum ≤ 8)
    (kk : ∀ (v : Option Value) (μs' : HL), K' v μs' → Go Y d kc ks n0 K (cells + kc') (slots + ks') (pc + 3) loc ((v.map (rn (em is μ.length))).toList ++ rest) (mrg is μ (μs'.map (rnE (em is μ.length))))) : Go Y d kc ks n0 K cells slots pc loc st μ := by
  subst hst
  intro p l e s m args below meth c D cT ad ro sz H locs ls F w hS hL
  refine W_sz fun hzu => ?_
  have hz : H.size = sz + cells := by have := w.2.2.2; have := F.2.2.2.2.2.2.2.2.2.1; omega
  obtain ⟨hfr, hpre⟩ := pre_of F w hS hz hcut hnd
  obtain ⟨hM, hin, hse, T0, N0, hci⟩ := hZ
  obtain ⟨i, hi1, hi2⟩ := cut_in hcut hb
  refine go_run (rest := rest) (μs := μs) (is := is) (K' := K') (kc' := kc') (ks' := ks') (a := (Value.ref (ad (em is μ.length b)) :: av.map (rv (fun j => ad (em is μ.length j)) ro)).toArray) F w hS hL hz hcut hnd hfr ?_ kk
  refine va_runVN (C := Z.1.cls) (b := ad (em is μ.length b)) (As := av.map (rv (fun j => ad (em is μ.length j)) ro)) (n := n) ⟨F.1, F.2.1, F.2.2.1, F.2.2.2.1, F.2.2.2.2.1⟩ (hT l D cT (fun j => ad (em is μ.length j)) ro H.size) ⟨cn_of hM F.2.2.2.2.1 (F.2.2.2.2.2.2.2.2.2.2.2.2.2.2.2.2.2.2.1 _ hl) hd, F.2.2.2.2.1 _ hin, F.2.2.2.2.1 _ hse⟩ ⟨blind_of, ?_, fun U hU hW => ⟨rfl, hpre U hU hW⟩⟩ rfl (by rw [List.length_map]; exact hn) hL.1 ?_ (room_of hrm) hdg ⟨hc, hs⟩
  · rw [em_in hi1]
    exact va_recv F.2.2.2.2.2.2.2.2.1 w.1 hci (rW_at hi2)
  · show List.map (rv ad ro) _ = _
    rw [List.map_append, List.map_reverse, args_of]
    rfl
/-- a constructor's call, of a nest mate -/
theorem go_callIN {Z : MD} {d' kc' ks' b n idx : Nat} {av rest : List Value} {μs : HL} {K' : Option Value → HL → Prop} (is : List Nat) (hT : Tri Z d' kc' ks' (.ref b :: av) μs K') (hZ : OkI Z n) (hv : Z.2.2.2 = none) {host : String} (hl : (Y.1.cls, idx, Z.1, host) ∈ nst) (hdg : decode Y.2.1 pc = .ok (.invokespecial idx, 3)) (hcut : is.map (fun i => μ[i]?) = μs.map (fun x => some (rnE (em is μ.length) x))) (hnd : va_nd is = true) (hst : st = (av.map (rn (em is μ.length))).reverse ++ .ref (em is μ.length b) :: rest) (hn : av.length = n) (hd : d' + 1 ≤ d) (hc : cells + kc' ≤ kc) (hs : slots + ks' ≤ ks) (hrm : (rest.map fun v => v.category).sum ≤ 8)
    (kk : ∀ (v : Option Value) (μs' : HL), K' v μs' → Go Y d kc ks n0 K (cells + kc') (slots + ks') (pc + 3) loc ((v.map (rn (em is μ.length))).toList ++ rest) (mrg is μ (μs'.map (rnE (em is μ.length))))) : Go Y d kc ks n0 K cells slots pc loc st μ := by
  subst hst
  intro p l e s m args below meth c D cT ad ro sz H locs ls F w hS hL
  refine W_sz fun hzu => ?_
  have hz : H.size = sz + cells := by have := w.2.2.2; have := F.2.2.2.2.2.2.2.2.2.1; omega
  obtain ⟨hfr, hpre⟩ := pre_of F w hS hz hcut hnd
  obtain ⟨hM, hnm, hin⟩ := hZ
  have hcb := cn_of (Y := Y) (d := d) (kc := kc) (ks := ks) (d' := d') (kc' := kc') (ks' := ks') hM F.2.2.2.2.1 (F.2.2.2.2.2.2.2.2.2.2.2.2.2.2.2.2.2.2.1 _ hl) hd
  rw [hv] at hcb
  refine go_run (rest := rest) (μs := μs) (is := is) (K' := K') (kc' := kc') (ks' := ks') (a := (Value.ref (ad (em is μ.length b)) :: av.map (rv (fun j => ad (em is μ.length j)) ro)).toArray) F w hS hL hz hcut hnd hfr ?_ kk
  refine va_runIN (b := ad (em is μ.length b)) (As := av.map (rv (fun j => ad (em is μ.length j)) ro)) (n := n) ⟨F.1, F.2.1, F.2.2.1, F.2.2.2.1, F.2.2.2.2.1⟩ (hT l D cT (fun j => ad (em is μ.length j)) ro H.size) ⟨hcb, hnm, F.2.2.2.2.1 _ hin⟩ ⟨blind_of, fun U hU hW => ⟨rfl, hpre U hU hW⟩⟩ rfl (by rw [List.length_map]; exact hn) hL.1 ?_ (room_of hrm) hdg ⟨hc, hs⟩
  show List.map (rv ad ro) _ = _
  rw [List.map_append, List.map_reverse, args_of]
  rfl
end CALLR
