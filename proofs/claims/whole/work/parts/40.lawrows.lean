/-- the law's own run -/
def FxL (p : Program) (s : State) (m : MethodId) (b : Nat) (meth : Method) (c : Code) (D : va_G) (cT : Nat → ClassId) (ad ro : Nat → Nat) (L : Nat) (xs : Nat → Int32) : Prop :=
  p.tables.exec = Jvm.exec ∧ c.code = cL_law ∧ c.maxLocals = 4 ∧ s.vm.findClass RL = some m.cls ∧ (∀ w ∈ gtb, w.before #[Value.ref b] s = true) ∧ meth.sig.returnType = ret ∧ meth.locks = false ∧ va_K D vwCl (tysL cT) s ∧ An ad 0 s.heap.size ∧ Rom ro (Fr ad 0 s.heap.size) s ∧ ro 6 = b ∧ va_X b L xs s s.heap ∧ b < s.heap.size
def Lw (L : Nat) (xs : Nat → Int32) (cells slots pc : Nat) (loc : List (Option Value)) (st : List Value) (μ : HL) : Prop :=
  ∀ (p : Program) (l : Launch) (e : Env) (s : State) (m : MethodId) (b : Nat) (below : List Frame) (meth : Method) (c : Code) (D : va_G) (cT : Nat → ClassId) (ad ro : Nat → Nat) (H : Heap) (locs : List Loc) (ls : Array Slot),
    FxL p s m b meth c D cT ad ro L xs → Wd D cT ad ro 0 s.heap.size cells μ H → va_S (Fr ad 0 s.heap.size) s.heap H locs → Lc ad ro 4 loc ls →
    W p l e room_1 s m #[Value.ref b] below meth c H locs cells slots (lw_Z below #[Value.ref b] s) (F0 m pc ls (st.map (rv ad ro)))
section LAWROWS
variable {L : Nat} {xs : Nat → Int32} {cells slots pc : Nat} {loc : List (Option Value)} {st : List Value} {μ : HL} {Γ : SG} {ρ : Nat → Nat → Nat} {σ : St}
theorem lw_iadd {x y : Int32} (hdg : decode cL_law pc = .ok (.iadd, 1)) (k : Lw L xs cells slots (pc + 1) loc (.int (x + y) :: st) μ) : Lw L xs cells slots pc loc (.int y :: .int x :: st) μ := by
  intro p l e s m b below meth c D cT ad ro H locs ls F w hS hL
  exact lv_iadd F.1 F.2.1 hdg (k p l e s m b below meth c D cT ad ro H locs ls F w hS hL)
theorem lw_isub {x y : Int32} (hdg : decode cL_law pc = .ok (.isub, 1)) (k : Lw L xs cells slots (pc + 1) loc (.int (x - y) :: st) μ) : Lw L xs cells slots pc loc (.int y :: .int x :: st) μ := by
  intro p l e s m b below meth c D cT ad ro H locs ls F w hS hL
  exact lv_isub F.1 F.2.1 hdg (k p l e s m b below meth c D cT ad ro H locs ls F w hS hL)
theorem lw_iand {x y : Int32} (hdg : decode cL_law pc = .ok (.iand, 1)) (k : Lw L xs cells slots (pc + 1) loc (.int (x &&& y) :: st) μ) : Lw L xs cells slots pc loc (.int y :: .int x :: st) μ := by
  intro p l e s m b below meth c D cT ad ro H locs ls F w hS hL
  exact lv_iand F.1 F.2.1 hdg (k p l e s m b below meth c D cT ad ro H locs ls F w hS hL)
theorem lw_iconst {n : Int} (v : Int32) (hdg : decode cL_law pc = .ok (.iconst n, 1)) (hv : Int32.ofInt n = v) (k : Lw L xs cells slots (pc + 1) loc (.int v :: st) μ) : Lw L xs cells slots pc loc (st) μ := by
  intro p l e s m b below meth c D cT ad ro H locs ls F w hS hL
  exact lv_iconst F.1 F.2.1 hdg hv (k p l e s m b below meth c D cT ad ro H locs ls F w hS hL)
theorem lw_bipush {n : Int} (v : Int32) (hdg : decode cL_law pc = .ok (.bipush n, 2)) (hv : (Int8.ofInt n).toInt32 = v) (k : Lw L xs cells slots (pc + 2) loc (.int v :: st) μ) : Lw L xs cells slots pc loc (st) μ := by
  intro p l e s m b below meth c D cT ad ro H locs ls F w hS hL
  exact lv_bipush F.1 F.2.1 hdg hv (k p l e s m b below meth c D cT ad ro H locs ls F w hS hL)
theorem lw_iload_n {k4 : Fin 4} (i : Nat) {x : Int32} (hdg : decode cL_law pc = .ok (.iload_n k4, 1)) (hi : (k4 : Nat) = i) (hl : loc[i]? = some (some (.int x))) (k : Lw L xs cells slots (pc + 1) loc (.int x :: st) μ) : Lw L xs cells slots pc loc (st) μ := by
  intro p l e s m b below meth c D cT ad ro H locs ls F w hS hL
  exact lv_iload_n F.1 F.2.1 hdg hi (hL.at hl) (k p l e s m b below meth c D cT ad ro H locs ls F w hS hL)
theorem lw_aload_n {k4 : Fin 4} (i : Nat) {x : Nat} (hdg : decode cL_law pc = .ok (.aload_n k4, 1)) (hi : (k4 : Nat) = i) (hl : loc[i]? = some (some (.ref x))) (k : Lw L xs cells slots (pc + 1) loc (.ref x :: st) μ) : Lw L xs cells slots pc loc (st) μ := by
  intro p l e s m b below meth c D cT ad ro H locs ls F w hS hL
  exact lv_aload_n F.1 F.2.1 hdg hi (hL.at hl) (k p l e s m b below meth c D cT ad ro H locs ls F w hS hL)
theorem lw_aload_s {k4 : Fin 4} (i : Nat) {x : Nat} (hdg : decode cL_law pc = .ok (.aload_n k4, 1)) (hi : (k4 : Nat) = i) (hl : loc[i]? = some (some (.retAddr x))) (k : Lw L xs cells slots (pc + 1) loc (.retAddr x :: st) μ) : Lw L xs cells slots pc loc (st) μ := by
  intro p l e s m b below meth c D cT ad ro H locs ls F w hS hL
  exact lv_aload_n F.1 F.2.1 hdg hi (hL.at hl) (k p l e s m b below meth c D cT ad ro H locs ls F w hS hL)
theorem lw_dup {v : Value} (hdg : decode cL_law pc = .ok (.dup, 1)) (hv : v.category = 1) (k : Lw L xs cells slots (pc + 1) loc (v :: v :: st) μ) : Lw L xs cells slots pc loc (v :: st) μ := by
  intro p l e s m b below meth c D cT ad ro H locs ls F w hS hL
  exact lv_dup F.1 F.2.1 hdg (by rw [rv_cat]; exact hv) (k p l e s m b below meth c D cT ad ro H locs ls F w hS hL)
theorem lw_istore_n {k4 : Fin 4} (i : Nat) {x : Int32} (loc' : List (Option Value)) (hdg : decode cL_law pc = .ok (.istore_n k4, 1)) (hi : (k4 : Nat) = i) (hn : i < 4) (he : stl loc i (.int x) = loc') (k : Lw L xs cells slots (pc + 1) loc' st μ) : Lw L xs cells slots pc loc (.int x :: st) μ := by
  intro p l e s m b below meth c D cT ad ro H locs ls F w hS hL
  exact lv_istore_n F.1 F.2.1 hdg hi hL.has hn rfl (fun ls' hh => k p l e s m b below meth c D cT ad ro H locs ls' F w hS (Lc.st1 he hh))
theorem lw_astore_n {k4 : Fin 4} (i : Nat) {x : Nat} (loc' : List (Option Value)) (hdg : decode cL_law pc = .ok (.astore_n k4, 1)) (hi : (k4 : Nat) = i) (hn : i < 4) (he : stl loc i (.ref x) = loc') (k : Lw L xs cells slots (pc + 1) loc' st μ) : Lw L xs cells slots pc loc (.ref x :: st) μ := by
  intro p l e s m b below meth c D cT ad ro H locs ls F w hS hL
  exact lv_astore_n F.1 F.2.1 hdg hi hL.has hn rfl (fun ls' hh => k p l e s m b below meth c D cT ad ro H locs ls' F w hS (Lc.st1 he hh))
theorem lw_iinc {i : Nat} {n : Int} {x : Int32} (v : Int32) (loc' : List (Option Value)) (hdg : decode cL_law pc = .ok (.iinc i n, 3)) (hx : loc[i]? = some (some (.int x))) (hv : x + Int32.ofInt n = v) (hn : i < 4) (he : stl loc i (.int v) = loc') (k : Lw L xs cells slots (pc + 3) loc' st μ) : Lw L xs cells slots pc loc st μ := by
  intro p l e s m b below meth c D cT ad ro H locs ls F w hS hL
  obtain ⟨q, hq⟩ := List.getElem?_of_mem (prs_in (ad := ad) (ro := ro) (q := (i, .int x)) |>.mpr ⟨.int x, hx, rfl⟩)
  exact lv_iinc F.1 F.2.1 hdg hL.has hq hv hn rfl (fun ls' hh => k p l e s m b below meth c D cT ad ro H locs ls' F w hS (Lc.st1 he hh))
theorem lw_if_eq {x : Int32} {off : Int} (tgt : Nat) (hdg : decode cL_law pc = .ok (.ifCond .eq off, 3)) (ht : (pc : Int) + off = (tgt : Int)) (kt : x = 0 → Lw L xs cells slots tgt loc st μ) (kf : ¬ x = 0 → Lw L xs cells slots (pc + 3) loc st μ) : Lw L xs cells slots pc loc (.int x :: st) μ := by
  intro p l e s m b below meth c D cT ad ro H locs ls F w hS hL
  exact lv_if_eq F.1 F.2.1 hdg ht (fun h => kt h p l e s m b below meth c D cT ad ro H locs ls F w hS hL) (fun h => kf h p l e s m b below meth c D cT ad ro H locs ls F w hS hL)
theorem lw_icmp_gt {x y : Int32} {off : Int} (tgt : Nat) (hdg : decode cL_law pc = .ok (.if_icmp .gt off, 3)) (ht : (pc : Int) + off = (tgt : Int)) (kt : y < x → Lw L xs cells slots tgt loc st μ) (kf : ¬ y < x → Lw L xs cells slots (pc + 3) loc st μ) : Lw L xs cells slots pc loc (.int y :: .int x :: st) μ := by
  intro p l e s m b below meth c D cT ad ro H locs ls F w hS hL
  exact lv_icmp_gt F.1 F.2.1 hdg ht (fun h => kt h p l e s m b below meth c D cT ad ro H locs ls F w hS hL) (fun h => kf h p l e s m b below meth c D cT ad ro H locs ls F w hS hL)
theorem lw_icmp_eq {x y : Int32} {off : Int} (tgt : Nat) (hdg : decode cL_law pc = .ok (.if_icmp .eq off, 3)) (ht : (pc : Int) + off = (tgt : Int)) (kt : x = y → Lw L xs cells slots tgt loc st μ) (kf : ¬ x = y → Lw L xs cells slots (pc + 3) loc st μ) : Lw L xs cells slots pc loc (.int y :: .int x :: st) μ := by
  intro p l e s m b below meth c D cT ad ro H locs ls F w hS hL
  exact lv_icmp_eq F.1 F.2.1 hdg ht (fun h => kt h p l e s m b below meth c D cT ad ro H locs ls F w hS hL) (fun h => kf h p l e s m b below meth c D cT ad ro H locs ls F w hS hL)
theorem lw_goto {off : Int} (tgt : Nat) (hdg : decode cL_law pc = .ok (.goto off, 3)) (ht : (pc : Int) + off = (tgt : Int)) (k : Lw L xs cells slots tgt loc st μ) : Lw L xs cells slots pc loc st μ := by
  intro p l e s m b below meth c D cT ad ro H locs ls F w hS hL
  exact lv_goto F.1 F.2.1 hdg ht (k p l e s m b below meth c D cT ad ro H locs ls F w hS hL)
theorem lw_tableOut {dflt lo hi : Int} {offs : Array Int} {len : Nat} {x : Int32} (tgt : Nat) (hdg : decode cL_law pc = .ok (.tableswitch dflt lo hi offs, len)) (h : x.toInt < lo ∨ hi < x.toInt) (ht : (pc : Int) + dflt = (tgt : Int)) (k : Lw L xs cells slots tgt loc st μ) : Lw L xs cells slots pc loc (.int x :: st) μ := by
  intro p l e s m b below meth c D cT ad ro H locs ls F w hS hL
  exact lv_tableOut F.1 F.2.1 hdg h ht (k p l e s m b below meth c D cT ad ro H locs ls F w hS hL)
theorem lw_tableIn {dflt lo hi : Int} {offs : Array Int} {len : Nat} {x : Int32} {off : Int} (tgt : Nat) (hdg : decode cL_law pc = .ok (.tableswitch dflt lo hi offs, len)) (h1 : ¬ x.toInt < lo) (h2 : ¬ hi < x.toInt) (ho : offs[(x.toInt - lo).toNat]? = some off) (ht : (pc : Int) + off = (tgt : Int)) (k : Lw L xs cells slots tgt loc st μ) : Lw L xs cells slots pc loc (.int x :: st) μ := by
  intro p l e s m b below meth c D cT ad ro H locs ls F w hS hL
  exact lv_tableIn F.1 F.2.1 hdg h1 h2 ho ht (k p l e s m b below meth c D cT ad ro H locs ls F w hS hL)
theorem FrL {ad : Nat → Nat} {sz b : Nat} (h : b < sz) : ¬ Fr ad 0 sz b := by
  rintro (⟨j, hj, -⟩ | h2)
  · omega
  · omega
theorem lw_sld {i : Int32} (hdg : decode cL_law pc = .ok (.iaload, 1)) (hin : vp_in i L) (k : Lw L xs cells slots (pc + 1) loc (.int (xs i.toNatClampNeg) :: st) μ) : Lw L xs cells slots pc loc (.int i :: .retAddr 6 :: st) μ := by
  intro p l e s m b below meth c D cT ad ro H locs ls F w hS hL
  obtain ⟨h1, h2, -, -, -, -, -, -, -, -, h11, h12, h13⟩ := id F
  have := va_sld h1 h2 (m := m) (ls := ls) (rest := st.map (rv ad ro)) h12 h13 (FrL h13) hS hin hdg (k p l e s m b below meth c D cT ad ro H locs ls F w hS hL)
  show W p l e room_1 s m #[Value.ref b] below meth c H locs cells slots _ (F0 m pc ls (.int i :: .ref (ro 6) :: st.map (rv ad ro)))
  rw [h11]
  exact this
theorem lw_slen (hdg : decode cL_law pc = .ok (.arraylength, 1)) (k : Lw L xs cells slots (pc + 1) loc (.int (nI L) :: st) μ) : Lw L xs cells slots pc loc (.retAddr 6 :: st) μ := by
  intro p l e s m b below meth c D cT ad ro H locs ls F w hS hL
  obtain ⟨h1, h2, -, -, -, -, -, -, -, -, h11, h12, h13⟩ := id F
  have := va_slen h1 h2 (m := m) (ls := ls) (rest := st.map (rv ad ro)) h12 h13 (FrL h13) hS hdg (k p l e s m b below meth c D cT ad ro H locs ls F w hS hL)
  show W p l e room_1 s m #[Value.ref b] below meth c H locs cells slots _ (F0 m pc ls (.ref (ro 6) :: st.map (rv ad ro)))
  rw [h11]
  exact this
theorem lw_ret1 (hc : cells ≤ 600000) (hs : slots ≤ 7302249) (hdg : decode cL_law pc = .ok (.ireturn, 1)) : Lw L xs cells slots pc loc [.int 1] μ := by
  intro p l e s m b below meth c D cT ad ro H locs ls F w hS hL
  refine va_forget (fun q hq => ?_) (W.widen (k := 600000) (n := 7302249) hc hs ?_)
  · rcases hS.2.2 q hq with ⟨j, hj, -⟩ | h
    · omega
    · exact h
  · exact lw_ret F.1 F.2.1 F.2.2.2.2.2.1 F.2.2.2.2.2.2.1 hdg
/-- a call out of the law -/
theorem lw_run {p : Program} {l : Launch} {e : Env} {s : State} {m : MethodId} {b : Nat} {below : List Frame} {meth : Method} {c : Code} {D : va_G} {cT : Nat → ClassId} {ad ro : Nat → Nat} {H : Heap} {locs : List Loc} {ls : Array Slot} {is : List Nat} {μs : HL} {K' : Option Value → HL → Prop} {kc' ks' : Nat} {stR : List Value} {rest : List Value} {a : Array Value} (F : FxL p s m b meth c D cT ad ro L xs) (w : Wd D cT ad ro 0 s.heap.size cells μ H) (hS : va_S (Fr ad 0 s.heap.size) s.heap H locs) (hL : Lc ad ro 4 loc ls) (hz : H.size = s.heap.size + cells) (hcut : is.map (fun i => μ[i]?) = μs.map (fun x => some (rnE (em is μ.length) x))) (hnd : va_nd is = true)
    (hfr : ∀ q, Fr (fun j => ad (em is μ.length j)) μs.length H.size q → Fr ad 0 s.heap.size q)
    (hr : va_Run p l e room_1 s m #[Value.ref b] below meth c H locs cells slots kc' ks' (F0 m pc ls stR) (rest.map (rv ad ro)) (Qm D cT (fun j => ad (em is μ.length j)) ro μs.length H.size kc' K' a) (Fr (fun j => ad (em is μ.length j)) μs.length H.size))
    (kk : ∀ (v : Option Value) (μs' : HL), K' v μs' → Lw L xs (cells + kc') (slots + ks') (pc + 3) loc ((v.map (rn (em is μ.length))).toList ++ rest) (mrg is μ (μs'.map (rnE (em is μ.length))))) :
    W p l e room_1 s m #[Value.ref b] below meth c H locs cells slots (lw_Z below #[Value.ref b] s) (F0 m pc ls stR) := by
  intro T hT X
  obtain ⟨v, st₀, t, T', L', h0, X', hLo, e1, e2, ⟨⟨v', μs', hv, hK', hw'⟩, hzz, hk⟩, stp⟩ := hr T hT X
  have hA : An ad 0 s.heap.size := F.2.2.2.2.2.2.2.2.1
  have hv2 : v = v'.map (rv (fun j => ad (em is μ.length j)) ro) := by cases hv; rfl
  have hlen : is.length = μs.length := cut_len hcut
  have hll : is.length ≤ (μs'.map (rnE (em is μ.length))).length := by rw [List.length_map, hw'.2.2.1]; omega
  have hml := mrg_len is μ (μs'.map (rnE (em is μ.length))) hll
  rw [List.length_map, hw'.2.2.1] at hml
  rw [h0] at hzz hk
  have hkeep : ∀ k, k < μ.length → k ∉ is → T'.heap[ad k]? = H[ad k]? := by
    intro k hkl hki
    rw [e1]
    refine hk (ad k) (w.lt hkl) (fun q => ?_)
    rcases q with ⟨j, hj, he⟩ | q
    · obtain ⟨i, a1, a2⟩ := cut_in hcut (List.getElem?_eq_getElem hj)
      have he : ad (em is μ.length j) = ad k := he
      rw [em_in a1] at he
      have := w.2.1 i k (List.getElem?_eq_some_iff.mp a2).1 hkl he
      subst this
      exact hki (List.mem_of_getElem? a1)
    · have := w.lt hkl
      omega
  have hnew : Wd D cT ad ro 0 s.heap.size (cells + kc') (mrg is μ (μs'.map (rnE (em is μ.length)))) T'.heap := by
    refine ⟨fun k q hkq => ?_, fun i j hi hj he => ?_, ?_, ?_⟩
    · obtain ⟨x, hx, rfl⟩ := rW_of hkq
      rcases mrg_get is μ _ k x hll hnd (fun i hi => cut_lt hcut hi) hx with ⟨j, h1, h2⟩ | ⟨h1, h2⟩ | ⟨h1, h2⟩
      · rw [List.getElem?_map] at h2
        cases hj : μs'[j]? with
        | none => rw [hj] at h2; cases h2
        | some y =>
          rw [hj] at h2
          cases h2
          have := hw'.1 j _ (rW_at hj)
          rw [rE_rn, e1]
          rw [em_in h1] at this
          exact this
      · exact (w.1 k _ (rW_at h2)).kept (hkeep k (List.getElem?_eq_some_iff.mp h2).1 h1)
      · rw [List.getElem?_map] at h2
        cases hj : μs'[is.length + (k - μ.length)]? with
        | none => rw [hj] at h2; cases h2
        | some y =>
          rw [hj] at h2
          cases h2
          have := hw'.1 _ _ (rW_at hj)
          rw [rE_rn, e1]
          rw [em_out (by omega), show μ.length + (is.length + (k - μ.length) - is.length) = k by omega] at this
          exact this
    · rw [hml] at hi hj
      have key : ∀ k, ¬ k < μ.length → ad k = s.heap.size + k := fun k h => hA k (by omega)
      by_cases a1 : i < μ.length
      · by_cases b1 : j < μ.length
        · exact w.2.1 i j a1 b1 he
        · have := w.lt a1
          rw [he, key j b1] at this
          have := w.2.2.1
          omega
      · by_cases b1 : j < μ.length
        · have := w.lt b1
          rw [← he, key i a1] at this
          have := w.2.2.1
          omega
        · rw [key i a1, key j b1] at he
          omega
    · rw [hml, w.2.2.1]
      omega
    · have := hw'.2.2.2
      rw [← e1] at this
      omega
  have hS' : va_S (Fr ad 0 s.heap.size) s.heap T'.heap (locs ++ L') := ⟨Nat.le_trans hS.1 (by rw [e1]; exact hzz), fun q h1 h2 => by rw [e1, hk q (Nat.lt_of_lt_of_le h1 hS.1) (fun z => h2 (hfr q z))]; exact hS.2.1 q h1 h2, fun q hq => by
      rcases List.mem_append.mp hq with h | h
      · exact hS.2.2 q h
      · exact hfr _ (hLo q h)⟩
  obtain ⟨t2, a1, b1⟩ := kk v' μs' hK' p l e s m b below meth c D cT ad ro T'.heap (locs ++ L') ls F hnew hS' hL T' rfl X'
  have hst : ((v'.map (rn (em is μ.length))).toList ++ rest).map (rv ad ro) = v.toList ++ rest.map (rv ad ro) := by
    rw [hv2, List.map_append]
    congr 1
    cases v' with
    | none => rfl
    | some x => simp [rv_rn]
  rw [hst] at a1
  exact ⟨t2, stp t2 a1, b1⟩
theorem lw_pre {p : Program} {s : State} {m : MethodId} {b : Nat} {meth : Method} {c : Code} {D : va_G} {cT : Nat → ClassId} {ad ro : Nat → Nat} {H : Heap} {locs : List Loc} {is : List Nat} {μs : HL} (F : FxL p s m b meth c D cT ad ro L xs) (w : Wd D cT ad ro 0 s.heap.size cells μ H) (hS : va_S (Fr ad 0 s.heap.size) s.heap H locs) (hz : H.size = s.heap.size + cells) (hcut : is.map (fun i => μ[i]?) = μs.map (fun x => some (rnE (em is μ.length) x))) (hnd : va_nd is = true) :
    (∀ q, Fr (fun j => ad (em is μ.length j)) μs.length H.size q → Fr ad 0 s.heap.size q) ∧ ∀ U : State, U.heap = H → s.WarmedH U.vm → PreU D cT (fun j => ad (em is μ.length j)) ro H.size μs U := by
  have hA : An ad 0 s.heap.size := F.2.2.2.2.2.2.2.2.1
  have hfr : ∀ q, Fr (fun j => ad (em is μ.length j)) μs.length H.size q → Fr ad 0 s.heap.size q := by
    intro q hq
    rcases hq with ⟨j, hj, rfl⟩ | hq
    · exact Fr_at hA
    · exact Or.inr (by omega)
  refine ⟨hfr, fun U hU hW => ⟨va_K.moved hW.alike F.2.2.2.2.2.2.2.1, by rw [hU], fun j hj => ?_, F.2.2.2.2.2.2.2.2.2.1.down hS hU hW hfr, ?_, fun i j hi hj he => ?_, by omega, by rw [hU]; omega⟩⟩
  · show ad (em is μ.length j) = _
    rw [em_out (by rw [cut_len hcut]; exact hj), hA _ (by omega), cut_len hcut]
    have := w.2.2.1
    omega
  · rw [hU]
    intro k q hk
    obtain ⟨x, h1, rfl⟩ := rW_of hk
    obtain ⟨i, h2, h3⟩ := cut_in hcut h1
    have := w.1 i _ (rW_at h3)
    rw [rE_rn] at this
    rw [em_in h2]
    exact this
  · obtain ⟨i', a1, a2⟩ := cut_in hcut (List.getElem?_eq_getElem hi)
    obtain ⟨j', b1, b2⟩ := cut_in hcut (List.getElem?_eq_getElem hj)
    have he : ad (em is μ.length i) = ad (em is μ.length j) := he
    rw [em_in a1, em_in b1] at he
    have := w.2.1 i' j' (List.getElem?_eq_some_iff.mp a2).1 (List.getElem?_eq_some_iff.mp b2).1 he
    subst this
    exact va_nd_inj is hnd i j i' a1 b1
theorem lw_cb {Z : MD} {n idx d' kc' ks' : Nat} {s : State} {args : Array Value} (h : OkM Z n) (ht : ∀ w ∈ gtb, w.before args s = true) (hl : Cond.methodLink RL idx Z.1 ∈ gtb) (hd : d' ≤ 2000) : CallB room_1 s args RL idx Z.1 Z.2.1 Z.2.2.1 Z.2.2.2 (WS Z) (rmv d' kc' ks') kc' ks' n :=
  callB_of n ht (ws_good h) rfl rfl rfl (ht _ h.2.1) (ht _ hl) h.2.2.1 ⟨by show d' + 1 ≤ 2048; omega, by have := h.2.2.2; show 8 + (Z.2.2.1 + 11) + 40 * d' ≤ 84000; omega⟩
/-- a call of an object's method, in one heap; K of the callee may name another heap -/
theorem lw_V {Z : MD} {d' o n idx ci : Nat} {av rest : List Value} {K' : Option Value → HL → Prop} (hT : Tri Z d' 0 0 (.ref o :: av) (hp Γ ρ σ) K') (hZ : OkV Z n ci) (hl : Cond.methodLink RL idx Z.1 ∈ gtb) (hdg : decode cL_law pc = .ok (.invokevirtual idx, 3)) (hb : Γ[o]? = some (0, ci)) (hst : st = av.reverse ++ .ref o :: rest) (hn : av.length = n) (hd : d' ≤ 2000) (hc : cells ≤ 600000) (hs : slots ≤ 7302249) (hrm : (rest.map fun v => v.category).sum ≤ 8) (hKl : ∀ v μ, K' v μ → μ.length = Γ.length) (kk : ∀ (v : Option Value) (μ' : HL), K' v μ' → Lw L xs cells slots (pc + 3) loc (v.toList ++ rest) μ') : Lw L xs cells slots pc loc st (hp Γ ρ σ) := by
  subst hst
  intro p l e s m b below meth c D cT ad ro H locs ls F w hS hL
  refine W_sz fun hzu => ?_
  have hz : H.size = s.heap.size + cells := by have := w.2.2.2; omega
  have hcut := cut_id (hp Γ ρ σ)
  have hnd := nd_range (hp Γ ρ σ).length
  obtain ⟨hfr, hpre⟩ := lw_pre F w hS hz hcut hnd
  obtain ⟨hM, hin, hse, T0, N0, hci⟩ := hZ
  refine lw_run (rest := rest) (μs := hp Γ ρ σ) (is := List.range (hp Γ ρ σ).length) (K' := K') (kc' := 0) (ks' := 0) (a := (Value.ref (ad o) :: av.map (rv (fun j => ad (em (List.range (hp Γ ρ σ).length) (hp Γ ρ σ).length j)) ro)).toArray) F w hS hL hz hcut hnd hfr ?_ (fun v μs' h => ?_)
  · have ho : ad o = ad (em (List.range (hp Γ ρ σ).length) (hp Γ ρ σ).length o) := by rw [em_id]
    rw [ho]
    refine va_runV (C := Z.1.cls) (b := ad (em (List.range (hp Γ ρ σ).length) (hp Γ ρ σ).length o)) (As := av.map (rv (fun j => ad (em (List.range (hp Γ ρ σ).length) (hp Γ ρ σ).length j)) ro)) (n := n) ⟨F.1, F.2.1, F.2.2.1, F.2.2.2.1, F.2.2.2.2.1⟩ (hT l D cT (fun j => ad (em (List.range (hp Γ ρ σ).length) (hp Γ ρ σ).length j)) ro H.size) ⟨lw_cb hM F.2.2.2.2.1 hl hd, F.2.2.2.2.1 _ hin, F.2.2.2.2.1 _ hse⟩ ⟨blind_of, ?_, fun U hU hW => ⟨rfl, hpre U hU hW⟩⟩ rfl (by rw [List.length_map]; exact hn) hL.1 ?_ (room_of hrm) hdg ⟨hc, hs⟩
    · rw [em_id]
      exact va_recv F.2.2.2.2.2.2.2.1 w.1 hci (rW_at (hp_at hb))
    · rw [← ho]
      show List.map (rv ad ro) _ = _
      rw [List.map_append, List.map_reverse]
      have hav : av.map (rv ad ro) = av.map (rv (fun j => ad (em (List.range (hp Γ ρ σ).length) (hp Γ ρ σ).length j)) ro) := List.map_congr_left fun v _ => by
        have hq := rv_rn (ad := ad) (ro := ro) (em := em (List.range (hp Γ ρ σ).length) (hp Γ ρ σ).length) v
        rw [rn_id] at hq
        exact hq
      rw [hav]
      rfl
  · rw [one_mu (by rw [hp_len]; exact hKl v μs' h)]
    have e2 : v.map (rn (em (List.range (hp Γ ρ σ).length) (hp Γ ρ σ).length)) = v := by cases v <;> simp [rn_id]
    rw [e2]
    exact kk v μs' h
theorem lw_Vi {Z : MD} {d' o n idx ci : Nat} {av rest : List Value} {r : Int32} {σ' : St} (hT : Tri Z d' 0 0 (.ref o :: av) (hp Γ ρ σ) (Ki Γ ρ r σ')) (hZ : OkV Z n ci) (hl : Cond.methodLink RL idx Z.1 ∈ gtb) (hdg : decode cL_law pc = .ok (.invokevirtual idx, 3)) (hb : Γ[o]? = some (0, ci)) (hst : st = av.reverse ++ .ref o :: rest) (hn : av.length = n) (hd : d' ≤ 2000) (hc : cells ≤ 600000) (hs : slots ≤ 7302249) (hrm : (rest.map fun v => v.category).sum ≤ 8) (kk : Lw L xs cells slots (pc + 3) loc (.int r :: rest) (hp Γ ρ σ')) : Lw L xs cells slots pc loc st (hp Γ ρ σ) :=
  lw_V hT hZ hl hdg hb hst hn hd hc hs hrm (fun v μ h => by rw [h.2, hp_len]) (fun v μ h => by obtain ⟨rfl, rfl⟩ := h; exact kk)
/-- a constructor's call -/
theorem lw_I {Z : MD} {d' kc' ks' o n idx : Nat} {av rest : List Value} {μs : HL} {K' : Option Value → HL → Prop} (is : List Nat) (hT : Tri Z d' kc' ks' (.ref o :: av) μs K') (hZ : OkI Z n) (hv : Z.2.2.2 = none) (hl : Cond.methodLink RL idx Z.1 ∈ gtb) (hdg : decode cL_law pc = .ok (.invokespecial idx, 3)) (hcut : is.map (fun i => μ[i]?) = μs.map (fun x => some (rnE (em is μ.length) x))) (hnd : va_nd is = true) (hst : st = (av.map (rn (em is μ.length))).reverse ++ .ref (em is μ.length o) :: rest) (hn : av.length = n) (hd : d' ≤ 2000) (hc : cells + kc' ≤ 600000) (hs : slots + ks' ≤ 7302249) (hrm : (rest.map fun v => v.category).sum ≤ 8)
    (kk : ∀ (v : Option Value) (μs' : HL), K' v μs' → Lw L xs (cells + kc') (slots + ks') (pc + 3) loc ((v.map (rn (em is μ.length))).toList ++ rest) (mrg is μ (μs'.map (rnE (em is μ.length))))) : Lw L xs cells slots pc loc st μ := by
  subst hst
  intro p l e s m b below meth c D cT ad ro H locs ls F w hS hL
  refine W_sz fun hzu => ?_
  have hz : H.size = s.heap.size + cells := by have := w.2.2.2; omega
  obtain ⟨hfr, hpre⟩ := lw_pre F w hS hz hcut hnd
  obtain ⟨hM, hnm, hin⟩ := hZ
  have hcb := lw_cb (d' := d') (kc' := kc') (ks' := ks') hM F.2.2.2.2.1 hl hd
  rw [hv] at hcb
  refine lw_run (rest := rest) (μs := μs) (is := is) (K' := K') (kc' := kc') (ks' := ks') (a := (Value.ref (ad (em is μ.length o)) :: av.map (rv (fun j => ad (em is μ.length j)) ro)).toArray) F w hS hL hz hcut hnd hfr ?_ kk
  refine va_runI (b := ad (em is μ.length o)) (As := av.map (rv (fun j => ad (em is μ.length j)) ro)) (n := n) ⟨F.1, F.2.1, F.2.2.1, F.2.2.2.1, F.2.2.2.2.1⟩ (hT l D cT (fun j => ad (em is μ.length j)) ro H.size) ⟨hcb, hnm, F.2.2.2.2.1 _ hin⟩ ⟨blind_of, fun U hU hW => ⟨rfl, hpre U hU hW⟩⟩ rfl (by rw [List.length_map]; exact hn) hL.1 ?_ (room_of hrm) hdg ⟨hc, hs⟩
  show List.map (rv ad ro) _ = _
  rw [List.map_append, List.map_reverse, args_of]
  rfl
theorem lw_new {idx ci N : Nat} {C : String} {T : u_T} (hcl : Cond.classLink RL idx C ∈ gtb) (hinst : Cond.instantiable C N ∈ gtb) (hini : Cond.initialized C ∈ gtb) (hc : vwCl[ci]? = some (C, T, N)) (ty : Nat → FieldType) (hty : ∀ k, k < N → parseFieldDescriptor (T k).2.2.1 = some (ty k)) (fs : List Value) (hfs : ∀ j, j < N → defaultValue (ty j) = vp_V fs j) (hfn : ∀ ad ro : Nat → Nat, fs.map (rv ad ro) = fs) (hcells : cells + 1 ≤ 600000) (hslots : slots + N ≤ 7302249) (hdg : decode cL_law pc = .ok (.new idx, 3)) (n : Nat) (hn : μ.length = n)
    (k : Lw L xs (cells + 1) (slots + N) (pc + 3) loc (.ref n :: st) (μ ++ [.inr (ci, fs)])) : Lw L xs cells slots pc loc st μ := by
  subst hn
  intro p l e s m b below meth c D cT ad ro H locs ls F w hS hL
  refine W_sz fun hzu => ?_
  have hz : H.size = s.heap.size + cells := by have := w.2.2.2; omega
  have hK := F.2.2.2.2.2.2.2.1
  have hKn := hK.1 ci _ hc
  refine W.newcK F.1 F.2.1 F.2.2.2.1 (F.2.2.2.2.1 _ hcl) (F.2.2.2.2.1 _ hinst) (F.2.2.2.2.1 _ hini) rfl hdg hcells hslots hKn.2.1 rfl fun H1 kC hkC e1 z1 o1 => ?_
  have hat : va_at D vwCl (H.size, rE cT ad ro (.inr (ci, fs))) H1 := by
    refine ⟨_, hc, ?_⟩
    show t_OB H.size (D.1 ci) N (D.2 ci) H1 (vp_V (fs.map (rv ad ro)))
    rw [hfn]
    exact (u_born ty F.2.2.2.2.1 (cls_ok ci C T N hc).1 hKn hkC e1 hty).to hfs
  obtain ⟨w', hq⟩ := Wd_push w F.2.2.2.2.2.2.2.2.1 hz z1 o1 hat
  have := k p l e s m b below meth c D cT ad ro H1 locs ls F w' ⟨Nat.le_trans hS.1 (by omega), fun x h1 h2 => (o1 x (Nat.lt_of_lt_of_le h1 hS.1)).trans (hS.2.1 x h1 h2), hS.2.2⟩ hL
  rw [← hq]
  exact this
theorem lw_mu (μ' : HL) (h : μ = μ') (k : Lw L xs cells slots pc loc st μ') : Lw L xs cells slots pc loc st μ := h ▸ k
end LAWROWS
