section ROWS
variable {Y : MD} {d kc ks n0 : Nat} {K : Option Value → HL → Prop} {cells slots pc : Nat} {loc : List (Option Value)} {st : List Value} {μ : HL}
theorem Lc.at {ad ro : Nat → Nat} {nL : Nat} {ls : Array Slot} (h : Lc ad ro nL loc ls) {i : Nat} {v : Value} (hi : loc[i]? = some (some v)) : ls[i]? = some (.val (rv ad ro v)) := h.2.2 i v hi
/-- the pairs that lv_ rows speak of -/
def prs (ad ro : Nat → Nat) (loc : List (Option Value)) : List (Nat × Value) := (List.range loc.length).filterMap (fun i => match loc[i]? with
  | some (some v) => some (i, rv ad ro v)
  | _ => none)
theorem prs_in {ad ro : Nat → Nat} {loc : List (Option Value)} {q : Nat × Value} : q ∈ prs ad ro loc ↔ ∃ v, loc[q.1]? = some (some v) ∧ q.2 = rv ad ro v := by
  unfold prs
  rw [List.mem_filterMap]
  constructor
  · rintro ⟨i, -, h⟩
    split at h
    · rename_i v hv
      cases h
      exact ⟨v, hv, rfl⟩
    · cases h
  · rintro ⟨v, hv, e⟩
    refine ⟨q.1, List.mem_range.mpr (List.getElem?_eq_some_iff.mp hv).1, ?_⟩
    rw [hv]
    show some (q.1, rv ad ro v) = some q
    rw [← e]
theorem Lc.has {ad ro : Nat → Nat} {nL : Nat} {ls : Array Slot} (h : Lc ad ro nL loc ls) : lv_has ls nL (prs ad ro loc) := ⟨h.1, h.2.1, fun q hq => by
  obtain ⟨v, hv, e⟩ := prs_in.mp hq
  rw [e]
  exact h.2.2 q.1 v hv⟩
/-- storing a value of one slot -/
def kil (loc : List (Option Value)) (i : Nat) : List (Option Value) := match i with
  | 0 => loc
  | k + 1 => match loc[k]? with
    | some (some (.long _)) => loc.set k none
    | some (some (.double _)) => loc.set k none
    | _ => loc
def stl (loc : List (Option Value)) (i : Nat) (v : Value) : List (Option Value) := (kil loc i).set i (some v)
theorem kil_get {loc : List (Option Value)} {i j : Nat} {v : Value} (h : (kil loc i)[j]? = some (some v)) : loc[j]? = some (some v) ∧ ¬ (j + 1 = i ∧ v.category = 2) := by
  unfold kil at h
  cases i with
  | zero => exact ⟨h, by omega⟩
  | succ k =>
    have big : ∀ w : Value, (loc.set k none)[j]? = some (some v) → loc[j]? = some (some v) ∧ ¬ (j + 1 = k + 1 ∧ v.category = 2) := by
      intro w h
      rw [List.getElem?_set] at h
      by_cases hk : k = j
      · rw [if_pos hk] at h
        split at h <;> cases h
      · rw [if_neg hk] at h
        exact ⟨h, by omega⟩
    simp only at h
    split at h
    · exact big .null h
    · exact big .null h
    · rename_i h1 h2
      refine ⟨h, fun q => ?_⟩
      have e : j = k := by omega
      subst e
      cases v with
      | long x => exact h1 x h
      | double x => exact h2 x h
      | _ => simp [Value.category] at q
theorem Lc.st1 {ad ro : Nat → Nat} {nL : Nat} {ls' : Array Slot} {i : Nat} {v : Value} {loc' : List (Option Value)} (he : stl loc i v = loc') (hh : lv_has ls' nL ((i, rv ad ro v) :: (prs ad ro loc).filter (fun q => !(q.1 == i) && !(q.1 + 1 == i && q.2.category == 2)))) : Lc ad ro nL loc' ls' := by
  subst he
  refine ⟨hh.1, hh.2.1, fun j w hj => ?_⟩
  unfold stl at hj
  rw [List.getElem?_set] at hj
  by_cases hij : i = j
  · subst hij
    rw [if_pos rfl] at hj
    split at hj
    · cases hj
      exact hh.2.2 (i, rv ad ro v) List.mem_cons_self
    · cases hj
  · rw [if_neg hij] at hj
    obtain ⟨g1, g2⟩ := kil_get hj
    refine hh.2.2 (j, rv ad ro w) (List.mem_cons_of_mem _ (List.mem_filter.mpr ⟨prs_in.mpr ⟨w, g1, rfl⟩, ?_⟩))
    have e1 : (j == i) = false := by simp; omega
    by_cases hc : j + 1 = i
    · have : ¬ w.category = 2 := fun q => g2 ⟨hc, q⟩
      simp [e1, rv_cat, this]
    · simp [e1, hc]

theorem go_iadd {x y : Int32} (hdg : decode Y.2.1 pc = .ok (.iadd, 1)) (k : Go Y d kc ks n0 K cells slots (pc + 1) loc (.int (x + y) :: st) μ) : Go Y d kc ks n0 K cells slots pc loc (.int y :: .int x :: st) μ := by
  intro p l e s m args below meth c D cT ad ro sz H locs ls F w hS hL
  exact lv_iadd F.1 F.2.1 hdg (k p l e s m args below meth c D cT ad ro sz H locs ls F w hS hL)
theorem go_isub {x y : Int32} (hdg : decode Y.2.1 pc = .ok (.isub, 1)) (k : Go Y d kc ks n0 K cells slots (pc + 1) loc (.int (x - y) :: st) μ) : Go Y d kc ks n0 K cells slots pc loc (.int y :: .int x :: st) μ := by
  intro p l e s m args below meth c D cT ad ro sz H locs ls F w hS hL
  exact lv_isub F.1 F.2.1 hdg (k p l e s m args below meth c D cT ad ro sz H locs ls F w hS hL)
theorem go_imul {x y : Int32} (hdg : decode Y.2.1 pc = .ok (.imul, 1)) (k : Go Y d kc ks n0 K cells slots (pc + 1) loc (.int (x * y) :: st) μ) : Go Y d kc ks n0 K cells slots pc loc (.int y :: .int x :: st) μ := by
  intro p l e s m args below meth c D cT ad ro sz H locs ls F w hS hL
  exact lv_imul F.1 F.2.1 hdg (k p l e s m args below meth c D cT ad ro sz H locs ls F w hS hL)
theorem go_iand {x y : Int32} (hdg : decode Y.2.1 pc = .ok (.iand, 1)) (k : Go Y d kc ks n0 K cells slots (pc + 1) loc (.int (x &&& y) :: st) μ) : Go Y d kc ks n0 K cells slots pc loc (.int y :: .int x :: st) μ := by
  intro p l e s m args below meth c D cT ad ro sz H locs ls F w hS hL
  exact lv_iand F.1 F.2.1 hdg (k p l e s m args below meth c D cT ad ro sz H locs ls F w hS hL)
theorem go_ior {x y : Int32} (hdg : decode Y.2.1 pc = .ok (.ior, 1)) (k : Go Y d kc ks n0 K cells slots (pc + 1) loc (.int (x ||| y) :: st) μ) : Go Y d kc ks n0 K cells slots pc loc (.int y :: .int x :: st) μ := by
  intro p l e s m args below meth c D cT ad ro sz H locs ls F w hS hL
  exact lv_ior F.1 F.2.1 hdg (k p l e s m args below meth c D cT ad ro sz H locs ls F w hS hL)
theorem go_ixor {x y : Int32} (hdg : decode Y.2.1 pc = .ok (.ixor, 1)) (k : Go Y d kc ks n0 K cells slots (pc + 1) loc (.int (x ^^^ y) :: st) μ) : Go Y d kc ks n0 K cells slots pc loc (.int y :: .int x :: st) μ := by
  intro p l e s m args below meth c D cT ad ro sz H locs ls F w hS hL
  exact lv_ixor F.1 F.2.1 hdg (k p l e s m args below meth c D cT ad ro sz H locs ls F w hS hL)
theorem go_ishl {x y : Int32} (hdg : decode Y.2.1 pc = .ok (.ishl, 1)) (k : Go Y d kc ks n0 K cells slots (pc + 1) loc (.int (x <<< (y &&& 31)) :: st) μ) : Go Y d kc ks n0 K cells slots pc loc (.int y :: .int x :: st) μ := by
  intro p l e s m args below meth c D cT ad ro sz H locs ls F w hS hL
  exact lv_ishl F.1 F.2.1 hdg (k p l e s m args below meth c D cT ad ro sz H locs ls F w hS hL)
theorem go_ishr {x y : Int32} (hdg : decode Y.2.1 pc = .ok (.ishr, 1)) (k : Go Y d kc ks n0 K cells slots (pc + 1) loc (.int (x >>> (y &&& 31)) :: st) μ) : Go Y d kc ks n0 K cells slots pc loc (.int y :: .int x :: st) μ := by
  intro p l e s m args below meth c D cT ad ro sz H locs ls F w hS hL
  exact lv_ishr F.1 F.2.1 hdg (k p l e s m args below meth c D cT ad ro sz H locs ls F w hS hL)
theorem go_iushr {x y : Int32} (hdg : decode Y.2.1 pc = .ok (.iushr, 1)) (k : Go Y d kc ks n0 K cells slots (pc + 1) loc (.int (x.toUInt32 >>> (y.toUInt32 &&& Int32.toUInt32 31)).toInt32 :: st) μ) : Go Y d kc ks n0 K cells slots pc loc (.int y :: .int x :: st) μ := by
  intro p l e s m args below meth c D cT ad ro sz H locs ls F w hS hL
  exact lv_iushr F.1 F.2.1 hdg rfl (k p l e s m args below meth c D cT ad ro sz H locs ls F w hS hL)
theorem go_idiv {x y : Int32} (hdg : decode Y.2.1 pc = .ok (.idiv, 1)) (hne : ¬ y = 0) (k : Go Y d kc ks n0 K cells slots (pc + 1) loc (.int (x / y) :: st) μ) : Go Y d kc ks n0 K cells slots pc loc (.int y :: .int x :: st) μ := by
  intro p l e s m args below meth c D cT ad ro sz H locs ls F w hS hL
  exact lv_idiv F.1 F.2.1 hdg hne (k p l e s m args below meth c D cT ad ro sz H locs ls F w hS hL)
theorem go_irem {x y : Int32} (hdg : decode Y.2.1 pc = .ok (.irem, 1)) (hne : ¬ y = 0) (k : Go Y d kc ks n0 K cells slots (pc + 1) loc (.int (x - x / y * y) :: st) μ) : Go Y d kc ks n0 K cells slots pc loc (.int y :: .int x :: st) μ := by
  intro p l e s m args below meth c D cT ad ro sz H locs ls F w hS hL
  exact lv_irem F.1 F.2.1 hdg hne (k p l e s m args below meth c D cT ad ro sz H locs ls F w hS hL)
theorem go_ineg {x : Int32} (hdg : decode Y.2.1 pc = .ok (.ineg, 1)) (k : Go Y d kc ks n0 K cells slots (pc + 1) loc (.int (-x) :: st) μ) : Go Y d kc ks n0 K cells slots pc loc (.int x :: st) μ := by
  intro p l e s m args below meth c D cT ad ro sz H locs ls F w hS hL
  exact lv_ineg F.1 F.2.1 hdg (k p l e s m args below meth c D cT ad ro sz H locs ls F w hS hL)
theorem go_ladd {x y : Int64} (hdg : decode Y.2.1 pc = .ok (.ladd, 1)) (k : Go Y d kc ks n0 K cells slots (pc + 1) loc (.long (x + y) :: st) μ) : Go Y d kc ks n0 K cells slots pc loc (.long y :: .long x :: st) μ := by
  intro p l e s m args below meth c D cT ad ro sz H locs ls F w hS hL
  exact lv_ladd F.1 F.2.1 hdg (k p l e s m args below meth c D cT ad ro sz H locs ls F w hS hL)
theorem go_lmul {x y : Int64} (hdg : decode Y.2.1 pc = .ok (.lmul, 1)) (k : Go Y d kc ks n0 K cells slots (pc + 1) loc (.long (x * y) :: st) μ) : Go Y d kc ks n0 K cells slots pc loc (.long y :: .long x :: st) μ := by
  intro p l e s m args below meth c D cT ad ro sz H locs ls F w hS hL
  exact lv_lmul F.1 F.2.1 hdg (k p l e s m args below meth c D cT ad ro sz H locs ls F w hS hL)
theorem go_lor {x y : Int64} (hdg : decode Y.2.1 pc = .ok (.lor, 1)) (k : Go Y d kc ks n0 K cells slots (pc + 1) loc (.long (x ||| y) :: st) μ) : Go Y d kc ks n0 K cells slots pc loc (.long y :: .long x :: st) μ := by
  intro p l e s m args below meth c D cT ad ro sz H locs ls F w hS hL
  exact lv_lor F.1 F.2.1 hdg (k p l e s m args below meth c D cT ad ro sz H locs ls F w hS hL)
theorem go_lshl {x : Int64} {y : Int32} (hdg : decode Y.2.1 pc = .ok (.lshl, 1)) (k : Go Y d kc ks n0 K cells slots (pc + 1) loc (.long (x <<< (y.toInt64 &&& 63)) :: st) μ) : Go Y d kc ks n0 K cells slots pc loc (.int y :: .long x :: st) μ := by
  intro p l e s m args below meth c D cT ad ro sz H locs ls F w hS hL
  exact lv_lshl F.1 F.2.1 hdg rfl (k p l e s m args below meth c D cT ad ro sz H locs ls F w hS hL)
theorem go_lcmp {x y : Int64} (hdg : decode Y.2.1 pc = .ok (.lcmp, 1)) (k : Go Y d kc ks n0 K cells slots (pc + 1) loc (.int (lg_cmp x y) :: st) μ) : Go Y d kc ks n0 K cells slots pc loc (.long y :: .long x :: st) μ := by
  intro p l e s m args below meth c D cT ad ro sz H locs ls F w hS hL
  exact W.lcmp F.1 F.2.1 hdg (k p l e s m args below meth c D cT ad ro sz H locs ls F w hS hL)
theorem go_i2l {x : Int32} (hdg : decode Y.2.1 pc = .ok (.i2l, 1)) (k : Go Y d kc ks n0 K cells slots (pc + 1) loc (.long x.toInt64 :: st) μ) : Go Y d kc ks n0 K cells slots pc loc (.int x :: st) μ := by
  intro p l e s m args below meth c D cT ad ro sz H locs ls F w hS hL
  exact lv_i2l F.1 F.2.1 hdg rfl (k p l e s m args below meth c D cT ad ro sz H locs ls F w hS hL)
theorem go_i2b {x : Int32} (hdg : decode Y.2.1 pc = .ok (.i2b, 1)) (k : Go Y d kc ks n0 K cells slots (pc + 1) loc (.int x.toInt8.toInt32 :: st) μ) : Go Y d kc ks n0 K cells slots pc loc (.int x :: st) μ := by
  intro p l e s m args below meth c D cT ad ro sz H locs ls F w hS hL
  exact lv_i2b F.1 F.2.1 hdg rfl (k p l e s m args below meth c D cT ad ro sz H locs ls F w hS hL)
theorem go_i2c {x : Int32} (hdg : decode Y.2.1 pc = .ok (.i2c, 1)) (k : Go Y d kc ks n0 K cells slots (pc + 1) loc (.int (x.toUInt32 % 65536).toInt32 :: st) μ) : Go Y d kc ks n0 K cells slots pc loc (.int x :: st) μ := by
  intro p l e s m args below meth c D cT ad ro sz H locs ls F w hS hL
  exact lv_i2c F.1 F.2.1 hdg rfl (k p l e s m args below meth c D cT ad ro sz H locs ls F w hS hL)
theorem go_iconst {n : Int} (v : Int32) (hdg : decode Y.2.1 pc = .ok (.iconst n, 1)) (hv : Int32.ofInt n = v) (k : Go Y d kc ks n0 K cells slots (pc + 1) loc (.int v :: st) μ) : Go Y d kc ks n0 K cells slots pc loc (st) μ := by
  intro p l e s m args below meth c D cT ad ro sz H locs ls F w hS hL
  exact lv_iconst F.1 F.2.1 hdg hv (k p l e s m args below meth c D cT ad ro sz H locs ls F w hS hL)
theorem go_bipush {n : Int} (v : Int32) (hdg : decode Y.2.1 pc = .ok (.bipush n, 2)) (hv : (Int8.ofInt n).toInt32 = v) (k : Go Y d kc ks n0 K cells slots (pc + 2) loc (.int v :: st) μ) : Go Y d kc ks n0 K cells slots pc loc (st) μ := by
  intro p l e s m args below meth c D cT ad ro sz H locs ls F w hS hL
  exact lv_bipush F.1 F.2.1 hdg hv (k p l e s m args below meth c D cT ad ro sz H locs ls F w hS hL)
theorem go_sipush {n : Int} (v : Int32) (hdg : decode Y.2.1 pc = .ok (.sipush n, 3)) (hv : (Int16.ofInt n).toInt32 = v) (k : Go Y d kc ks n0 K cells slots (pc + 3) loc (.int v :: st) μ) : Go Y d kc ks n0 K cells slots pc loc (st) μ := by
  intro p l e s m args below meth c D cT ad ro sz H locs ls F w hS hL
  exact lv_sipush F.1 F.2.1 hdg hv (k p l e s m args below meth c D cT ad ro sz H locs ls F w hS hL)
theorem go_lconst {n : Fin 2} (v : Int64) (hdg : decode Y.2.1 pc = .ok (.lconst n, 1)) (hv : Int64.ofNat (n : Nat) = v) (k : Go Y d kc ks n0 K cells slots (pc + 1) loc (.long v :: st) μ) : Go Y d kc ks n0 K cells slots pc loc (st) μ := by
  intro p l e s m args below meth c D cT ad ro sz H locs ls F w hS hL
  exact lv_lconst F.1 F.2.1 hdg hv (k p l e s m args below meth c D cT ad ro sz H locs ls F w hS hL)
theorem go_ldc {index : Nat} (v : Int32) (hdg : decode Y.2.1 pc = .ok (.ldc index, 2)) (hc : Jvm.Cond.constant Y.1.cls index v ∈ gtb) (k : Go Y d kc ks n0 K cells slots (pc + 2) loc (.int v :: st) μ) : Go Y d kc ks n0 K cells slots pc loc (st) μ := by
  intro p l e s m args below meth c D cT ad ro sz H locs ls F w hS hL
  exact lv_ldc F.1 F.2.1 F.2.2.2.1 (F.2.2.2.2.1 _ hc) hdg (k p l e s m args below meth c D cT ad ro sz H locs ls F w hS hL)
theorem go_ldcw {index : Nat} (v : Int32) (hdg : decode Y.2.1 pc = .ok (.ldc_w index, 3)) (hc : Jvm.Cond.constant Y.1.cls index v ∈ gtb) (k : Go Y d kc ks n0 K cells slots (pc + 3) loc (.int v :: st) μ) : Go Y d kc ks n0 K cells slots pc loc (st) μ := by
  intro p l e s m args below meth c D cT ad ro sz H locs ls F w hS hL
  exact lv_ldcw F.1 F.2.1 F.2.2.2.1 (F.2.2.2.2.1 _ hc) hdg (k p l e s m args below meth c D cT ad ro sz H locs ls F w hS hL)
theorem go_ldc2 {index : Nat} (v : Int64) (hdg : decode Y.2.1 pc = .ok (.ldc2_w index, 3)) (hc : Jvm.Cond.constantLong Y.1.cls index v ∈ gtb) (k : Go Y d kc ks n0 K cells slots (pc + 3) loc (.long v :: st) μ) : Go Y d kc ks n0 K cells slots pc loc (st) μ := by
  intro p l e s m args below meth c D cT ad ro sz H locs ls F w hS hL
  exact lv_ldc2 F.1 F.2.1 F.2.2.2.1 (F.2.2.2.2.1 _ hc) hdg (k p l e s m args below meth c D cT ad ro sz H locs ls F w hS hL)
theorem go_iload_n {k4 : Fin 4} (i : Nat) {x : Int32} (hdg : decode Y.2.1 pc = .ok (.iload_n k4, 1)) (hi : (k4 : Nat) = i) (hl : loc[i]? = some (some (.int x))) (k : Go Y d kc ks n0 K cells slots (pc + 1) loc (.int x :: st) μ) : Go Y d kc ks n0 K cells slots pc loc (st) μ := by
  intro p l e s m args below meth c D cT ad ro sz H locs ls F w hS hL
  exact lv_iload_n F.1 F.2.1 hdg hi (hL.at hl) (k p l e s m args below meth c D cT ad ro sz H locs ls F w hS hL)
theorem go_iload {i : Nat} {x : Int32} (hdg : decode Y.2.1 pc = .ok (.iload i, 2)) (hl : loc[i]? = some (some (.int x))) (k : Go Y d kc ks n0 K cells slots (pc + 2) loc (.int x :: st) μ) : Go Y d kc ks n0 K cells slots pc loc (st) μ := by
  intro p l e s m args below meth c D cT ad ro sz H locs ls F w hS hL
  exact lv_iload F.1 F.2.1 hdg (hL.at hl) (k p l e s m args below meth c D cT ad ro sz H locs ls F w hS hL)
theorem go_lload_n {k4 : Fin 4} (i : Nat) {x : Int64} (hdg : decode Y.2.1 pc = .ok (.lload_n k4, 1)) (hi : (k4 : Nat) = i) (hl : loc[i]? = some (some (.long x))) (k : Go Y d kc ks n0 K cells slots (pc + 1) loc (.long x :: st) μ) : Go Y d kc ks n0 K cells slots pc loc (st) μ := by
  intro p l e s m args below meth c D cT ad ro sz H locs ls F w hS hL
  exact lv_lload_n F.1 F.2.1 hdg hi (hL.at hl) (k p l e s m args below meth c D cT ad ro sz H locs ls F w hS hL)
theorem go_lload {i : Nat} {x : Int64} (hdg : decode Y.2.1 pc = .ok (.lload i, 2)) (hl : loc[i]? = some (some (.long x))) (k : Go Y d kc ks n0 K cells slots (pc + 2) loc (.long x :: st) μ) : Go Y d kc ks n0 K cells slots pc loc (st) μ := by
  intro p l e s m args below meth c D cT ad ro sz H locs ls F w hS hL
  exact lv_lload F.1 F.2.1 hdg (hL.at hl) (k p l e s m args below meth c D cT ad ro sz H locs ls F w hS hL)
theorem go_aload_n {k4 : Fin 4} (i : Nat) {x : Nat} (hdg : decode Y.2.1 pc = .ok (.aload_n k4, 1)) (hi : (k4 : Nat) = i) (hl : loc[i]? = some (some (.ref x))) (k : Go Y d kc ks n0 K cells slots (pc + 1) loc (.ref x :: st) μ) : Go Y d kc ks n0 K cells slots pc loc (st) μ := by
  intro p l e s m args below meth c D cT ad ro sz H locs ls F w hS hL
  exact lv_aload_n F.1 F.2.1 hdg hi (hL.at hl) (k p l e s m args below meth c D cT ad ro sz H locs ls F w hS hL)
theorem go_aload {i : Nat} {x : Nat} (hdg : decode Y.2.1 pc = .ok (.aload i, 2)) (hl : loc[i]? = some (some (.ref x))) (k : Go Y d kc ks n0 K cells slots (pc + 2) loc (.ref x :: st) μ) : Go Y d kc ks n0 K cells slots pc loc (st) μ := by
  intro p l e s m args below meth c D cT ad ro sz H locs ls F w hS hL
  exact lv_aload F.1 F.2.1 hdg (hL.at hl) (k p l e s m args below meth c D cT ad ro sz H locs ls F w hS hL)
theorem go_istore_n {k4 : Fin 4} (i : Nat) {x : Int32} (loc' : List (Option Value)) (hdg : decode Y.2.1 pc = .ok (.istore_n k4, 1)) (hi : (k4 : Nat) = i) (hn : i < Y.2.2.1) (he : stl loc i (.int x) = loc') (k : Go Y d kc ks n0 K cells slots (pc + 1) loc' st μ) : Go Y d kc ks n0 K cells slots pc loc (.int x :: st) μ := by
  intro p l e s m args below meth c D cT ad ro sz H locs ls F w hS hL
  exact lv_istore_n F.1 F.2.1 hdg hi hL.has hn rfl (fun ls' hh => k p l e s m args below meth c D cT ad ro sz H locs ls' F w hS (Lc.st1 he hh))
theorem go_istore {i : Nat} {x : Int32} (loc' : List (Option Value)) (hdg : decode Y.2.1 pc = .ok (.istore i, 2)) (hn : i < Y.2.2.1) (he : stl loc i (.int x) = loc') (k : Go Y d kc ks n0 K cells slots (pc + 2) loc' st μ) : Go Y d kc ks n0 K cells slots pc loc (.int x :: st) μ := by
  intro p l e s m args below meth c D cT ad ro sz H locs ls F w hS hL
  exact lv_istore F.1 F.2.1 hdg hL.has hn rfl (fun ls' hh => k p l e s m args below meth c D cT ad ro sz H locs ls' F w hS (Lc.st1 he hh))
theorem go_astore_n {k4 : Fin 4} (i : Nat) {x : Nat} (loc' : List (Option Value)) (hdg : decode Y.2.1 pc = .ok (.astore_n k4, 1)) (hi : (k4 : Nat) = i) (hn : i < Y.2.2.1) (he : stl loc i (.ref x) = loc') (k : Go Y d kc ks n0 K cells slots (pc + 1) loc' st μ) : Go Y d kc ks n0 K cells slots pc loc (.ref x :: st) μ := by
  intro p l e s m args below meth c D cT ad ro sz H locs ls F w hS hL
  exact lv_astore_n F.1 F.2.1 hdg hi hL.has hn rfl (fun ls' hh => k p l e s m args below meth c D cT ad ro sz H locs ls' F w hS (Lc.st1 he hh))
theorem go_astore {i : Nat} {x : Nat} (loc' : List (Option Value)) (hdg : decode Y.2.1 pc = .ok (.astore i, 2)) (hn : i < Y.2.2.1) (he : stl loc i (.ref x) = loc') (k : Go Y d kc ks n0 K cells slots (pc + 2) loc' st μ) : Go Y d kc ks n0 K cells slots pc loc (.ref x :: st) μ := by
  intro p l e s m args below meth c D cT ad ro sz H locs ls F w hS hL
  exact lv_astore F.1 F.2.1 hdg hL.has hn rfl (fun ls' hh => k p l e s m args below meth c D cT ad ro sz H locs ls' F w hS (Lc.st1 he hh))
theorem go_iinc {i : Nat} {n : Int} {x : Int32} (v : Int32) (loc' : List (Option Value)) (hdg : decode Y.2.1 pc = .ok (.iinc i n, 3)) (hx : loc[i]? = some (some (.int x))) (hv : x + Int32.ofInt n = v) (hn : i < Y.2.2.1) (he : stl loc i (.int v) = loc') (k : Go Y d kc ks n0 K cells slots (pc + 3) loc' st μ) : Go Y d kc ks n0 K cells slots pc loc st μ := by
  intro p l e s m args below meth c D cT ad ro sz H locs ls F w hS hL
  obtain ⟨q, hq⟩ := List.getElem?_of_mem (prs_in (ad := ad) (ro := ro) (q := (i, .int x)) |>.mpr ⟨.int x, hx, rfl⟩)
  exact lv_iinc F.1 F.2.1 hdg hL.has hq hv hn rfl (fun ls' hh => k p l e s m args below meth c D cT ad ro sz H locs ls' F w hS (Lc.st1 he hh))
theorem go_dup {v : Value} (hdg : decode Y.2.1 pc = .ok (.dup, 1)) (hv : v.category = 1) (k : Go Y d kc ks n0 K cells slots (pc + 1) loc (v :: v :: st) μ) : Go Y d kc ks n0 K cells slots pc loc (v :: st) μ := by
  intro p l e s m args below meth c D cT ad ro sz H locs ls F w hS hL
  exact lv_dup F.1 F.2.1 hdg (by rw [rv_cat]; exact hv) (k p l e s m args below meth c D cT ad ro sz H locs ls F w hS hL)
theorem go_pop {v : Value} (hdg : decode Y.2.1 pc = .ok (.pop, 1)) (hv : v.category = 1) (k : Go Y d kc ks n0 K cells slots (pc + 1) loc (st) μ) : Go Y d kc ks n0 K cells slots pc loc (v :: st) μ := by
  intro p l e s m args below meth c D cT ad ro sz H locs ls F w hS hL
  exact lv_pop F.1 F.2.1 hdg (by rw [rv_cat]; exact hv) (k p l e s m args below meth c D cT ad ro sz H locs ls F w hS hL)
theorem go_dup_x1 {v u : Value} (hdg : decode Y.2.1 pc = .ok (.dup_x1, 1)) (hv : v.category = 1) (hu : u.category = 1) (k : Go Y d kc ks n0 K cells slots (pc + 1) loc (v :: u :: v :: st) μ) : Go Y d kc ks n0 K cells slots pc loc (v :: u :: st) μ := by
  intro p l e s m args below meth c D cT ad ro sz H locs ls F w hS hL
  exact lv_dup_x1 F.1 F.2.1 hdg (by rw [rv_cat]; exact hv) (by rw [rv_cat]; exact hu) (k p l e s m args below meth c D cT ad ro sz H locs ls F w hS hL)
theorem go_dup_x2 {v u t : Value} (hdg : decode Y.2.1 pc = .ok (.dup_x2, 1)) (hv : v.category = 1) (hu : u.category = 1) (ht : t.category = 1) (k : Go Y d kc ks n0 K cells slots (pc + 1) loc (v :: u :: t :: v :: st) μ) : Go Y d kc ks n0 K cells slots pc loc (v :: u :: t :: st) μ := by
  intro p l e s m args below meth c D cT ad ro sz H locs ls F w hS hL
  exact lv_dup_x2 F.1 F.2.1 hdg (by rw [rv_cat]; exact hv) (by rw [rv_cat]; exact hu) (by rw [rv_cat]; exact ht) (k p l e s m args below meth c D cT ad ro sz H locs ls F w hS hL)
theorem go_dup2 {v u : Value} (hdg : decode Y.2.1 pc = .ok (.dup2, 1)) (hv : v.category = 1) (hu : u.category = 1) (k : Go Y d kc ks n0 K cells slots (pc + 1) loc (v :: u :: v :: u :: st) μ) : Go Y d kc ks n0 K cells slots pc loc (v :: u :: st) μ := by
  intro p l e s m args below meth c D cT ad ro sz H locs ls F w hS hL
  exact lv_dup2_11 F.1 F.2.1 hdg (by rw [rv_cat]; exact hv) (by rw [rv_cat]; exact hu) (k p l e s m args below meth c D cT ad ro sz H locs ls F w hS hL)
theorem go_if_eq {x : Int32} {off : Int} (tgt : Nat) (hdg : decode Y.2.1 pc = .ok (.ifCond .eq off, 3)) (ht : (pc : Int) + off = (tgt : Int)) (kt : x = 0 → Go Y d kc ks n0 K cells slots tgt loc st μ) (kf : ¬ x = 0 → Go Y d kc ks n0 K cells slots (pc + 3) loc st μ) : Go Y d kc ks n0 K cells slots pc loc (.int x :: st) μ := by
  intro p l e s m args below meth c D cT ad ro sz H locs ls F w hS hL
  exact lv_if_eq F.1 F.2.1 hdg ht (fun h => kt h p l e s m args below meth c D cT ad ro sz H locs ls F w hS hL) (fun h => kf h p l e s m args below meth c D cT ad ro sz H locs ls F w hS hL)
theorem go_icmp_eq {x y : Int32} {off : Int} (tgt : Nat) (hdg : decode Y.2.1 pc = .ok (.if_icmp .eq off, 3)) (ht : (pc : Int) + off = (tgt : Int)) (kt : x = y → Go Y d kc ks n0 K cells slots tgt loc st μ) (kf : ¬ x = y → Go Y d kc ks n0 K cells slots (pc + 3) loc st μ) : Go Y d kc ks n0 K cells slots pc loc (.int y :: .int x :: st) μ := by
  intro p l e s m args below meth c D cT ad ro sz H locs ls F w hS hL
  exact lv_icmp_eq F.1 F.2.1 hdg ht (fun h => kt h p l e s m args below meth c D cT ad ro sz H locs ls F w hS hL) (fun h => kf h p l e s m args below meth c D cT ad ro sz H locs ls F w hS hL)
theorem go_if_ne {x : Int32} {off : Int} (tgt : Nat) (hdg : decode Y.2.1 pc = .ok (.ifCond .ne off, 3)) (ht : (pc : Int) + off = (tgt : Int)) (kt : ¬ x = 0 → Go Y d kc ks n0 K cells slots tgt loc st μ) (kf : x = 0 → Go Y d kc ks n0 K cells slots (pc + 3) loc st μ) : Go Y d kc ks n0 K cells slots pc loc (.int x :: st) μ := by
  intro p l e s m args below meth c D cT ad ro sz H locs ls F w hS hL
  exact lv_if_ne F.1 F.2.1 hdg ht (fun h => kt h p l e s m args below meth c D cT ad ro sz H locs ls F w hS hL) (fun h => kf h p l e s m args below meth c D cT ad ro sz H locs ls F w hS hL)
theorem go_icmp_ne {x y : Int32} {off : Int} (tgt : Nat) (hdg : decode Y.2.1 pc = .ok (.if_icmp .ne off, 3)) (ht : (pc : Int) + off = (tgt : Int)) (kt : ¬ x = y → Go Y d kc ks n0 K cells slots tgt loc st μ) (kf : x = y → Go Y d kc ks n0 K cells slots (pc + 3) loc st μ) : Go Y d kc ks n0 K cells slots pc loc (.int y :: .int x :: st) μ := by
  intro p l e s m args below meth c D cT ad ro sz H locs ls F w hS hL
  exact lv_icmp_ne F.1 F.2.1 hdg ht (fun h => kt h p l e s m args below meth c D cT ad ro sz H locs ls F w hS hL) (fun h => kf h p l e s m args below meth c D cT ad ro sz H locs ls F w hS hL)
theorem go_if_lt {x : Int32} {off : Int} (tgt : Nat) (hdg : decode Y.2.1 pc = .ok (.ifCond .lt off, 3)) (ht : (pc : Int) + off = (tgt : Int)) (kt : x < 0 → Go Y d kc ks n0 K cells slots tgt loc st μ) (kf : ¬ x < 0 → Go Y d kc ks n0 K cells slots (pc + 3) loc st μ) : Go Y d kc ks n0 K cells slots pc loc (.int x :: st) μ := by
  intro p l e s m args below meth c D cT ad ro sz H locs ls F w hS hL
  exact lv_if_lt F.1 F.2.1 hdg ht (fun h => kt h p l e s m args below meth c D cT ad ro sz H locs ls F w hS hL) (fun h => kf h p l e s m args below meth c D cT ad ro sz H locs ls F w hS hL)
theorem go_icmp_lt {x y : Int32} {off : Int} (tgt : Nat) (hdg : decode Y.2.1 pc = .ok (.if_icmp .lt off, 3)) (ht : (pc : Int) + off = (tgt : Int)) (kt : x < y → Go Y d kc ks n0 K cells slots tgt loc st μ) (kf : ¬ x < y → Go Y d kc ks n0 K cells slots (pc + 3) loc st μ) : Go Y d kc ks n0 K cells slots pc loc (.int y :: .int x :: st) μ := by
  intro p l e s m args below meth c D cT ad ro sz H locs ls F w hS hL
  exact lv_icmp_lt F.1 F.2.1 hdg ht (fun h => kt h p l e s m args below meth c D cT ad ro sz H locs ls F w hS hL) (fun h => kf h p l e s m args below meth c D cT ad ro sz H locs ls F w hS hL)
theorem go_if_ge {x : Int32} {off : Int} (tgt : Nat) (hdg : decode Y.2.1 pc = .ok (.ifCond .ge off, 3)) (ht : (pc : Int) + off = (tgt : Int)) (kt : 0 ≤ x → Go Y d kc ks n0 K cells slots tgt loc st μ) (kf : ¬ 0 ≤ x → Go Y d kc ks n0 K cells slots (pc + 3) loc st μ) : Go Y d kc ks n0 K cells slots pc loc (.int x :: st) μ := by
  intro p l e s m args below meth c D cT ad ro sz H locs ls F w hS hL
  exact lv_if_ge F.1 F.2.1 hdg ht (fun h => kt h p l e s m args below meth c D cT ad ro sz H locs ls F w hS hL) (fun h => kf h p l e s m args below meth c D cT ad ro sz H locs ls F w hS hL)
theorem go_icmp_ge {x y : Int32} {off : Int} (tgt : Nat) (hdg : decode Y.2.1 pc = .ok (.if_icmp .ge off, 3)) (ht : (pc : Int) + off = (tgt : Int)) (kt : y ≤ x → Go Y d kc ks n0 K cells slots tgt loc st μ) (kf : ¬ y ≤ x → Go Y d kc ks n0 K cells slots (pc + 3) loc st μ) : Go Y d kc ks n0 K cells slots pc loc (.int y :: .int x :: st) μ := by
  intro p l e s m args below meth c D cT ad ro sz H locs ls F w hS hL
  exact lv_icmp_ge F.1 F.2.1 hdg ht (fun h => kt h p l e s m args below meth c D cT ad ro sz H locs ls F w hS hL) (fun h => kf h p l e s m args below meth c D cT ad ro sz H locs ls F w hS hL)
theorem go_if_gt {x : Int32} {off : Int} (tgt : Nat) (hdg : decode Y.2.1 pc = .ok (.ifCond .gt off, 3)) (ht : (pc : Int) + off = (tgt : Int)) (kt : 0 < x → Go Y d kc ks n0 K cells slots tgt loc st μ) (kf : ¬ 0 < x → Go Y d kc ks n0 K cells slots (pc + 3) loc st μ) : Go Y d kc ks n0 K cells slots pc loc (.int x :: st) μ := by
  intro p l e s m args below meth c D cT ad ro sz H locs ls F w hS hL
  exact lv_if_gt F.1 F.2.1 hdg ht (fun h => kt h p l e s m args below meth c D cT ad ro sz H locs ls F w hS hL) (fun h => kf h p l e s m args below meth c D cT ad ro sz H locs ls F w hS hL)
theorem go_icmp_gt {x y : Int32} {off : Int} (tgt : Nat) (hdg : decode Y.2.1 pc = .ok (.if_icmp .gt off, 3)) (ht : (pc : Int) + off = (tgt : Int)) (kt : y < x → Go Y d kc ks n0 K cells slots tgt loc st μ) (kf : ¬ y < x → Go Y d kc ks n0 K cells slots (pc + 3) loc st μ) : Go Y d kc ks n0 K cells slots pc loc (.int y :: .int x :: st) μ := by
  intro p l e s m args below meth c D cT ad ro sz H locs ls F w hS hL
  exact lv_icmp_gt F.1 F.2.1 hdg ht (fun h => kt h p l e s m args below meth c D cT ad ro sz H locs ls F w hS hL) (fun h => kf h p l e s m args below meth c D cT ad ro sz H locs ls F w hS hL)
theorem go_if_le {x : Int32} {off : Int} (tgt : Nat) (hdg : decode Y.2.1 pc = .ok (.ifCond .le off, 3)) (ht : (pc : Int) + off = (tgt : Int)) (kt : x ≤ 0 → Go Y d kc ks n0 K cells slots tgt loc st μ) (kf : ¬ x ≤ 0 → Go Y d kc ks n0 K cells slots (pc + 3) loc st μ) : Go Y d kc ks n0 K cells slots pc loc (.int x :: st) μ := by
  intro p l e s m args below meth c D cT ad ro sz H locs ls F w hS hL
  exact lv_if_le F.1 F.2.1 hdg ht (fun h => kt h p l e s m args below meth c D cT ad ro sz H locs ls F w hS hL) (fun h => kf h p l e s m args below meth c D cT ad ro sz H locs ls F w hS hL)
theorem go_icmp_le {x y : Int32} {off : Int} (tgt : Nat) (hdg : decode Y.2.1 pc = .ok (.if_icmp .le off, 3)) (ht : (pc : Int) + off = (tgt : Int)) (kt : x ≤ y → Go Y d kc ks n0 K cells slots tgt loc st μ) (kf : ¬ x ≤ y → Go Y d kc ks n0 K cells slots (pc + 3) loc st μ) : Go Y d kc ks n0 K cells slots pc loc (.int y :: .int x :: st) μ := by
  intro p l e s m args below meth c D cT ad ro sz H locs ls F w hS hL
  exact lv_icmp_le F.1 F.2.1 hdg ht (fun h => kt h p l e s m args below meth c D cT ad ro sz H locs ls F w hS hL) (fun h => kf h p l e s m args below meth c D cT ad ro sz H locs ls F w hS hL)
theorem go_goto {off : Int} (tgt : Nat) (hdg : decode Y.2.1 pc = .ok (.goto off, 3)) (ht : (pc : Int) + off = (tgt : Int)) (k : Go Y d kc ks n0 K cells slots tgt loc st μ) : Go Y d kc ks n0 K cells slots pc loc st μ := by
  intro p l e s m args below meth c D cT ad ro sz H locs ls F w hS hL
  exact lv_goto F.1 F.2.1 hdg ht (k p l e s m args below meth c D cT ad ro sz H locs ls F w hS hL)
theorem go_lookup {dflt : Int} {ps : Array (Int × Int)} {len : Nat} {x : Int32} {off : Int} (tgt : Nat) (hdg : decode Y.2.1 pc = .ok (.lookupswitch dflt ps, len)) (hp : (ps.toList.zip (ps.toList.drop 1)).all (fun (a, next) => a.1 < next.1) = true) (ho : Op.lookupswitch.offset ps.toList dflt x.toInt = off) (ht : (pc : Int) + off = (tgt : Int)) (k : Go Y d kc ks n0 K cells slots tgt loc st μ) : Go Y d kc ks n0 K cells slots pc loc (.int x :: st) μ := by
  intro p l e s m args below meth c D cT ad ro sz H locs ls F w hS hL
  exact lv_lookup F.1 F.2.1 hdg hp ho ht (k p l e s m args below meth c D cT ad ro sz H locs ls F w hS hL)
theorem go_tableOut {dflt lo hi : Int} {offs : Array Int} {len : Nat} {x : Int32} (tgt : Nat) (hdg : decode Y.2.1 pc = .ok (.tableswitch dflt lo hi offs, len)) (h : x.toInt < lo ∨ hi < x.toInt) (ht : (pc : Int) + dflt = (tgt : Int)) (k : Go Y d kc ks n0 K cells slots tgt loc st μ) : Go Y d kc ks n0 K cells slots pc loc (.int x :: st) μ := by
  intro p l e s m args below meth c D cT ad ro sz H locs ls F w hS hL
  exact lv_tableOut F.1 F.2.1 hdg h ht (k p l e s m args below meth c D cT ad ro sz H locs ls F w hS hL)
theorem go_tableIn {dflt lo hi : Int} {offs : Array Int} {len : Nat} {x : Int32} {off : Int} (tgt : Nat) (hdg : decode Y.2.1 pc = .ok (.tableswitch dflt lo hi offs, len)) (h1 : ¬ x.toInt < lo) (h2 : ¬ hi < x.toInt) (ho : offs[(x.toInt - lo).toNat]? = some off) (ht : (pc : Int) + off = (tgt : Int)) (k : Go Y d kc ks n0 K cells slots tgt loc st μ) : Go Y d kc ks n0 K cells slots pc loc (.int x :: st) μ := by
  intro p l e s m args below meth c D cT ad ro sz H locs ls F w hS hL
  exact lv_tableIn F.1 F.2.1 hdg h1 h2 ho ht (k p l e s m args below meth c D cT ad ro sz H locs ls F w hS hL)
theorem go_iald {b n : Nat} {f : Nat → Int32} {i : Int32} (hdg : decode Y.2.1 pc = .ok (.iaload, 1)) (hm : μ[b]? = some (.inl (0, n, .inl f))) (hin : vp_in i n) (k : Go Y d kc ks n0 K cells slots (pc + 1) loc (.int (f i.toNatClampNeg) :: st) μ) : Go Y d kc ks n0 K cells slots pc loc (.int i :: .ref b :: st) μ := by
  intro p l e s m args below meth c D cT ad ro sz H locs ls F w hS hL
  exact va_iald F.1 F.2.1 F.2.2.2.2.2.2.2.2.1 w.1 b 0 (rW_at hm) rfl hin hdg (k p l e s m args below meth c D cT ad ro sz H locs ls F w hS hL)
theorem go_zald {b n : Nat} {f : Nat → Int32} {i : Int32} (hdg : decode Y.2.1 pc = .ok (.baload, 1)) (hm : μ[b]? = some (.inl (1, n, .inl f))) (hin : vp_in i n) (k : Go Y d kc ks n0 K cells slots (pc + 1) loc (.int (f i.toNatClampNeg) :: st) μ) : Go Y d kc ks n0 K cells slots pc loc (.int i :: .ref b :: st) μ := by
  intro p l e s m args below meth c D cT ad ro sz H locs ls F w hS hL
  exact va_zald F.1 F.2.1 F.2.2.2.2.2.2.2.2.1 w.1 b 1 (rW_at hm) rfl hin hdg (k p l e s m args below meth c D cT ad ro sz H locs ls F w hS hL)
theorem go_bald {b n : Nat} {f : Nat → Int32} {i : Int32} (hdg : decode Y.2.1 pc = .ok (.baload, 1)) (hm : μ[b]? = some (.inl (2, n, .inl f))) (hin : vp_in i n) (k : Go Y d kc ks n0 K cells slots (pc + 1) loc (.int (f i.toNatClampNeg) :: st) μ) : Go Y d kc ks n0 K cells slots pc loc (.int i :: .ref b :: st) μ := by
  intro p l e s m args below meth c D cT ad ro sz H locs ls F w hS hL
  exact va_bald F.1 F.2.1 F.2.2.2.2.2.2.2.2.1 w.1 b 2 (rW_at hm) rfl hin hdg (k p l e s m args below meth c D cT ad ro sz H locs ls F w hS hL)
theorem go_lald {b n : Nat} {f : Nat → Int64} {i : Int32} (hdg : decode Y.2.1 pc = .ok (.laload, 1)) (hm : μ[b]? = some (.inl (3, n, .inr (.inl f)))) (hin : vp_in i n) (k : Go Y d kc ks n0 K cells slots (pc + 1) loc (.long (f i.toNatClampNeg) :: st) μ) : Go Y d kc ks n0 K cells slots pc loc (.int i :: .ref b :: st) μ := by
  intro p l e s m args below meth c D cT ad ro sz H locs ls F w hS hL
  exact va_lald F.1 F.2.1 F.2.2.2.2.2.2.2.2.1 w.1 b 3 (rW_at hm) rfl hin hdg (k p l e s m args below meth c D cT ad ro sz H locs ls F w hS hL)
theorem go_alen {b t n : Nat} {x : (Nat → Int32) ⊕ (Nat → Int64) ⊕ (Nat → UInt32) ⊕ (Nat → UInt64) ⊕ (Nat → Option Nat)} (v : Int32) (hdg : decode Y.2.1 pc = .ok (.arraylength, 1)) (hm : μ[b]? = some (.inl (t, n, x))) {ty : FieldType} (ht : ∀ cT, (tysL cT)[t]? = some (cT t, ty)) (hv : Int32.ofNat n = v) (k : Go Y d kc ks n0 K cells slots (pc + 1) loc (.int v :: st) μ) : Go Y d kc ks n0 K cells slots pc loc (.ref b :: st) μ := by
  intro p l e s m args below meth c D cT ad ro sz H locs ls F w hS hL
  exact va_alen (ty := _) F.1 F.2.1 F.2.2.2.2.2.2.2.2.1 w.1 b t (rW_at hm) (ht cT) hv hdg (k p l e s m args below meth c D cT ad ro sz H locs ls F w hS hL)
theorem go_iast {b n : Nat} {f : Nat → Int32} {i x : Int32} (μ' : HL) (hdg : decode Y.2.1 pc = .ok (.iastore, 1)) (hm : μ[b]? = some (.inl (0, n, .inl f))) (hin : vp_in i n) (hu : μ.set b (.inl (0, n, .inl (upd f i.toNatClampNeg x))) = μ') (k : Go Y d kc ks n0 K cells slots (pc + 1) loc st μ') : Go Y d kc ks n0 K cells slots pc loc (.int x :: .int i :: .ref b :: st) μ := by
  subst hu
  intro p l e s m args below meth c D cT ad ro sz H locs ls F w hS hL
  exact va_iast F.1 F.2.1 F.2.2.2.2.2.2.2.2.1 w.1 (w.D F.2.2.2.2.2.2.2.2.2.2.1) hS.here b 0 (rW_at hm) rfl hin hdg (fun H1 locs1 hP _ hS1 => k p l e s m args below meth c D cT ad ro sz H1 locs1 ls F (w.set hP hS1.1) (hS.trans hS1) hL)
theorem go_zast {b n : Nat} {f : Nat → Int32} {i x : Int32} (μ' : HL) (hdg : decode Y.2.1 pc = .ok (.bastore, 1)) (hm : μ[b]? = some (.inl (1, n, .inl f))) (hin : vp_in i n) (hu : μ.set b (.inl (1, n, .inl (upd f i.toNatClampNeg (vp_nar .boolean x)))) = μ') (k : Go Y d kc ks n0 K cells slots (pc + 1) loc st μ') : Go Y d kc ks n0 K cells slots pc loc (.int x :: .int i :: .ref b :: st) μ := by
  subst hu
  intro p l e s m args below meth c D cT ad ro sz H locs ls F w hS hL
  exact va_zast F.1 F.2.1 F.2.2.2.2.2.2.2.2.1 w.1 (w.D F.2.2.2.2.2.2.2.2.2.2.1) hS.here b 1 (rW_at hm) rfl hin hdg (fun H1 locs1 hP _ hS1 => k p l e s m args below meth c D cT ad ro sz H1 locs1 ls F (w.set hP hS1.1) (hS.trans hS1) hL)
theorem go_bast {b n : Nat} {f : Nat → Int32} {i x : Int32} (μ' : HL) (hdg : decode Y.2.1 pc = .ok (.bastore, 1)) (hm : μ[b]? = some (.inl (2, n, .inl f))) (hin : vp_in i n) (hu : μ.set b (.inl (2, n, .inl (upd f i.toNatClampNeg (vp_nar .byte x)))) = μ') (k : Go Y d kc ks n0 K cells slots (pc + 1) loc st μ') : Go Y d kc ks n0 K cells slots pc loc (.int x :: .int i :: .ref b :: st) μ := by
  subst hu
  intro p l e s m args below meth c D cT ad ro sz H locs ls F w hS hL
  exact va_bast F.1 F.2.1 F.2.2.2.2.2.2.2.2.1 w.1 (w.D F.2.2.2.2.2.2.2.2.2.2.1) hS.here b 2 (rW_at hm) rfl hin hdg (fun H1 locs1 hP _ hS1 => k p l e s m args below meth c D cT ad ro sz H1 locs1 ls F (w.set hP hS1.1) (hS.trans hS1) hL)
theorem go_last {b n : Nat} {f : Nat → Int64} {i : Int32} {x : Int64} (μ' : HL) (hdg : decode Y.2.1 pc = .ok (.lastore, 1)) (hm : μ[b]? = some (.inl (3, n, .inr (.inl f)))) (hin : vp_in i n) (hu : μ.set b (.inl (3, n, .inr (.inl (vp_updL f i.toNatClampNeg x)))) = μ') (k : Go Y d kc ks n0 K cells slots (pc + 1) loc st μ') : Go Y d kc ks n0 K cells slots pc loc (.long x :: .int i :: .ref b :: st) μ := by
  subst hu
  intro p l e s m args below meth c D cT ad ro sz H locs ls F w hS hL
  exact va_last F.1 F.2.1 F.2.2.2.2.2.2.2.2.1 w.1 (w.D F.2.2.2.2.2.2.2.2.2.2.1) hS.here b 3 (rW_at hm) rfl hin hdg (fun H1 locs1 hP _ hS1 => k p l e s m args below meth c D cT ad ro sz H1 locs1 ls F (w.set hP hS1.1) (hS.trans hS1) hL)
/-- the classes' tables -/
theorem cls_ok : ∀ (ci : Nat) (C : String) (T : u_T) (N : Nat), vwCl[ci]? = some (C, T, N) → (∀ w ∈ u_ws C T N, w ∈ gtb) ∧ (∃ ty0 : Nat → FieldType, ∀ k, k < N → parseFieldDescriptor (T k).2.2.1 = some (ty0 k)) ∧ (∀ a, a < N → ∀ b, b < N → a ≠ b → (T a).2.1 ≠ (T b).2.1) := by
  intro ci C T N h
  match ci, h with
  | 0, h => cases h; exact ⟨by decide +kernel, ⟨tyX0, tyX0_ok⟩, nmX0⟩
  | 1, h => cases h; exact ⟨by decide +kernel, ⟨tyX1, tyX1_ok⟩, nmX1⟩
  | 2, h => cases h; exact ⟨by decide +kernel, ⟨tyX2, tyX2_ok⟩, nmX2⟩
  | 3, h => cases h; exact ⟨by decide +kernel, ⟨tyX3, tyX3_ok⟩, nmX3⟩
  | 4, h => cases h; exact ⟨by decide +kernel, ⟨tyX4, tyX4_ok⟩, nmX4⟩
  | 5, h => cases h; exact ⟨by decide +kernel, ⟨tyX5, tyX5_ok⟩, nmX5⟩
  | 6, h => cases h; exact ⟨by decide +kernel, ⟨tyX6, tyX6_ok⟩, nmX6⟩
  | 7, h => cases h; exact ⟨by decide +kernel, ⟨tyX7, tyX7_ok⟩, nmX7⟩
  | 8, h => cases h; exact ⟨by decide +kernel, ⟨tyX8, tyX8_ok⟩, nmX8⟩
  | 9, h => cases h; exact ⟨by decide +kernel, ⟨tyX9, tyX9_ok⟩, nmX9⟩
  | 10, h => cases h; exact ⟨by decide +kernel, ⟨tyX10, tyX10_ok⟩, nmX10⟩
  | 11, h => cases h; exact ⟨by decide +kernel, ⟨tyX11, tyX11_ok⟩, nmX11⟩
  | 12, h => cases h; exact ⟨by decide +kernel, ⟨tyX12, tyX12_ok⟩, nmX12⟩
  | n + 13, h => simp [vwCl] at h
def FL (own : String) (idx ci k : Nat) : Prop := ∃ (C : String) (T : u_T) (N : Nat), vwCl[ci]? = some (C, T, N) ∧ k < N ∧ Cond.fieldLink own idx (T k).1 (T k).2.1 (T k).2.2.1 ∈ gtb
def FT (ci k : Nat) (fin : Bool) (ty : FieldType) : Prop := ∀ (C : String) (T : u_T) (N : Nat), vwCl[ci]? = some (C, T, N) → (T k).2.2.2 = fin ∧ parseFieldDescriptor (T k).2.2.1 = some ty
theorem go_get {b ci k0 idx : Nat} {fs : List Value} (v : Value) (hf : FL Y.1.cls idx ci k0) (hdg : decode Y.2.1 pc = .ok (.getfield idx, 3)) (hm : μ[b]? = some (.inr (ci, fs))) (hv : fs[k0]? = some v) (k : Go Y d kc ks n0 K cells slots (pc + 3) loc (v :: st) μ) : Go Y d kc ks n0 K cells slots pc loc (.ref b :: st) μ := by
  intro p l e s m args below meth c D cT ad ro sz H locs ls F w hS hL
  obtain ⟨C, T, N, hc, hk, hl⟩ := hf
  exact va_get F.1 F.2.1 F.2.2.2.2.1 (cls_ok ci C T N hc).1 F.2.2.2.1 F.2.2.2.2.2.2.2.2.1 w.1 b (rW_at hm) hc k0 hk (F.2.2.2.2.1 _ hl) (fun _ h => h) (v := rv ad ro v) (by rw [List.getElem?_map, hv]; rfl) hdg (k p l e s m args below meth c D cT ad ro sz H locs ls F w hS hL)
def okv (ty : FieldType) (v : Value) : Prop := ∀ ad ro : Nat → Nat, narrow ty (rv ad ro v) = rv ad ro v ∧ fits ty (rv ad ro v) = true
theorem go_put {b ci k0 idx : Nat} {fs : List Value} {ty : FieldType} {v : Value} (μ' : HL) (hf : FL Y.1.cls idx ci k0) (hty : FT ci k0 false ty) (hok : okv ty v) (hdg : decode Y.2.1 pc = .ok (.putfield idx, 3)) (hm : μ[b]? = some (.inr (ci, fs))) (hl : k0 < fs.length) (hu : μ.set b (.inr (ci, fs.set k0 v)) = μ') (k : Go Y d kc ks n0 K cells slots (pc + 3) loc st μ') : Go Y d kc ks n0 K cells slots pc loc (v :: .ref b :: st) μ := by
  subst hu
  intro p l e s m args below meth c D cT ad ro sz H locs ls F w hS hL
  obtain ⟨C, T, N, hc, hk, hlk⟩ := hf
  obtain ⟨h1, ⟨ty0, h2⟩, h3⟩ := cls_ok ci C T N hc
  obtain ⟨g1, g2⟩ := hty C T N hc
  refine va_put F.1 F.2.1 F.2.2.2.2.1 h1 ty0 h2 h3 F.2.2.2.1 F.2.2.2.2.2.2.2.2.1 w.1 (w.D F.2.2.2.2.2.2.2.2.2.2.1) hS.here b (rW_at hm) hc k0 hk (F.2.2.2.2.1 _ hlk) (fun _ h => h) g1 g2 (hok ad ro).1 (hok ad ro).2 (by rw [List.length_map]; exact hl) hdg (fun H1 locs1 hP _ hS1 => k p l e s m args below meth c D cT ad ro sz H1 locs1 ls F (w.set ?_ hS1.1) (hS.trans hS1) hL)
  have e : rE cT ad ro (.inr (ci, fs.set k0 v)) = .inr (ci, (fs.map (rv ad ro)).set k0 (rv ad ro v)) := by simp only [rE, List.map_set]
  rw [e]
  exact hP
theorem go_putF {b ci k0 idx : Nat} {fs : List Value} {ty : FieldType} {v : Value} (μ' : HL) (hf : FL Y.1.cls idx ci k0) (hty : FT ci k0 true ty) (hin : Y.1.name = "<init>") (hdc : ∀ (C : String) (T : u_T) (N : Nat), vwCl[ci]? = some (C, T, N) → (T k0).1 = Y.1.cls) (hok : okv ty v) (hdg : decode Y.2.1 pc = .ok (.putfield idx, 3)) (hm : μ[b]? = some (.inr (ci, fs))) (hl : k0 < fs.length) (hu : μ.set b (.inr (ci, fs.set k0 v)) = μ') (k : Go Y d kc ks n0 K cells slots (pc + 3) loc st μ') : Go Y d kc ks n0 K cells slots pc loc (v :: .ref b :: st) μ := by
  subst hu
  intro p l e s m args below meth c D cT ad ro sz H locs ls F w hS hL
  obtain ⟨C, T, N, hc, hk, hlk⟩ := hf
  obtain ⟨h1, ⟨ty0, h2⟩, h3⟩ := cls_ok ci C T N hc
  obtain ⟨g1, g2⟩ := hty C T N hc
  refine va_putF F.1 F.2.1 F.2.2.2.2.1 h1 ty0 h2 h3 F.2.2.2.1 F.2.2.2.2.2.2.2.2.1 w.1 (w.D F.2.2.2.2.2.2.2.2.2.2.1) hS.here b (rW_at hm) hc k0 hk (F.2.2.2.2.1 _ hlk) (fun _ h => h) g1 (F.2.2.2.2.2.2.2.1.trans hin) (hdc C T N hc) g2 (hok ad ro).1 (hok ad ro).2 (by rw [List.length_map]; exact hl) hdg (fun H1 locs1 hP _ hS1 => k p l e s m args below meth c D cT ad ro sz H1 locs1 ls F (w.set ?_ hS1.1) (hS.trans hS1) hL)
  have e : rE cT ad ro (.inr (ci, fs.set k0 v)) = .inr (ci, (fs.map (rv ad ro)).set k0 (rv ad ro v)) := by simp only [rE, List.map_set]
  rw [e]
  exact hP
theorem okv_i (x : Int32) : okv .int (.int x) := fun _ _ => ⟨rfl, rfl⟩
theorem okv_l (x : Int64) : okv .long (.long x) := fun _ _ => ⟨rfl, rfl⟩
theorem okv_a (t : FieldType) (x : Nat) : okv (.array t) (.ref x) := fun _ _ => ⟨rfl, rfl⟩
theorem okv_o (C : String) (x : Nat) : okv (.object C) (.ref x) := fun _ _ => ⟨rfl, rfl⟩
theorem okv_z {x : Int32} (h : x = 0 ∨ x = 1) : okv .boolean (.int x) := by
  rcases h with rfl | rfl <;> exact fun _ _ => ⟨rfl, rfl⟩
/-- the ends -/
theorem go_iret {v : Int32} (hr : Y.2.2.2 = some .int) (hdg : decode Y.2.1 pc = .ok (.ireturn, 1)) (hs : slots ≤ ks) (k : K (some (.int v)) μ) : Go Y d kc ks n0 K kc slots pc loc [.int v] μ := by
  intro p l e s m args below meth c D cT ad ro sz H locs ls F w hS hL
  refine W.widen (k := kc) (n := ks) (Nat.le_refl _) hs ?_
  exact W.iret (v := v) F.1 F.2.1 (F.2.2.2.2.2.1.trans hr) (fun t ht hW => ⟨⟨some (.int v), μ, rfl, k, by rw [ht]; exact w⟩, hS.F ht⟩) hS.2.2 hdg F.2.2.2.2.2.2.1
theorem go_zret {v : Int32} (hr : Y.2.2.2 = some .boolean) (hv : v = 0 ∨ v = 1) (hdg : decode Y.2.1 pc = .ok (.ireturn, 1)) (hs : slots ≤ ks) (k : K (some (.int v)) μ) : Go Y d kc ks n0 K kc slots pc loc [.int v] μ := by
  intro p l e s m args below meth c D cT ad ro sz H locs ls F w hS hL
  refine W.widen (k := kc) (n := ks) (Nat.le_refl _) hs ?_
  exact W.zret (v := v) (ty := .boolean) F.1 F.2.1 (F.2.2.2.2.2.1.trans hr) (by rcases hv with rfl | rfl <;> rfl) (fun t ht hW => ⟨⟨some (.int v), μ, rfl, k, by rw [ht]; exact w⟩, hS.F ht⟩) hS.2.2 hdg F.2.2.2.2.2.2.1
theorem go_vret (hr : Y.2.2.2 = none) (hdg : decode Y.2.1 pc = .ok (.return_, 1)) (hs : slots ≤ ks) (k : K none μ) : Go Y d kc ks n0 K kc slots pc loc [] μ := by
  intro p l e s m args below meth c D cT ad ro sz H locs ls F w hS hL
  refine W.widen (k := kc) (n := ks) (Nat.le_refl _) hs ?_
  exact W.vret F.1 F.2.1 (F.2.2.2.2.2.1.trans hr) (fun t ht hW => ⟨⟨none, μ, rfl, k, by rw [ht]; exact w⟩, hS.F ht⟩) hS.2.2 hdg F.2.2.2.2.2.2.1
end ROWS
