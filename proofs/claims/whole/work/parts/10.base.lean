/-! THE MINI HEAP: cells by their places; references are places; an array has a type's number instead of a class; .retAddr k stands for the k-th of the constants that nobody writes -/
/-- the tables' words that a call hands on -/
def gtb : List Cond := lw_tbl.filter goodWord
theorem gtb_in {w : Cond} (h : w ∈ lw_tbl) (g : goodWord w = true) : w ∈ gtb := List.mem_filter.mpr ⟨h, g⟩
theorem gtb_good : ∀ w ∈ gtb, goodWord w = true := fun _ h => (List.mem_filter.mp h).2
abbrev HL : Type := List va_E
abbrev MD : Type := MethodName × ByteArray × Nat × Option FieldType
def rv (ad ro : Nat → Nat) (v : Value) : Value := match v with
  | .ref i => .ref (ad i)
  | .retAddr k => .ref (ro k)
  | v => v
def rA (ad : Nat → Nat) (a : vp_A) : vp_A := (a.1, match a.2 with
  | .inl f => .inl f
  | .inr (.inl f) => .inr (.inl f)
  | .inr (.inr (.inl f)) => .inr (.inr (.inl f))
  | .inr (.inr (.inr (.inl f))) => .inr (.inr (.inr (.inl f)))
  | .inr (.inr (.inr (.inr f))) => .inr (.inr (.inr (.inr (fun j => (f j).map ad)))))
def rE (cT : Nat → ClassId) (ad ro : Nat → Nat) (e : va_E) : va_E := match e with
  | .inl a => .inl (cT a.1, rA ad a.2)
  | .inr o => .inr (o.1, o.2.map (rv ad ro))
def rW (cT : Nat → ClassId) (ad ro : Nat → Nat) (μ : HL) : va_W := μ.mapIdx (fun i e => (ad i, rE cT ad ro e))
def rn (em : Nat → Nat) (v : Value) : Value := match v with
  | .ref i => .ref (em i)
  | v => v
def rnE (em : Nat → Nat) (e : va_E) : va_E := match e with
  | .inl a => .inl (a.1, rA em a.2)
  | .inr o => .inr (o.1, o.2.map (rn em))
def em (is : List Nat) (n j : Nat) : Nat := match is[j]? with
  | some i => i
  | none => n + (j - is.length)
def mrg : List Nat → HL → HL → HL
  | i :: is, μ, e :: es => mrg is (μ.set i e) es
  | _, μ, es => μ ++ es
theorem rW_get {cT : Nat → ClassId} {ad ro : Nat → Nat} {μ : HL} {k : Nat} : (rW cT ad ro μ)[k]? = (μ[k]?).map (fun e => (ad k, rE cT ad ro e)) := by simp [rW]
theorem rW_at {cT : Nat → ClassId} {ad ro : Nat → Nat} {μ : HL} {k : Nat} {e : va_E} (h : μ[k]? = some e) : (rW cT ad ro μ)[k]? = some (ad k, rE cT ad ro e) := by rw [rW_get, h]; rfl
theorem rW_of {cT : Nat → ClassId} {ad ro : Nat → Nat} {μ : HL} {k : Nat} {q : Nat × va_E} (h : (rW cT ad ro μ)[k]? = some q) : ∃ e, μ[k]? = some e ∧ q = (ad k, rE cT ad ro e) := by
  rw [rW_get] at h
  cases hm : μ[k]? with
  | none => rw [hm] at h; cases h
  | some e => rw [hm] at h; exact ⟨e, rfl, (Option.some.inj h).symm⟩
theorem rW_len {cT : Nat → ClassId} {ad ro : Nat → Nat} {μ : HL} : (rW cT ad ro μ).length = μ.length := by simp [rW]
theorem rW_set {cT : Nat → ClassId} {ad ro : Nat → Nat} {μ : HL} {k : Nat} {e : va_E} : rW cT ad ro (μ.set k e) = (rW cT ad ro μ).set k (ad k, rE cT ad ro e) := by
  apply List.ext_getElem?
  intro j
  rw [rW_get, List.getElem?_set, List.getElem?_set, rW_len]
  by_cases hj : k = j
  · subst hj
    by_cases hl : k < μ.length
    · simp [hl]
    · simp [hl]
  · simp [hj, rW_get]
theorem rW_push {cT : Nat → ClassId} {ad ro : Nat → Nat} {μ : HL} {e : va_E} : rW cT ad ro (μ ++ [e]) = rW cT ad ro μ ++ [(ad μ.length, rE cT ad ro e)] := by
  simp [rW, List.mapIdx_append]
theorem rv_rn {ad ro em : Nat → Nat} (v : Value) : rv ad ro (rn em v) = rv (fun j => ad (em j)) ro v := by cases v <;> rfl
theorem rA_rn {ad em : Nat → Nat} (a : vp_A) : rA ad (rA em a) = rA (fun j => ad (em j)) a := by
  obtain ⟨n, x⟩ := a
  rcases x with f | f | f | f | f
  · rfl
  · rfl
  · rfl
  · rfl
  · simp only [rA]
    congr 5
    funext j
    cases f j <;> rfl
theorem rE_rn {cT : Nat → ClassId} {ad ro em : Nat → Nat} (e : va_E) : rE cT ad ro (rnE em e) = rE cT (fun j => ad (em j)) ro e := by
  rcases e with a | o
  · simp only [rnE, rE, rA_rn]
  · simp only [rnE, rE, List.map_map]
    congr 2
    apply List.map_congr_left
    intro v _
    exact rv_rn v
def tysL (cT : Nat → ClassId) : List (ClassId × FieldType) := [(cT 0, .int), (cT 1, .boolean), (cT 2, .byte), (cT 3, .long), (cT 4, .array .int)]
def Fr (ad : Nat → Nat) (n0 sz : Nat) : Nat → Prop := fun q => (∃ j, j < n0 ∧ ad j = q) ∨ sz ≤ q
def An (ad : Nat → Nat) (n0 sz : Nat) : Prop := ∀ j, n0 ≤ j → ad j = sz + (j - n0)
/-- the constants: the weights' row, two texts, three statics -/
def romW : Nat → Int32 := fun j => ([2401, 343, 49, 7, 1] : List Int32).getD j 0
def romT1 : List Int32 := [104, 101, 97, 118, 121, 32, 109, 97, 110, 121, 32, 119, 97, 114, 109, 32, 100, 101, 110, 116, 32, 115, 116, 114, 111, 110, 103, 32, 100, 97, 121, 32, 111, 114, 32, 97, 110, 100, 32, 110, 111, 116, 32, 104, 101, 97, 114, 116, 104, 32, 97, 116, 32, 114, 111, 111, 109, 32, 115, 116, 111, 111, 108, 32, 99, 114, 101, 101, 100, 32, 98, 101, 97, 114, 115, 32, 119, 101, 97, 114, 115, 32, 115, 97, 118, 101, 115, 32, 99, 111, 108, 100, 32, 100, 114, 97, 119, 32]
def romT2 : List Int32 := [59, 40, 41, 60, 62, 61, 43, 45, 42, 47, 37]
/-- int[][] can be made -/
def aoI (U : State) : Prop := (Cond.arrayOver (.array .int)).before #[] U = true
theorem aoI_is {s : State} (h : aoI s) : ∃ (comp c : Nat) (k : Class), s.vm.findClass (FieldType.array .int).toString = some comp ∧ (s.vm.classes.findIdx? fun (x : Class) => match x.kind with | .array component _ => component == comp | _ => false) = some c ∧ s.vm.classes[c]? = some k ∧ (∃ a, k.kind = .array a (.array .int)) ∧ s.vm.findClass ("[" ++ (FieldType.array .int).toString) = some c := by
  unfold aoI Cond.before at h
  simp only [Cond.holds, Cond.value, beq_iff_eq] at h
  obtain ⟨comp, hc, h⟩ := Option.bind_eq_some_iff.mp h
  obtain ⟨c, hi, h⟩ := Option.bind_eq_some_iff.mp h
  obtain ⟨k, hk, hb⟩ := Option.map_eq_some_iff.mp h
  refine ⟨comp, c, k, hc, hi, hk, ?_⟩
  cases e : k.kind with
  | array a ty =>
    rw [e] at hb
    simp at hb
    exact ⟨⟨a, by rw [hb.1]⟩, hb.2⟩
  | _ => rw [e] at hb; simp at hb
theorem aoI_alike {u U : State} (hvm : u.vm.Alike U.vm) (h : aoI u) : aoI U := by
  obtain ⟨comp, c, k, h1, h2, h3, ⟨a, h4⟩, h5⟩ := aoI_is h
  obtain ⟨k', hk', he⟩ := hvm.2.2 _ _ h3
  have hi : (U.vm.classes.findIdx? fun (x : Class) => match x.kind with | .array component _ => component == comp | _ => false) = some c := by
    have e1 := va_idx_bare U.vm comp
    have e2 := va_idx_bare u.vm comp
    have e3 : U.vm.bare = u.vm.bare := by first | exact hvm.bare_eq | exact hvm.bare_eq.symm
    rw [e3] at e1
    exact (e1.symm.trans e2).trans h2
  have hkind : k'.kind = .array a (.array .int) := by rw [he]; exact h4
  have f1 : U.vm.findClass (FieldType.array .int).toString = some comp := by rw [hvm.findClass]; exact h1
  have f2 : U.vm.findClass ("[" ++ (FieldType.array .int).toString) = some c := by rw [hvm.findClass]; exact h5
  unfold aoI Cond.before
  simp only [Cond.holds, Cond.value, beq_iff_eq]
  refine Option.bind_eq_some_iff.mpr ⟨comp, f1, Option.bind_eq_some_iff.mpr ⟨c, hi, Option.map_eq_some_iff.mpr ⟨k', hk', ?_⟩⟩⟩
  rw [hkind]
  simp [f2]
/-- the calls of a nest mate's private methods -/
def nst : List (String × Nat × MethodName × String) := [(RX11, 9, yX7_init, "FaithfulStools"), (RX7, 9, yX2_init, "FaithfulStools"), (RX5, 11, yX10_init, "FaithfulStools"), (RX11, 29, yX0_init, "FaithfulStools"), (RX0, 38, yX1_init, "FaithfulStools"), (RX11, 39, yX9_init, "FaithfulStools"), (RX11, 49, yX4_init, "FaithfulStools"), (RX11, 64, yX8_init, "FaithfulStools"), (RX11, 71, yX3_init, "FaithfulStools"), (RX11, 78, yX6_init, "FaithfulStools"), (RX6, 59, yX9_init, "FaithfulStools"), (RX7, 139, yX2_either, "FaithfulStools")]
def Rom (ro : Nat → Nat) (A : Nat → Prop) (U : State) : Prop :=
  va_Z "FaithfulStools$Sendings" "WEIGHTS" "[I" (.ref (ro 0)) A U U.heap ∧ va_T .int (ro 0) 5 (fun j => .int (romW j)) A U U.heap ∧
  vk_R "FaithfulStools$Lexer" 45 "heavy many warm dent strong day or and not hearth at room stool creed bears wears saves cold draw " (ro 1) U ∧ vk_R "FaithfulStools$Lexer" 75 ";()<>=+-*/%" (ro 2) U ∧
  vk_S 2 [98, 11] [romT1, romT2] (fun i => ro (1 + i)) (fun i => ro (3 + i)) A U U.heap ∧
  va_Z "java/lang/String" "COMPACT_STRINGS" "Z" (.int 1) A U U.heap ∧ (va_Z "jdk/internal/util/Preconditions" "SIOOBE_FORMATTER" "Ljava/util/function/BiFunction;" .null A U U.heap ∨ va_Z "jdk/internal/util/Preconditions" "SIOOBE_FORMATTER" "Ljava/util/function/BiFunction;" (.ref (ro 5)) A U U.heap) ∧ (∀ q ∈ nst, va_Nw (.methodLinkNest q.1 q.2.1 q.2.2.1 q.2.2.2) U) ∧ aoI U
theorem Rom.blind {ro : Nat → Nat} {A : Nat → Prop} {U : State} {g : JFrame} {mk : MethodId} {a : Array Value} (h : Rom ro A U) : Rom ro A (U.calling g mk a) := by
  obtain ⟨h1, h2, h3, h4, h5, h6, h7, h8, h9⟩ := h
  exact ⟨va_Z.moved (U := U.calling g mk a) (Vm.Alike.refl U.vm) h1, va_T.moved (U := U.calling g mk a) (Vm.Alike.refl U.vm) h2, vk_R.same rfl h3, vk_R.same rfl h4, vk_S.moved (U := U.calling g mk a) (Vm.Alike.refl U.vm) h5, va_Z.moved (U := U.calling g mk a) (Vm.Alike.refl U.vm) h6, h7.imp (va_Z.moved (U := U.calling g mk a) (Vm.Alike.refl U.vm)) (va_Z.moved (U := U.calling g mk a) (Vm.Alike.refl U.vm)), fun q hq => va_Nw.same rfl rfl (h8 q hq), aoI_alike (U := U.calling g mk a) (Vm.Alike.refl U.vm) h9⟩
theorem Rom.down {ro : Nat → Nat} {A B : Nat → Prop} {s U : State} {H : Heap} {locs : List Loc} (h : Rom ro A s) (hS : va_S A s.heap H locs) (hH : U.heap = H) (hW : s.WarmedH U.vm) (hAB : ∀ q, B q → A q) : Rom ro B U := by
  subst hH
  obtain ⟨h1, h2, h3, h4, h5, h6, h7, h8, h9⟩ := h
  exact ⟨((h1.kept hS.2.1).moved hW.alike).narrow hAB, ((h2.kept hS.2.1).moved hW.alike).narrow hAB, h3.warm hW, h4.warm hW, ((h5.kept hS.2.1).moved hW.alike).narrow hAB, ((h6.kept hS.2.1).moved hW.alike).narrow hAB, h7.imp (fun h => ((h.kept hS.2.1).moved hW.alike).narrow hAB) (fun h => ((h.kept hS.2.1).moved hW.alike).narrow hAB), fun q hq => va_Nw.warmM hW (h8 q hq), aoI_alike hW.alike h9⟩
/-- the heap H holds μ: at the addresses ad, which are apart; 'cells' of them were made since the start, behind the first n0 -/
def Wd (D : va_G) (cT : Nat → ClassId) (ad ro : Nat → Nat) (n0 sz cells : Nat) (μ : HL) (H : Heap) : Prop :=
  va_P D vwCl (rW cT ad ro μ) H ∧ (∀ i j, i < μ.length → j < μ.length → ad i = ad j → i = j) ∧ μ.length = n0 + cells ∧ sz + cells ≤ H.size
theorem Fr_at {ad : Nat → Nat} {n0 sz k : Nat} (ha : An ad n0 sz) : Fr ad n0 sz (ad k) := by
  by_cases h : k < n0
  · exact Or.inl ⟨k, h, rfl⟩
  · exact Or.inr (by rw [ha k (by omega)]; omega)
theorem Wd.D {D : va_G} {cT : Nat → ClassId} {ad ro : Nat → Nat} {n0 sz cells : Nat} {μ : HL} {H : Heap} (h : Wd D cT ad ro n0 sz cells μ H) (ha : An ad n0 sz) : va_D (Fr ad n0 sz) (rW cT ad ro μ) := by
  refine ⟨fun i j p q hp hq e => ?_, fun k q hk => ?_⟩
  · obtain ⟨e1, m1, rfl⟩ := rW_of hp
    obtain ⟨e2, m2, rfl⟩ := rW_of hq
    exact h.2.1 i j (List.getElem?_eq_some_iff.mp m1).1 (List.getElem?_eq_some_iff.mp m2).1 e
  · obtain ⟨e1, m1, rfl⟩ := rW_of hk
    exact Fr_at ha
theorem Wd.lt {D : va_G} {cT : Nat → ClassId} {ad ro : Nat → Nat} {n0 sz cells : Nat} {μ : HL} {H : Heap} (h : Wd D cT ad ro n0 sz cells μ H) {k : Nat} (hk : k < μ.length) : ad k < H.size :=
  (h.1 k _ (rW_at (List.getElem?_eq_getElem hk))).lt
theorem Wd.set {D : va_G} {cT : Nat → ClassId} {ad ro : Nat → Nat} {n0 sz cells b : Nat} {e : va_E} {μ : HL} {H H1 : Heap} (h : Wd D cT ad ro n0 sz cells μ H) (hP : va_P D vwCl ((rW cT ad ro μ).set b (ad b, rE cT ad ro e)) H1) (hz : H.size ≤ H1.size) : Wd D cT ad ro n0 sz cells (μ.set b e) H1 :=
  ⟨by rw [rW_set]; exact hP, fun i j hi hj => by rw [List.length_set] at hi hj; exact h.2.1 i j hi hj, by rw [List.length_set]; exact h.2.2.1, Nat.le_trans h.2.2.2 hz⟩
theorem va_S.here {A : Nat → Prop} {H0 H : Heap} {locs : List Loc} (h : va_S A H0 H locs) : va_S A H H locs := ⟨Nat.le_refl _, fun _ _ _ => rfl, h.2.2⟩
theorem va_S.trans {A : Nat → Prop} {H0 H H1 : Heap} {locs locs1 : List Loc} (h : va_S A H0 H locs) (h2 : va_S A H H1 locs1) : va_S A H0 H1 locs1 := ⟨Nat.le_trans h.1 h2.1, fun q a b => (h2.2.1 q (Nat.lt_of_lt_of_le a h.1) b).trans (h.2.1 q a b), h2.2.2⟩
def rmv (d kc ks : Nat) : Room := { frames := d, cells := kc, slots := ks, locals := 40 * d }
/-- what is fixed within one run of a method's body -/
def Fx (Y : MD) (p : Program) (s : State) (m : MethodId) (args : Array Value) (meth : Method) (c : Code) (D : va_G) (cT : Nat → ClassId) (ad ro : Nat → Nat) (n0 sz : Nat) : Prop :=
  p.tables.exec = Jvm.exec ∧ c.code = Y.2.1 ∧ c.maxLocals = Y.2.2.1 ∧ s.vm.findClass Y.1.cls = some m.cls ∧ (∀ w ∈ gtb, w.before args s = true) ∧ meth.sig.returnType = Y.2.2.2 ∧ meth.locks = false ∧ meth.name = Y.1.name ∧ va_K D vwCl (tysL cT) s ∧ s.heap.size = sz ∧ An ad n0 sz ∧ Rom ro (Fr ad n0 sz) s
def Lc (ad ro : Nat → Nat) (nL : Nat) (loc : List (Option Value)) (ls : Array Slot) : Prop := ls.size = nL ∧ lv_wf ls ∧ ∀ (i : Nat) (v : Value), loc[i]? = some (some v) → ls[i]? = some (.val (rv ad ro v))
def Qm (D : va_G) (cT : Nat → ClassId) (ad ro : Nat → Nat) (n0 sz kc : Nat) (K : Option Value → HL → Prop) : Array Value → State → Outcome → State → Prop := fun _ st oc t =>
  (∃ (v : Option Value) (μ' : HL), oc = .returned (v.map (rv ad ro)) ∧ K v μ' ∧ Wd D cT ad ro n0 sz kc μ' t.heap) ∧ va_F (Fr ad n0 sz) st t
/-- the body of Y comes from pc, with these locals, this stack, this heap, to an end with K -/
def Go (Y : MD) (d kc ks n0 : Nat) (K : Option Value → HL → Prop) (cells slots pc : Nat) (loc : List (Option Value)) (st : List Value) (μ : HL) : Prop :=
  ∀ (p : Program) (l : Launch) (e : Env) (s : State) (m : MethodId) (args : Array Value) (below : List Frame) (meth : Method) (c : Code) (D : va_G) (cT : Nat → ClassId) (ad ro : Nat → Nat) (sz : Nat) (H : Heap) (locs : List Loc) (ls : Array Slot),
    Fx Y p s m args meth c D cT ad ro n0 sz → Wd D cT ad ro n0 sz cells μ H → va_S (Fr ad n0 sz) s.heap H locs → Lc ad ro Y.2.2.1 loc ls →
    W p l e (rmv d kc ks) s m args below meth c H locs cells slots (MQ below (Qm D cT ad ro n0 sz kc K) args s kc ks (Fr ad n0 sz)) (F0 m pc ls (st.map (rv ad ro)))
def WS (Y : MD) : List Cond := Cond.code Y.1 Y.2.1 Y.2.2.1 Y.2.2.2 :: gtb
def PreU (D : va_G) (cT : Nat → ClassId) (ad ro : Nat → Nat) (sz : Nat) (μ : HL) (U : State) : Prop :=
  va_K D vwCl (tysL cT) U ∧ U.heap.size = sz ∧ An ad μ.length sz ∧ Rom ro (Fr ad μ.length sz) U ∧ Wd D cT ad ro μ.length sz 0 μ U.heap
/-- the method Y: with the arguments av and the heap μ it comes to an end with K; at most d frames and 40 d words more, just kc cells, at most ks slots -/
def Tri (Y : MD) (d kc ks : Nat) (av : List Value) (μ : HL) (K : Option Value → HL → Prop) : Prop :=
  ∀ (l : Launch) (D : va_G) (cT : Nat → ClassId) (ad ro : Nat → Nat) (sz : Nat), Met l Y.1 (WS Y) (rmv d kc ks) (va_Pc (av.map (rv ad ro)) (PreU D cT ad ro sz μ)) (Qm D cT ad ro μ.length sz kc K) kc ks (Fr ad μ.length sz)
def lc0 : List Value → List (Option Value)
  | [] => []
  | .long v :: vs => some (.long v) :: none :: lc0 vs
  | .double v :: vs => some (.double v) :: none :: lc0 vs
  | v :: vs => some v :: lc0 vs
theorem rv_cat {ad ro : Nat → Nat} (v : Value) : (rv ad ro v).category = v.category := by cases v <;> rfl
theorem lc0_in {ad ro : Nat → Nat} : ∀ (vs : List Value) (b i : Nat) (v : Value), (lc0 vs)[i]? = some (some v) → (b + i, rv ad ro v) ∈ lv_args b (vs.map (rv ad ro))
  | [], b, i, v, h => by simp [lc0] at h
  | w :: vs, b, i, v, h => by
    have two : ∀ (hw : w.category = 2), lc0 (w :: vs) = some w :: none :: lc0 vs := by
      intro hw
      cases w <;> first | rfl | (simp [Value.category] at hw)
    have one : ∀ (hw : w.category = 1), lc0 (w :: vs) = some w :: lc0 vs := by
      intro hw
      cases w <;> first | rfl | (simp [Value.category] at hw)
    show (b + i, rv ad ro v) ∈ (b, rv ad ro w) :: lv_args (if (rv ad ro w).category = 2 then b + 2 else b + 1) (vs.map (rv ad ro))
    rw [rv_cat]
    rcases lv_cat w with hw | hw
    · rw [one hw] at h
      rw [if_neg (by omega)]
      cases i with
      | zero => simp at h; subst h; exact List.mem_cons_self
      | succ i =>
        simp at h
        have := lc0_in (ad := ad) (ro := ro) vs (b + 1) i v h
        rw [show b + (i + 1) = b + 1 + i by omega]
        exact List.mem_cons_of_mem _ this
    · rw [two hw] at h
      rw [if_pos hw]
      match i, h with
      | 0, h => simp at h; subst h; exact List.mem_cons_self
      | 1, h => simp at h
      | i + 2, h =>
        simp at h
        have := lc0_in (ad := ad) (ro := ro) vs (b + 2) i v h
        rw [show b + (i + 2) = b + 2 + i by omega]
        exact List.mem_cons_of_mem _ this
theorem lg_len {ad ro : Nat → Nat} : ∀ vs : List Value, (lg_sl (vs.map (rv ad ro))).length = (lc0 vs).length
  | [] => rfl
  | w :: vs => by
    have ih := lg_len (ad := ad) (ro := ro) vs
    unfold lg_sl at ih ⊢
    rw [List.map_cons, List.flatMap_cons, List.length_append, ih]
    cases w <;> simp [rv, Value.category, lc0] <;> omega
/-- the entry -/
theorem tri_of {Y : MD} {d kc ks : Nat} {av : List Value} {μ : HL} {K : Option Value → HL → Prop} (loc : List (Option Value)) (hy : plainFor Y.1 = true) (hl : lc0 av ++ List.replicate (Y.2.2.1 - (lc0 av).length) none = loc) (hn : (lc0 av).length ≤ Y.2.2.1)
    (k : Go Y d kc ks μ.length K 0 0 0 loc [] μ) : Tri Y d kc ks av μ K := by
  intro l D cT ad ro sz
  refine va_MetF (cc := Y.2.1) (maxL := Y.2.2.1) (ret := Y.2.2.2) hy rfl ?_
  intro p e s m args below meth c s₁ B hml hv
  obtain ⟨rfl, hK, hsz, hA, hR, hw⟩ := hv
  have hts := atoms_spec (ws := WS Y) B.pre
  have hown : s.vm.findClass Y.1.cls = some m.cls := findClass_of_methodNamed B.named
  have hnm : meth.name = Y.1.name := (name_of_methodNamed B.named B.method).1
  have he := lv_entry (av.map (rv ad ro)) (n := Y.2.2.1) (by rw [lg_len]; exact hn)
  rw [lg_entry_eq]
  refine k p l e s m _ below meth c D cT ad ro sz s.heap [] _ ⟨B.exec, B.bytes, hml, hown, fun w hw => hts w (List.mem_cons_of_mem _ hw), B.returns, B.notSynchronized, hnm, hK, hsz, hA, hR⟩ hw va_S.rf ⟨he.1, he.2.1, fun i v hi => ?_⟩
  refine he.2.2 (i, rv ad ro v) ?_
  rw [← hl] at hi
  by_cases hj : i < (lc0 av).length
  · rw [List.getElem?_append_left hj] at hi
    have := lc0_in (ad := ad) (ro := ro) av 0 i v hi
    rw [Nat.zero_add] at this
    exact this
  · rw [List.getElem?_append_right (by omega), List.getElem?_replicate] at hi
    split at hi <;> cases hi
