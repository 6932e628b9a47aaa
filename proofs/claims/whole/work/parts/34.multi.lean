/-! int[n][k]: the outer row, the inner ones behind it -/
theorem outer_arr (c : ClassId) (N h0 : Nat) : ∀ i : Nat, Jvm.Free.Multi.outerC c N h0 i = arrV c N (fun j => va_rf (if j < i then some (h0 + 1 + j) else none))
  | 0 => by
    show ({ cls := c, slots := Array.replicate N .null, vm := .none } : Cell) = _
    rw [arrV_new]
    refine congrArg (arrV c N) (funext fun j => ?_)
    simp [va_rf]
  | i + 1 => by
    show (Jvm.Free.Multi.outerC c N h0 i).setSlot i (.ref (h0 + 1 + i)) = _
    rw [outer_arr c N h0 i, arrV_store]
    refine congrArg (arrV c N) (funext fun j => ?_)
    by_cases e : j = i
    · subst e
      simp [updV, va_rf]
    · by_cases h : j < i
      · simp [updV, e, h, Nat.lt_succ_of_lt h]
      · simp [updV, e, h, show ¬ j < i + 1 by omega]
theorem arrV_ext {c : ClassId} {N : Nat} {f g : Nat → Value} (h : ∀ j, j < N → f j = g j) : arrV c N f = arrV c N g := by
  unfold arrV
  congr 1
  congr 1
  funext j
  exact h j.val j.isLt
def qI (n base : Nat) : va_E := .inl (4, n, .inr (.inr (.inr (.inr (fun j => some (base + j))))))
theorem Wd_app {D : va_G} {cT : Nat → ClassId} {ad ro : Nat → Nat} {n0 sz cells : Nat} {μ es : HL} {H H' : Heap} (w : Wd D cT ad ro n0 sz cells μ H) (ha : An ad n0 sz) (hz : H.size = sz + cells) (hz1 : H'.size = H.size + es.length) (ho : ∀ q, q < H.size → H'[q]? = H[q]?) (hn : ∀ (j : Nat) (e : va_E), es[j]? = some e → va_at D vwCl (H.size + j, rE cT ad ro e) H') : Wd D cT ad ro n0 sz (cells + es.length) (μ ++ es) H' := by
  have hl := w.2.2.1
  have hq : ∀ j, ad (μ.length + j) = H.size + j := fun j => by rw [ha _ (by omega), hz]; omega
  refine ⟨fun k q hk => ?_, fun i j hi hj he => ?_, by simp; omega, by omega⟩
  · obtain ⟨e, he, rfl⟩ := rW_of hk
    by_cases hkl : k < μ.length
    · rw [List.getElem?_append_left hkl] at he
      have := w.1 k _ (rW_at he)
      exact this.kept (ho _ this.lt)
    · rw [List.getElem?_append_right (by omega)] at he
      have := hn _ _ he
      rw [← hq, show μ.length + (k - μ.length) = k by omega] at this
      exact this
  · rw [List.length_append] at hi hj
    have key : ∀ k, ¬ k < μ.length → ad k = sz + (k - n0) := fun k h => ha k (by omega)
    by_cases a1 : i < μ.length
    · by_cases b1 : j < μ.length
      · exact w.2.1 i j a1 b1 he
      · have := w.lt a1
        rw [he, key j b1] at this
        omega
    · by_cases b1 : j < μ.length
      · have := w.lt b1
        rw [← he, key i a1] at this
        omega
      · rw [key i a1, key j b1] at he
        omega
theorem go_mna {Y : MD} {d kc ks n0 : Nat} {K : Option Value → HL → Prop} {cells slots pc : Nat} {loc : List (Option Value)} {st : List Value} {μ : HL} {idx N' K' : Nat} {n k : Int32} (hcl : Cond.classLink Y.1.cls idx "[[I" ∈ gtb) (hac : Cond.arrayClass .int ∈ gtb) (hn : ¬ n < 0) (hk : ¬ k < 0) (hN : n.toNatClampNeg = N') (hM : k.toNatClampNeg = K') (hbd : N' ≤ 1000 ∧ K' ≤ 1000) (hcells : cells + (1 + N') ≤ kc) (hslots : slots + (N' + N' * K') ≤ ks) (hdg : decode Y.2.1 pc = .ok (.multianewarray idx 2, 4)) (m0 : Nat) (hm0 : μ.length = m0)
    (kk : Go Y d kc ks n0 K (cells + (1 + N')) (slots + (N' + N' * K')) (pc + 4) loc (.ref m0 :: st) (μ ++ (qI N' (m0 + 1) :: List.replicate N' (zI K')))) : Go Y d kc ks n0 K cells slots pc loc (.int k :: .int n :: st) μ := by
  subst hm0
  subst hN
  subst hM
  intro p l e s m args below meth c D cT ad ro sz H locs ls F w hS hL
  intro T hT X
  have hzu : H.size ≤ s.heap.size + cells := by rw [← hT]; exact X.same.2.2.1
  have hz : H.size = sz + cells := by have := w.2.2.2; have := F.2.2.2.2.2.2.2.2.2.1; omega
  have hK := F.2.2.2.2.2.2.2.2.1
  have hA : An ad n0 sz := F.2.2.2.2.2.2.2.2.2.2.1
  have hao : aoI s := F.2.2.2.2.2.2.2.2.2.2.2.2.2.2.2.2.2.2.2
  have hl2 : (Cond.classLink Y.1.cls idx ("[" ++ (FieldType.array .int).toString)).before args s = true := by
    have hs : "[" ++ (FieldType.array .int).toString = "[[I" := by decide
    rw [hs]
    exact F.2.2.2.2.1 _ hcl
  have hcs : componentBytes .int ≤ 8 := by decide
  obtain ⟨vm₁, cA, comp, -, fA, fC, -, -, X', step⟩ := X.multianewarray2F F.1 (ty := .int) F.2.2.2.1 hl2 hao (F.2.2.2.2.1 _ hac) (g := F0 m pc ls (.int k :: .int n :: st.map (rv ad ro))) rfl (by rw [F.2.1]; exact hdg) rfl hn hk (by omega) (Nat.le_trans (Nat.mul_le_mul hbd.2 hcs) (by decide)) (by omega) rfl rfl hcells hslots
  have ec1 : cA = cT 4 := Option.some.inj (fA.symm.trans (hK.2 4 _ rfl).2)
  have ec2 : comp = cT 0 := Option.some.inj (fC.symm.trans (hK.2 0 _ rfl).2)
  subst ec1
  subst ec2
  have hTh : (T.setVm vm₁).heap = H := hT
  generalize hF : Jvm.Free.Multi.fill (T.setVm vm₁) (cT 4) (cT 0) n.toNatClampNeg k.toNatClampNeg (defaultValue .int) n.toNatClampNeg = G at X' step
  obtain ⟨f1, f2, -, -⟩ := Jvm.Free.Multi.fill_facts (T.setVm vm₁) (cT 4) (cT 0) n.toNatClampNeg k.toNatClampNeg (defaultValue .int) n.toNatClampNeg
  rw [hF, hTh] at f1 f2
  have hold : ∀ x : Nat, x < H.size → G.heap[x]? = H[x]? := fun x hx => by
    have := Jvm.Free.Multi.fill_old (T.setVm vm₁) (cT 4) (cT 0) n.toNatClampNeg k.toNatClampNeg (defaultValue .int) (a := x) (by rw [hTh]; exact hx) n.toNatClampNeg
    rw [hF, hTh] at this
    exact this
  have hrow : ∀ j : Nat, j < n.toNatClampNeg → G.heap[H.size + 1 + j]? = some (arrV (cT 0) k.toNatClampNeg (fun _ => .int 0)) := fun j hj => by
    have := Jvm.Free.Multi.fill_inner (T.setVm vm₁) (cT 4) (cT 0) n.toNatClampNeg k.toNatClampNeg (defaultValue .int) n.toNatClampNeg j hj
    rw [hF, hTh] at this
    rw [this, ← arrV_new]
    rfl
  have w' := Wd_app (es := qI n.toNatClampNeg (μ.length + 1) :: List.replicate n.toNatClampNeg (zI k.toNatClampNeg)) (H' := G.heap) w hA hz (by rw [f1]; simp; omega) hold (fun j e' hj => by
    cases j with
    | zero =>
      cases hj
      show G.heap[H.size]? = some (arrV (cT 4) n.toNatClampNeg (fun j => va_rf (some (ad (μ.length + 1 + j)))))
      rw [f2, outer_arr]
      refine congrArg some (arrV_ext fun j hj => ?_)
      rw [if_pos hj, hA _ (by have := w.2.2.1; omega)]
      have := w.2.2.1
      rw [show H.size + 1 + j = sz + (μ.length + 1 + j - n0) by omega]
    | succ j =>
      have hj : (List.replicate n.toNatClampNeg (zI k.toNatClampNeg))[j]? = some e' := hj
      rw [List.getElem?_replicate] at hj
      split at hj
      · rename_i hlt
        cases hj
        show G.heap[H.size + (j + 1)]? = some (arrV (cT 0) k.toNatClampNeg (fun _ => .int 0))
        rw [show H.size + (j + 1) = H.size + 1 + j by omega]
        exact hrow j hlt
      · cases hj)
  have e1 : cells + (qI n.toNatClampNeg (μ.length + 1) :: List.replicate n.toNatClampNeg (zI k.toNatClampNeg)).length = cells + (1 + n.toNatClampNeg) := by simp; omega
  rw [e1] at w'
  have e2 : ad μ.length = H.size := by rw [hA _ (by have := w.2.2.1; omega), hz]; have := w.2.2.1; omega
  have hS' : va_S (Fr ad n0 sz) s.heap G.heap locs := ⟨Nat.le_trans hS.1 (by omega), fun x h1 h2 => (hold x (Nat.lt_of_lt_of_le h1 hS.1)).trans (hS.2.1 x h1 h2), hS.2.2⟩
  have X2 : Stand p l e (rmv d kc ks) s m args below meth c G locs (cells + (1 + n.toNatClampNeg)) (slots + (n.toNatClampNeg + n.toNatClampNeg * k.toNatClampNeg)) := by
    rw [← Nat.add_assoc, ← Nat.add_assoc]
    exact X'
  obtain ⟨t2, a1, b1⟩ := kk p l e s m args below meth c D cT ad ro sz G.heap locs ls F w' hS' hL G rfl X2
  refine ⟨t2, step t2 ?_, b1⟩
  have e3 : (rv ad ro (.ref μ.length)) = .ref T.heap.size := by
    show Value.ref (ad μ.length) = _
    rw [e2, hT]
  rw [List.map_cons, e3] at a1
  exact a1
