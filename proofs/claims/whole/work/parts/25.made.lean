/-! MAKING: new, newarray -/
section MADE
variable {Y : MD} {d kc ks n0 : Nat} {K : Option Value → HL → Prop} {cells slots pc : Nat} {loc : List (Option Value)} {st : List Value} {μ : HL}
theorem Wd_push {D : va_G} {cT : Nat → ClassId} {ad ro : Nat → Nat} {n0 sz cells : Nat} {μ : HL} {H H' : Heap} {e : va_E} (w : Wd D cT ad ro n0 sz cells μ H) (ha : An ad n0 sz) (hz : H.size = sz + cells) (hz1 : H'.size = H.size + 1) (ho : ∀ q, q < H.size → H'[q]? = H[q]?) (hn : va_at D vwCl (H.size, rE cT ad ro e) H') : Wd D cT ad ro n0 sz (cells + 1) (μ ++ [e]) H' ∧ ad μ.length = H.size := by
  have hl := w.2.2.1
  have hq : ad μ.length = H.size := by rw [ha _ (by omega), hz]; omega
  refine ⟨⟨?_, fun i j hi hj he => ?_, by simp; omega, by omega⟩, hq⟩
  · rw [rW_push]
    refine va_P.app (fun k q hk => ?_) (fun k q hk => ?_)
    · exact (w.1 k q hk).kept (ho q.1 ((w.1 k q hk).lt))
    · have hk0 : k < 1 := (List.getElem?_eq_some_iff.mp hk).1
      have hk0 : k = 0 := by omega
      subst hk0
      cases hk
      show va_at D vwCl (ad μ.length, _) H'
      rw [hq]
      exact hn
  · simp only [List.length_append, List.length_cons, List.length_nil] at hi hj
    by_cases a1 : i < μ.length
    · by_cases b1 : j < μ.length
      · exact w.2.1 i j a1 b1 he
      · have e1 : j = μ.length := by omega
        subst e1
        have := w.lt a1
        rw [he, hq] at this
        omega
    · have e1 : i = μ.length := by omega
      subst e1
      by_cases b1 : j < μ.length
      · have := w.lt b1
        rw [← he, hq] at this
        omega
      · omega
def dfl : Nat → Value | 0 => .int 0 | 1 => .long 0 | _ => .null
theorem go_new {idx ci N : Nat} {C : String} {T : u_T} (hcl : Cond.classLink Y.1.cls idx C ∈ gtb) (hinst : Cond.instantiable C N ∈ gtb) (hini : Cond.initialized C ∈ gtb) (hc : vwCl[ci]? = some (C, T, N)) (ty : Nat → FieldType) (hty : ∀ k, k < N → parseFieldDescriptor (T k).2.2.1 = some (ty k)) (fs : List Value) (hfs : ∀ j, j < N → defaultValue (ty j) = vp_V fs j) (hfn : ∀ ad ro : Nat → Nat, fs.map (rv ad ro) = fs) (hcells : cells + 1 ≤ kc) (hslots : slots + N ≤ ks) (hdg : decode Y.2.1 pc = .ok (.new idx, 3)) (n : Nat) (hn : μ.length = n)
    (k : Go Y d kc ks n0 K (cells + 1) (slots + N) (pc + 3) loc (.ref n :: st) (μ ++ [.inr (ci, fs)])) : Go Y d kc ks n0 K cells slots pc loc st μ := by
  subst hn
  intro p l e s m args below meth c D cT ad ro sz H locs ls F w hS hL
  refine W_sz fun hzu => ?_
  have hz : H.size = sz + cells := by have := w.2.2.2; have := F.2.2.2.2.2.2.2.2.2.1; omega
  have hK := F.2.2.2.2.2.2.2.2.1
  have hKn := hK.1 ci _ hc
  refine W.newcK F.1 F.2.1 F.2.2.2.1 (F.2.2.2.2.1 _ hcl) (F.2.2.2.2.1 _ hinst) (F.2.2.2.2.1 _ hini) rfl hdg hcells hslots hKn.2.1 rfl fun H1 kC hkC e1 z1 o1 => ?_
  have hat : va_at D vwCl (H.size, rE cT ad ro (.inr (ci, fs))) H1 := by
    refine ⟨_, hc, ?_⟩
    show t_OB H.size (D.1 ci) N (D.2 ci) H1 (vp_V (fs.map (rv ad ro)))
    rw [hfn]
    exact (u_born ty F.2.2.2.2.1 (cls_ok ci C T N hc).1 hKn hkC e1 hty).to hfs
  obtain ⟨w', hq⟩ := Wd_push w F.2.2.2.2.2.2.2.2.2.2.1 hz z1 o1 hat
  have := k p l e s m args below meth c D cT ad ro sz H1 locs ls F w' ⟨Nat.le_trans hS.1 (by omega), fun x h1 h2 => (o1 x (Nat.lt_of_lt_of_le h1 hS.1)).trans (hS.2.1 x h1 h2), hS.2.2⟩ hL
  rw [← hq]
  exact this
theorem go_newa {atype : ArrayType} {t : Nat} {ty : FieldType} {n : Int32} {N' : Nat} {x : (Nat → Int32) ⊕ (Nat → Int64) ⊕ (Nat → UInt32) ⊕ (Nat → UInt64) ⊕ (Nat → Option Nat)} (harr : Cond.arrayClass ty ∈ gtb) (hty : newarray.typeOf atype = ty) (ht : ∀ cT, (tysL cT)[t]? = some (cT t, ty)) (hro : ty ≠ .object "" ∧ (∀ C, ty ≠ .object C)) (hx : ∀ (ad : Nat → Nat) (cA : ClassId), vp_cell cA (rA ad (N', x)) = arrV cA N' (fun _ => defaultValue ty)) (hn : ¬ n < 0) (hN : n.toNatClampNeg = N') (hbytes : N' * componentBytes ty ≤ 536870912) (hcells : cells + 1 ≤ kc) (hslots : slots + N' ≤ ks) (hdg : decode Y.2.1 pc = .ok (.newarray atype, 2)) (m0 : Nat) (hm0 : μ.length = m0)
    (k : Go Y d kc ks n0 K (cells + 1) (slots + N') (pc + 2) loc (.ref m0 :: st) (μ ++ [.inl (t, N', x)])) : Go Y d kc ks n0 K cells slots pc loc (.int n :: st) μ := by
  subst hm0
  subst hty
  intro p l e s m args below meth c D cT ad ro sz H locs ls F w hS hL
  refine W_sz fun hzu => ?_
  have hz : H.size = sz + cells := by have := w.2.2.2; have := F.2.2.2.2.2.2.2.2.2.1; omega
  have hK := F.2.2.2.2.2.2.2.2.1
  refine va_newaK F.1 F.2.1 (F.2.2.2.2.1 _ harr) (g := F0 m pc ls _) rfl hdg rfl hn hN hbytes hcells hslots rfl fun H1 cA e1 z1 o1 hAr hNm => ?_
  have hcA : cT t = cA := by
    have h1 := (hK.2 t _ (ht cT)).2
    have h2 : va_RA s (cT t) (newarray.typeOf atype) := h1
    cases hA : newarray.typeOf atype with
    | object C => exact absurd hA (hro.2 C)
    | _ => rw [hA] at h2 hNm; exact Option.some.inj (h2.symm.trans hNm)
  have hat : va_at D vwCl (H.size, rE cT ad ro (.inl (t, N', x))) H1 := by
    show H1[H.size]? = some (vp_cell (cT t) (rA ad (N', x)))
    rw [hx, hcA]
    exact e1
  obtain ⟨w', hq⟩ := Wd_push w F.2.2.2.2.2.2.2.2.2.2.1 hz z1 o1 hat
  have := k p l e s m args below meth c D cT ad ro sz H1 locs ls F w' ⟨Nat.le_trans hS.1 (by omega), fun x h1 h2 => (o1 x (Nat.lt_of_lt_of_le h1 hS.1)).trans (hS.2.1 x h1 h2), hS.2.2⟩ hL
  rw [← hq]
  exact this
theorem go_obj {b idx : Nat} (hl : Cond.methodLink Y.1.cls idx Lib.objectInit ∈ gtb) (hin : Cond.instanceMethod Lib.objectInit ∈ gtb) (hco : Cond.code Lib.objectInit ⟨#[0xb1]⟩ 1 none ∈ gtb) (hdg : decode Y.2.1 pc = .ok (.invokespecial idx, 3)) (hd : 1 ≤ d) (hrm : (st.map fun v => v.category).sum ≤ 8) (k : Go Y d kc ks n0 K cells slots (pc + 3) loc st μ) : Go Y d kc ks n0 K cells slots pc loc (.ref b :: st) μ := by
  intro p l e s m args below meth c D cT ad ro sz H locs ls F w hS hL
  refine W.objInit F.1 F.2.1 F.2.2.2.1 (F.2.2.2.2.1 _ hl) (F.2.2.2.2.1 _ hin) (F.2.2.2.2.1 _ hco) rfl (hL.1.trans F.2.2.1.symm) rfl hdg hd ?_ (k p l e s m args below meth c D cT ad ro sz H locs ls F w hS hL)
  show 2 * 0 + ((st.map (rv ad ro)).map fun v => v.category).sum + 12 ≤ 40 * d
  have := st_sum (ad := ad) (ro := ro) st
  omega
end MADE
