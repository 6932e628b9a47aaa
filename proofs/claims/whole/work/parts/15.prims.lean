/-! words of the pure functions, which a program wrote out of the bytecode -/
def ib (i : Int32) (n : Nat) : Bool := !(decide (i < 0) || decide (n ≤ i.toNatClampNeg))
theorem ib_in {i : Int32} {n : Nat} (h : ib i n = true) : vp_in i n := by
  unfold ib at h
  unfold vp_in
  simp at h
  simp
  exact h
def nz (y : Int32) : Bool := !(decide (y = 0))
theorem nz_of {y : Int32} (h : nz y = true) : ¬ y = 0 := by simpa [nz] using h
def bb (y : Int32) : Bool := decide (y = 0) || decide (y = 1)
theorem bb_of {y : Int32} (h : bb y = true) : y = 0 ∨ y = 1 := by simpa [bb] using h
def gd {α : Type} (c : Bool) (k : Option α) : Option α := if c = true then k else none
theorem gd_some {α : Type} {c : Bool} {k : Option α} {r : α} (h : gd c k = some r) : c = true ∧ k = some r := by
  unfold gd at h
  by_cases hc : c = true
  · rw [if_pos hc] at h; exact ⟨hc, h⟩
  · rw [if_neg hc] at h; cases h
def nmd {α β : Type} (e : α) (k : α → β) : β := k e
theorem nmd_some {α β : Type} {e : α} {k : α → Option β} {r : β} (h : nmd e k = some r) : ∃ x, e = x ∧ k x = some r := ⟨e, rfl, h⟩
def bnd {β : Type} (o : Option (Int32 × St)) (k : Int32 → St → Option β) : Option β := match o with
  | some q => k q.1 q.2
  | none => none
theorem bnd_some {β : Type} {o : Option (Int32 × St)} {k : Int32 → St → Option β} {r : β} (h : bnd o k = some r) : ∃ a σ', o = some (a, σ') ∧ k a σ' = some r := by
  cases o with
  | none => cases h
  | some q => exact ⟨q.1, q.2, rfl, h⟩
abbrev irem (x y : Int32) : Int32 := x - x / y * y
abbrev ushr (x y : Int32) : Int32 := (x.toUInt32 >>> (y.toUInt32 &&& Int32.toUInt32 31)).toInt32
abbrev mmax (x y : Int32) : Int32 := if x < y then y else x
abbrev mmin (x y : Int32) : Int32 := if y < x then y else x
abbrev mabs (x : Int32) : Int32 := if 0 ≤ x then x else 0 - x
theorem tab_out {x : Int32} (lo hi : Int) (l : List Int32) (hl : (List.range (hi - lo + 1).toNat).all (fun j => l.any (fun y => decide (y.toInt = lo + (j : Int)))) = true) (h : ∀ y ∈ l, ¬ x = y) : x.toInt < lo ∨ hi < x.toInt := by
  by_cases h1 : x.toInt < lo
  · exact Or.inl h1
  · by_cases h2 : hi < x.toInt
    · exact Or.inr h2
    · have h3 := List.all_eq_true.mp hl (x.toInt - lo).toNat (List.mem_range.mpr (by omega))
      obtain ⟨y, hy, e⟩ := List.any_eq_true.mp h3
      have e : y.toInt = lo + ((x.toInt - lo).toNat : Int) := by simpa using e
      exact absurd (Int32.toInt_inj.mp (show x.toInt = y.toInt by omega)) (h y hy)

section PRIMS
variable {Y : MD} {d kc ks n0 : Nat} {K : Option Value → HL → Prop} {cells slots pc : Nat} {loc : List (Option Value)} {st : List Value} {μ : HL} {Γ : SG} {ρ : Nat → Nat → Nat} {σ : St}
theorem st_sum {ad ro : Nat → Nat} (st : List Value) : ((st.map (rv ad ro)).map fun v => v.category).sum = (st.map fun v => v.category).sum := by
  rw [List.map_map]
  exact congrArg List.sum (List.map_congr_left fun v _ => rv_cat v)
theorem mmin_y : yJ9_min_7cf53 = Lib.Math.min.name := by decide +kernel
theorem mmin_c : cJ9_min_7cf53 = Lib.Math.min.code := by decide +kernel
theorem mmax_y : yJ9_max_7cf53 = Lib.Math.max.name := by decide +kernel
theorem mmax_c : cJ9_max_7cf53 = Lib.Math.max.code := by decide +kernel
theorem mabs_y : yJ9_abs_0f7a4 = Lib.Math.abs.name := by decide +kernel
theorem mabs_c : cJ9_abs_0f7a4 = Lib.Math.abs.code := by decide +kernel
theorem go_mmin {idx : Nat} {x y : Int32} (hl : Cond.methodLink Y.1.cls idx yJ9_min_7cf53 ∈ gtb) (hdg : decode Y.2.1 pc = .ok (.invokestatic idx, 3)) (hd : 1 ≤ d) (hc : cells ≤ kc) (hs : slots ≤ ks) (hrm : (st.map fun v => v.category).sum ≤ 8) (k : Go Y d kc ks n0 K cells slots (pc + 3) loc (.int (mmin x y) :: st) μ) : Go Y d kc ks n0 K cells slots pc loc (.int y :: .int x :: st) μ := by
  intro p l e s m args below meth c D cT ad ro sz H locs ls F w hS hL
  obtain ⟨⟨h1, h2, -, -⟩, h5⟩ := ok_J9_min_7cf53
  have h1 := F.2.2.2.2.1 _ h1
  have h5 := F.2.2.2.2.1 _ h5
  have hl := F.2.2.2.2.1 _ hl
  simp only [mJ9_min_7cf53] at h1 h5
  rw [mmin_y] at h1 h5 hl
  rw [mmin_c] at h1
  exact va_mmin F.1 F.2.1 (F.2.2.1.trans hL.1.symm) F.2.2.2.1 hl h5 (F.2.2.2.2.1 _ h2) h1 hd (by rw [st_sum]; show _ ≤ 40 * d; omega) hc hs hdg (k p l e s m args below meth c D cT ad ro sz H locs ls F w hS hL)
theorem go_mmax {idx : Nat} {x y : Int32} (hl : Cond.methodLink Y.1.cls idx yJ9_max_7cf53 ∈ gtb) (hdg : decode Y.2.1 pc = .ok (.invokestatic idx, 3)) (hd : 1 ≤ d) (hc : cells ≤ kc) (hs : slots ≤ ks) (hrm : (st.map fun v => v.category).sum ≤ 8) (k : Go Y d kc ks n0 K cells slots (pc + 3) loc (.int (mmax x y) :: st) μ) : Go Y d kc ks n0 K cells slots pc loc (.int y :: .int x :: st) μ := by
  intro p l e s m args below meth c D cT ad ro sz H locs ls F w hS hL
  obtain ⟨⟨h1, h2, -, -⟩, h5⟩ := ok_J9_max_7cf53
  have h1 := F.2.2.2.2.1 _ h1
  have h5 := F.2.2.2.2.1 _ h5
  have hl := F.2.2.2.2.1 _ hl
  simp only [mJ9_max_7cf53] at h1 h5
  rw [mmax_y] at h1 h5 hl
  rw [mmax_c] at h1
  exact va_mmax F.1 F.2.1 (F.2.2.1.trans hL.1.symm) F.2.2.2.1 hl h5 (F.2.2.2.2.1 _ h2) h1 hd (by rw [st_sum]; show _ ≤ 40 * d; omega) hc hs hdg (k p l e s m args below meth c D cT ad ro sz H locs ls F w hS hL)
theorem go_mabs {idx : Nat} {x : Int32} (hl : Cond.methodLink Y.1.cls idx yJ9_abs_0f7a4 ∈ gtb) (hdg : decode Y.2.1 pc = .ok (.invokestatic idx, 3)) (hd : 1 ≤ d) (hc : cells ≤ kc) (hs : slots ≤ ks) (hrm : (st.map fun v => v.category).sum ≤ 8) (k : Go Y d kc ks n0 K cells slots (pc + 3) loc (.int (mabs x) :: st) μ) : Go Y d kc ks n0 K cells slots pc loc (.int x :: st) μ := by
  intro p l e s m args below meth c D cT ad ro sz H locs ls F w hS hL
  obtain ⟨⟨h1, h2, -, -⟩, h5⟩ := ok_J9_abs_0f7a4
  have h1 := F.2.2.2.2.1 _ h1
  have h5 := F.2.2.2.2.1 _ h5
  have hl := F.2.2.2.2.1 _ hl
  simp only [mJ9_abs_0f7a4] at h1 h5
  rw [mabs_y] at h1 h5 hl
  rw [mabs_c] at h1
  exact va_mabs F.1 F.2.1 (F.2.2.1.trans hL.1.symm) F.2.2.2.1 hl h5 (F.2.2.2.2.1 _ h2) h1 hd (by rw [st_sum]; show _ ≤ 40 * d; omega) hc hs hdg (k p l e s m args below meth c D cT ad ro sz H locs ls F w hS hL)
/-- System.arraycopy of ints -/
def cpok (n0 n1 : Nat) (sp dp n : Int32) : Bool := !(decide (sp < 0) || decide (dp < 0) || decide (n < 0) || decide (n0 < sp.toNatClampNeg + n.toNatClampNeg) || decide (n1 < dp.toNatClampNeg + n.toNatClampNeg))
def cpyI (σ : St) (a b : Nat) (sp dp n : Int32) : St := (fun p j => if p = b ∧ (dp.toNatClampNeg ≤ j ∧ j < dp.toNatClampNeg + n.toNatClampNeg) then σ.1 a (sp.toNatClampNeg + (j - dp.toNatClampNeg)) else σ.1 p j, σ.2)
theorem cpyI_up {σ : St} {a b : Nat} {sp dp n : Int32} : (cpyI σ a b sp dp n).1 b = va_cpy (σ.1 a) (σ.1 b) sp.toNatClampNeg dp.toNatClampNeg n.toNatClampNeg := by
  funext j
  simp [cpyI, va_cpy]
theorem cpyI_ne {σ : St} {a b p : Nat} {sp dp n : Int32} (h : p ≠ b) : (cpyI σ a b sp dp n).1 p = σ.1 p := by
  funext j
  simp [cpyI, h]
theorem go_cpy {idx a b na nb : Nat} {sp dp n : Int32} (hl : Cond.methodLink Y.1.cls idx ⟨"java/lang/System", "arraycopy", "(Ljava/lang/Object;ILjava/lang/Object;II)V"⟩ ∈ gtb) (hdg : decode Y.2.1 pc = .ok (.invokestatic idx, 3)) (ha : Γ[a]? = some (1, na)) (hb : Γ[b]? = some (1, nb)) (hok : cpok na nb sp dp n = true) (hd : 1 ≤ d) (hrm : (st.map fun v => v.category).sum ≤ 8) (k : Go Y d kc ks n0 K cells slots (pc + 3) loc st (hp Γ ρ (cpyI σ a b sp dp n))) : Go Y d kc ks n0 K cells slots pc loc (.int n :: .int dp :: .ref b :: .int sp :: .ref a :: st) (hp Γ ρ σ) := by
  intro p l e s m args below meth c D cT ad ro sz H locs ls F w hS hL
  have hk := hok
  unfold cpok at hk
  simp only [Bool.not_eq_true', Bool.or_eq_false_iff, decide_eq_false_iff_not] at hk
  obtain ⟨⟨⟨⟨h1, h2⟩, h3⟩, h4⟩, h5⟩ := hk
  have g1 : Cond.native arraycopyName ∈ gtb := gtb_in (tb_2 (List.mem_of_getElem? (i := 229) (by decide +kernel))) rfl
  have g2 : Cond.static arraycopyName ∈ gtb := gtb_in (tb_2 (List.mem_of_getElem? (i := 228) (by decide +kernel))) rfl
  have g3 : Cond.initialized "java/lang/System" ∈ gtb := gtb_in (tb_1 (List.mem_of_getElem? (i := 17) (by decide +kernel))) rfl
  have h4 : sp.toNatClampNeg + n.toNatClampNeg ≤ na := by omega
  have h5 : dp.toNatClampNeg + n.toNatClampNeg ≤ nb := by omega
  have hw : nativeFrameWords "java/lang/System" "arraycopy" 5 = 7 := by decide
  have hlo : ((st.map (rv ad ro)).map fun v => v.category).sum + (nativeFrameWords "java/lang/System" "arraycopy" 5 + 11) ≤ (rmv d kc ks).locals := by
    rw [st_sum, hw]
    show _ ≤ 40 * d
    omega
  refine va_copyi F.1 F.2.1 (F.2.2.1.trans hL.1.symm) F.2.2.2.1 (F.2.2.2.2.1 _ hl) (F.2.2.2.2.1 _ g1) (F.2.2.2.2.1 _ g2) (F.2.2.2.2.1 _ g3) F.2.2.2.2.2.2.2.2.1 w.1 (w.D F.2.2.2.2.2.2.2.2.2.2.1) hS.here a b 0 0 (f := σ.1 a) (g := σ.1 b) (rW_at (hp_at ha)) (rW_at (hp_at hb)) rfl rfl rfl h1 h2 h3 h4 h5 (fun _ _ => rfl) hd hlo hdg (fun H1 locs1 hP _ hS1 => k p l e s m args below meth c D cT ad ro sz H1 locs1 ls F ?_ (hS.trans hS1) hL)
  have hu : (hp Γ ρ σ).set b (.inl (0, nb, .inl (va_cpy (σ.1 a) (σ.1 b) sp.toNatClampNeg dp.toNatClampNeg n.toNatClampNeg))) = hp Γ ρ (cpyI σ a b sp dp n) := hp_set hb (by simp only [cellOf, adat, cpyI_up]) (fun q h => cpyI_ne h) (fun q h => rfl)
  rw [← hu]
  exact w.set hP hS1.1
/-- rows of rows -/
theorem go_rR {b n : Nat} {i : Int32} (hdg : decode Y.2.1 pc = .ok (.aaload, 1)) (hb : Γ[b]? = some (5, n)) (hin : vp_in i n) (k : Go Y d kc ks n0 K cells slots (pc + 1) loc (.ref (ρ b i.toNatClampNeg) :: st) (hp Γ ρ σ)) : Go Y d kc ks n0 K cells slots pc loc (.int i :: .ref b :: st) (hp Γ ρ σ) := by
  intro p l e s m args below meth c D cT ad ro sz H locs ls F w hS hL
  have hlt : i.toNatClampNeg < n := Nat.not_le.mp fun q => hin (Or.inr q)
  have hP : H[ad b]? = some (arrV (cT 4) n (fun j => va_rf (some (ad (ρ b j))))) := w.1 b _ (rW_at (hp_at hb))
  exact W.aald (v := .ref (ad (ρ b i.toNatClampNeg))) (ty := .array .int) F.1 F.2.1 hP ((F.2.2.2.2.2.2.2.2.1.2 4 _ rfl).1 n (fun j => va_rf (some (ad (ρ b j))))) rfl (fun q => by cases q) (by show ¬ (i < 0 ∨ (arrV _ _ _).slots.size ≤ _); rw [arrV_size]; exact hin) (by rw [arrV_read _ _ hlt]; rfl) rfl rfl hdg (k p l e s m args below meth c D cT ad ro sz H locs ls F w hS hL)
theorem sh_in {b n : Nat} {i : Int32} (hs : Sh Γ ρ) (hb : Γ[b]? = some (5, n)) (hi : ib i n = true) : Γ[ρ b i.toNatClampNeg]? = some (1, if n = 2 then 6 else 7) := hs.2 b n _ hb (Nat.not_le.mp fun q => ib_in hi (Or.inr q))
/-- the weights -/
theorem go_wts {idx : Nat} (hl : Cond.fieldLink Y.1.cls idx "FaithfulStools$Sendings" "WEIGHTS" "[I" ∈ gtb) (hdg : decode Y.2.1 pc = .ok (.getstatic idx, 3)) (k : Go Y d kc ks n0 K cells slots (pc + 3) loc (.retAddr 0 :: st) μ) : Go Y d kc ks n0 K cells slots pc loc st μ := by
  intro p l e s m args below meth c D cT ad ro sz H locs ls F w hS hL
  exact va_gets F.1 F.2.1 F.2.2.2.2.2.2.2.2.2.2.2.1 hS F.2.2.2.1 (F.2.2.2.2.1 _ hl) (fun _ h => h) hdg (k p l e s m args below meth c D cT ad ro sz H locs ls F w hS hL)
theorem go_wtl (hdg : decode Y.2.1 pc = .ok (.arraylength, 1)) (k : Go Y d kc ks n0 K cells slots (pc + 1) loc (.int 5 :: st) μ) : Go Y d kc ks n0 K cells slots pc loc (.retAddr 0 :: st) μ := by
  intro p l e s m args below meth c D cT ad ro sz H locs ls F w hS hL
  obtain ⟨cell, q1, q2, q3, q4, q5, q6, q7⟩ := F.2.2.2.2.2.2.2.2.2.2.2.2.1
  exact W.alen (n := 5) F.1 F.2.1 (by rw [hS.2.1 _ (Array.getElem?_eq_some_iff.mp q1).1 q7]; exact q1) q2 (q5.trans rfl) rfl rfl hdg (k p l e s m args below meth c D cT ad ro sz H locs ls F w hS hL)
theorem go_wti {i : Int32} (hdg : decode Y.2.1 pc = .ok (.iaload, 1)) (hin : vp_in i 5) (k : Go Y d kc ks n0 K cells slots (pc + 1) loc (.int (romW i.toNatClampNeg) :: st) μ) : Go Y d kc ks n0 K cells slots pc loc (.int i :: .retAddr 0 :: st) μ := by
  intro p l e s m args below meth c D cT ad ro sz H locs ls F w hS hL
  obtain ⟨cell, q1, q2, q3, q4, q5, q6, q7⟩ := F.2.2.2.2.2.2.2.2.2.2.2.2.1
  have hlt : i.toNatClampNeg < 5 := Nat.not_le.mp fun q => hin (Or.inr q)
  exact W.iald (v := .int (romW i.toNatClampNeg)) F.1 F.2.1 (by rw [hS.2.1 _ (Array.getElem?_eq_some_iff.mp q1).1 q7]; exact q1) q2 q3 (fun q => by rcases q with q | q; exact hin (Or.inl q); omega) (q6 _ hlt) rfl rfl hdg (k p l e s m args below meth c D cT ad ro sz H locs ls F w hS hL)
end PRIMS
