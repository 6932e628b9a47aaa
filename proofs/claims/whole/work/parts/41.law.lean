/-! THE LAW's LOOP -/
def Api (Inv : (Nat → Nat → Nat) → St → Prop) (f g : (Nat → Nat → Nat) → St → Option (Int32 × St)) : Prop := ∀ ρ σ, Inv ρ σ → ∃ r σ1 σ2, f ρ σ = some (r, σ1) ∧ g ρ σ1 = some (r, σ2) ∧ Inv ρ σ2
def ApiC (Inv : (Nat → Nat → Nat) → St → Prop) (X : Nat) (f g : (Nat → Nat → Nat) → St → Option (Int32 × St)) : Prop := ∀ ρ σ, Inv ρ σ → ∃ r σ1 σ2, f ρ σ = some (r, σ1) ∧ g (if r = -1 then ρ else sR (sR ρ X 2 (ρ X 3)) X 3 (ρ X 2)) σ1 = some (r, σ2) ∧ Inv (if r = -1 then ρ else sR (sR ρ X 2 (ρ X 3)) X 3 (ρ X 2)) σ2
theorem law_le {k L : Nat} (hk : k ≤ 3072) (hL : L ≤ 3072) (h : ¬ nI L - 6 < nI k) : k + 6 ≤ L := by
  have e : (nI L - nI 6).toInt = (L : Int) - 6 := pk_sub_toInt (by omega) (by omega)
  have e2 : (nI k).toInt = (k : Int) := nI_toInt (by omega)
  have h' : ¬ nI L - nI 6 < nI k := h
  rw [Int32.lt_iff_toInt_lt, e, e2] at h'
  omega
theorem law_in {k L c : Nat} (h : k + c < L) (hL : L ≤ 3072) : vp_in (nI k + nI c) L := by
  rw [nI_add]
  exact vp_in_nI h (by omega)
/-- what is to be shown of the two objects, without a machine -/
def Apis (Inv : (Nat → Nat → Nat) → St → Prop) (N X M : Nat) : Prop :=
  (∀ a1 : Int32, ∀ a2 : Int32, ∀ a3 : Int32, ∀ a4 : Int32, ∀ a5 : Int32, Api Inv (fun ρ σ => f_X11_feed N ρ X a1 a2 a3 a4 a5 σ) (fun ρ σ => f_X12_feed N ρ M a1 a2 a3 a4 a5 σ)) ∧
  (∀ a1 : Int32, Api Inv (fun ρ σ => f_X11_end N ρ X a1 σ) (fun ρ σ => f_X12_end N ρ M a1 σ)) ∧
  ApiC Inv X (fun ρ σ => f_X11_chapel N ρ X σ) (fun ρ σ => f_X12_chapel N ρ M σ) ∧
  (∀ a1 : Int32, Api Inv (fun ρ σ => f_X11_fault N ρ X a1 σ) (fun ρ σ => f_X12_fault N ρ M a1 σ)) ∧
  (∀ a1 : Int32, ∀ a2 : Int32, Api Inv (fun ρ σ => f_X11_hearth N ρ X a1 a2 σ) (fun ρ σ => f_X12_hearth N ρ M a1 a2 σ)) ∧
  (∀ a1 : Int32, ∀ a2 : Int32, Api Inv (fun ρ σ => f_X11_stool N ρ X a1 a2 σ) (fun ρ σ => f_X12_stool N ρ M a1 a2 σ)) ∧
  (∀ a1 : Int32, Api Inv (fun ρ σ => f_X11_load N ρ X a1 σ) (fun ρ σ => f_X12_load N ρ M a1 σ)) ∧
  (∀ a1 : Int32, ∀ a2 : Int32, Api Inv (fun ρ σ => f_X11_send N ρ X a1 a2 σ) (fun ρ σ => f_X12_send N ρ M a1 a2 σ)) ∧
  (∀ a1 : Int32, Api Inv (fun ρ σ => f_X11_call N ρ X a1 σ) (fun ρ σ => f_X12_call N ρ M a1 σ)) ∧
  (Api Inv (fun ρ σ => f_X11_evening N ρ X σ) (fun ρ σ => f_X12_evening N ρ M σ)) ∧
  (Api Inv (fun ρ σ => f_X11_undo N ρ X σ) (fun ρ σ => f_X12_undo N ρ M σ)) ∧
  (Api Inv (fun ρ σ => f_X11_redo N ρ X σ) (fun ρ σ => f_X12_redo N ρ M σ)) ∧
  (∀ a1 : Int32, Api Inv (fun ρ σ => f_X11_tonight N ρ X a1 σ) (fun ρ σ => f_X12_tonight N ρ M a1 σ)) ∧
  (Api Inv (fun ρ σ => f_X11_walk N ρ X σ) (fun ρ σ => f_X12_walk N ρ M σ)) ∧
  (∀ a1 : Int32, Api Inv (fun ρ σ => f_X11_round N ρ X a1 σ) (fun ρ σ => f_X12_round N ρ M a1 σ)) ∧
  (Api Inv (fun ρ σ => f_X11_service N ρ X σ) (fun ρ σ => f_X12_service N ρ M σ)) ∧
  (∀ a1 : Int32, ∀ a2 : Int32, Api Inv (fun ρ σ => f_X11_team N ρ X a1 a2 σ) (fun ρ σ => f_X12_team N ρ M a1 a2 σ)) ∧
  (∀ a1 : Int32, ∀ a2 : Int32, Api Inv (fun ρ σ => f_X11_lasts N ρ X a1 a2 σ) (fun ρ σ => f_X12_lasts N ρ M a1 a2 σ)) ∧
  (∀ a1 : Int32, ∀ a2 : Int32, Api Inv (fun ρ σ => f_X11_soon N ρ X a1 a2 σ) (fun ρ σ => f_X12_soon N ρ M a1 a2 σ)) ∧
  (∀ a1 : Int32, Api Inv (fun ρ σ => f_X11_change N ρ X a1 σ) (fun ρ σ => f_X12_change N ρ M a1 σ)) ∧
  (∀ a1 : Int32, ∀ a2 : Int32, Api Inv (fun ρ σ => f_X11_guests N ρ X a1 a2 σ) (fun ρ σ => f_X12_guests N ρ M a1 a2 σ)) ∧
  (∀ a1 : Int32, Api Inv (fun ρ σ => f_X11_cover N ρ X a1 σ) (fun ρ σ => f_X12_cover N ρ M a1 σ)) ∧
  (∀ a1 : Int32, Api Inv (fun ρ σ => f_X11_pilgrim N ρ X a1 σ) (fun ρ σ => f_X12_pilgrim N ρ M a1 σ)) ∧
  (∀ a1 : Int32, ∀ a2 : Int32, Api Inv (fun ρ σ => f_X11_will N ρ X a1 a2 σ) (fun ρ σ => f_X12_will N ρ M a1 a2 σ)) ∧
  (∀ a1 : Int32, ∀ a2 : Int32, Api Inv (fun ρ σ => f_X11_strength N ρ X a1 a2 σ) (fun ρ σ => f_X12_strength N ρ M a1 a2 σ)) ∧
  (Api Inv (fun ρ σ => f_X11_saved N ρ X σ) (fun ρ σ => f_X12_saved N ρ M σ)) ∧
  (Api Inv (fun ρ σ => f_X11_grace N ρ X σ) (fun ρ σ => f_X12_grace N ρ M σ)) ∧
  (∀ a1 : Int32, Api Inv (fun ρ σ => f_X11_easiest N ρ X a1 σ) (fun ρ σ => f_X12_easiest N ρ M a1 σ)) ∧
  (Api Inv (fun ρ σ => f_X11_forlorn N ρ X σ) (fun ρ σ => f_X12_forlorn N ρ M σ)) ∧
  (∀ a1 : Int32, Api Inv (fun ρ σ => f_X11_nearest N ρ X a1 σ) (fun ρ σ => f_X12_nearest N ρ M a1 σ)) ∧
  (∀ a1 : Int32, Api Inv (fun ρ σ => f_X11_law N ρ X a1 σ) (fun ρ σ => f_X12_law N ρ M a1 σ)) ∧
  (Api Inv (fun ρ σ => f_X11_schisms N ρ X σ) (fun ρ σ => f_X12_schisms N ρ M σ)) ∧
  (∀ a1 : Int32, ∀ a2 : Int32, Api Inv (fun ρ σ => f_X11_odds N ρ X a1 a2 σ) (fun ρ σ => f_X12_odds N ρ M a1 a2 σ)) ∧
  (∀ a1 : Int32, Api Inv (fun ρ σ => f_X11_lies N ρ X a1 σ) (fun ρ σ => f_X12_lies N ρ M a1 σ)) ∧
  (∀ a1 : Int32, ∀ a2 : Int32, ∀ a3 : Int32, a3 = 0 ∨ a3 = 1 → Api Inv (fun ρ σ => f_X11_dented N ρ X a1 a2 a3 σ) (fun ρ σ => f_X12_dented N ρ M a1 a2 a3 σ)) ∧
  (∀ a1 : Int32, ∀ a2 : Int32, ∀ a3 : Int32, a3 = 0 ∨ a3 = 1 → Api Inv (fun ρ σ => f_X11_held N ρ X a1 a2 a3 σ) (fun ρ σ => f_X12_held N ρ M a1 a2 a3 σ)) ∧
  (∀ a1 : Int32, Api Inv (fun ρ σ => f_X11_untell N ρ X a1 σ) (fun ρ σ => f_X12_untell N ρ M a1 σ)) ∧
  (∀ a1 : Int32, Api Inv (fun ρ σ => f_X11_later N ρ X a1 σ) (fun ρ σ => f_X12_later N ρ M a1 σ)) ∧
  (∀ a1 : Int32, Api Inv (fun ρ σ => f_X11_rows N ρ X a1 σ) (fun ρ σ => f_X12_rows N ρ M a1 σ)) ∧
  (∀ a1 : Int32, ∀ a2 : Int32, Api Inv (fun ρ σ => f_X11_sure N ρ X a1 a2 σ) (fun ρ σ => f_X12_sure N ρ M a1 a2 σ)) ∧
  (∀ a1 : Int32, ∀ a2 : Int32, Api Inv (fun ρ σ => f_X11_ask N ρ X a1 a2 σ) (fun ρ σ => f_X12_ask N ρ M a1 a2 σ)) ∧
  (∀ a1 : Int32, Api Inv (fun ρ σ => f_X11_image N ρ X a1 σ) (fun ρ σ => f_X12_image N ρ M a1 σ)) ∧
  (∀ a1 : Int32, Api Inv (fun ρ σ => f_X11_back N ρ X a1 σ) (fun ρ σ => f_X12_back N ρ M a1 σ)) ∧
  (∀ a1 : Int32, Api Inv (fun ρ σ => f_X11_about N ρ X a1 σ) (fun ρ σ => f_X12_about N ρ M a1 σ))
set_option maxRecDepth 100000 in
set_option maxHeartbeats 4000000 in
theorem law_feed {Γ : SG} {N X M : Nat} (hX : Γ[X]? = some (0, 11)) (hM : Γ[M]? = some (0, 12)) {Inv : (Nat → Nat → Nat) → St → Prop} (hsh : ∀ ρ σ, Inv ρ σ → Sh Γ ρ) {L : Nat} {xs : Nat → Int32} {cells slots : Nat} (hL : L ≤ 3072) (hc : cells ≤ 600000) (hs : slots ≤ 7302249) (A : (∀ a1 : Int32, ∀ a2 : Int32, ∀ a3 : Int32, ∀ a4 : Int32, ∀ a5 : Int32, Api Inv (fun ρ σ => f_X11_feed N ρ X a1 a2 a3 a4 a5 σ) (fun ρ σ => f_X12_feed N ρ M a1 a2 a3 a4 a5 σ))) {k : Nat} (hk : k + 6 ≤ L) {ρ : Nat → Nat → Nat} {σ : St} (hI : Inv ρ σ) (ih : ∀ ρ σ, Inv ρ σ → Lw L xs cells slots 1368 [some (.retAddr 6), some (.ref X), some (.ref M), some (.int (nI k))] [] (hp Γ ρ σ)) : Lw L xs cells slots 224 [some (.retAddr 6), some (.ref X), some (.ref M), some (.int (nI k))] [] (hp Γ ρ σ) := by
  refine lw_aload_n 1 dL_law_224 rfl rfl ?_
  refine lw_aload_s 0 dL_law_225 rfl rfl ?_
  refine lw_iload_n 3 dL_law_226 rfl rfl ?_
  refine lw_iconst 1 dL_law_227 (by decide) ?_
  refine lw_iadd dL_law_228 ?_
  refine lw_sld dL_law_229 (law_in (c := 1) (by omega) hL) ?_
  refine lw_aload_s 0 dL_law_230 rfl rfl ?_
  refine lw_iload_n 3 dL_law_231 rfl rfl ?_
  refine lw_iconst 2 dL_law_232 (by decide) ?_
  refine lw_iadd dL_law_233 ?_
  refine lw_sld dL_law_234 (law_in (c := 2) (by omega) hL) ?_
  refine lw_aload_s 0 dL_law_235 rfl rfl ?_
  refine lw_iload_n 3 dL_law_236 rfl rfl ?_
  refine lw_iconst 3 dL_law_237 (by decide) ?_
  refine lw_iadd dL_law_238 ?_
  refine lw_sld dL_law_239 (law_in (c := 3) (by omega) hL) ?_
  refine lw_aload_s 0 dL_law_240 rfl rfl ?_
  refine lw_iload_n 3 dL_law_241 rfl rfl ?_
  refine lw_iconst 4 dL_law_242 (by decide) ?_
  refine lw_iadd dL_law_243 ?_
  refine lw_sld dL_law_244 (law_in (c := 4) (by omega) hL) ?_
  refine lw_aload_s 0 dL_law_245 rfl rfl ?_
  refine lw_iload_n 3 dL_law_246 rfl rfl ?_
  refine lw_iconst 5 dL_law_247 (by decide) ?_
  refine lw_iadd dL_law_248 ?_
  refine lw_sld dL_law_249 (law_in (c := 5) (by omega) hL) ?_
  obtain ⟨r, σ1, σ2, h1, h2, h3⟩ := A (xs (nI k + 1).toNatClampNeg) (xs (nI k + 2).toNatClampNeg) (xs (nI k + 3).toNatClampNeg) (xs (nI k + 4).toNatClampNeg) (xs (nI k + 5).toNatClampNeg) ρ σ hI
  refine lw_Vi (av := [.int (xs (nI k + 1).toNatClampNeg), .int (xs (nI k + 2).toNatClampNeg), .int (xs (nI k + 3).toNatClampNeg), .int (xs (nI k + 4).toNatClampNeg), .int (xs (nI k + 5).toNatClampNeg)]) (rest := []) (t_X11_feed (hsh ρ σ hI) hX h1) ok_X11_feed ml_L_13 dL_law_250 hX rfl rfl (by decide) hc hs (Nat.le_of_ble_eq_true rfl) ?_
  have hsp := hsh _ _ h3
  refine lw_aload_n 2 dL_law_253 rfl rfl ?_
  refine lw_aload_s 0 dL_law_254 rfl rfl ?_
  refine lw_iload_n 3 dL_law_255 rfl rfl ?_
  refine lw_iconst 1 dL_law_256 (by decide) ?_
  refine lw_iadd dL_law_257 ?_
  refine lw_sld dL_law_258 (law_in (c := 1) (by omega) hL) ?_
  refine lw_aload_s 0 dL_law_259 rfl rfl ?_
  refine lw_iload_n 3 dL_law_260 rfl rfl ?_
  refine lw_iconst 2 dL_law_261 (by decide) ?_
  refine lw_iadd dL_law_262 ?_
  refine lw_sld dL_law_263 (law_in (c := 2) (by omega) hL) ?_
  refine lw_aload_s 0 dL_law_264 rfl rfl ?_
  refine lw_iload_n 3 dL_law_265 rfl rfl ?_
  refine lw_iconst 3 dL_law_266 (by decide) ?_
  refine lw_iadd dL_law_267 ?_
  refine lw_sld dL_law_268 (law_in (c := 3) (by omega) hL) ?_
  refine lw_aload_s 0 dL_law_269 rfl rfl ?_
  refine lw_iload_n 3 dL_law_270 rfl rfl ?_
  refine lw_iconst 4 dL_law_271 (by decide) ?_
  refine lw_iadd dL_law_272 ?_
  refine lw_sld dL_law_273 (law_in (c := 4) (by omega) hL) ?_
  refine lw_aload_s 0 dL_law_274 rfl rfl ?_
  refine lw_iload_n 3 dL_law_275 rfl rfl ?_
  refine lw_iconst 5 dL_law_276 (by decide) ?_
  refine lw_iadd dL_law_277 ?_
  refine lw_sld dL_law_278 (law_in (c := 5) (by omega) hL) ?_
  refine lw_Vi (av := [.int (xs (nI k + 1).toNatClampNeg), .int (xs (nI k + 2).toNatClampNeg), .int (xs (nI k + 3).toNatClampNeg), .int (xs (nI k + 4).toNatClampNeg), .int (xs (nI k + 5).toNatClampNeg)]) (rest := [.int r]) (t_X12_feed hsp hM h2) ok_X12_feed ml_L_17 dL_law_279 hM rfl rfl (by decide) hc hs (Nat.le_of_ble_eq_true rfl) ?_
  refine lw_icmp_eq 1368 dL_law_282 (by decide) (fun _ => ?_) (fun c => absurd rfl c)
  exact ih _ σ2 h3
set_option maxRecDepth 100000 in
set_option maxHeartbeats 4000000 in
theorem law_end {Γ : SG} {N X M : Nat} (hX : Γ[X]? = some (0, 11)) (hM : Γ[M]? = some (0, 12)) {Inv : (Nat → Nat → Nat) → St → Prop} (hsh : ∀ ρ σ, Inv ρ σ → Sh Γ ρ) {L : Nat} {xs : Nat → Int32} {cells slots : Nat} (hL : L ≤ 3072) (hc : cells ≤ 600000) (hs : slots ≤ 7302249) (A : (∀ a1 : Int32, Api Inv (fun ρ σ => f_X11_end N ρ X a1 σ) (fun ρ σ => f_X12_end N ρ M a1 σ))) {k : Nat} (hk : k + 6 ≤ L) {ρ : Nat → Nat → Nat} {σ : St} (hI : Inv ρ σ) (ih : ∀ ρ σ, Inv ρ σ → Lw L xs cells slots 1368 [some (.retAddr 6), some (.ref X), some (.ref M), some (.int (nI k))] [] (hp Γ ρ σ)) : Lw L xs cells slots 287 [some (.retAddr 6), some (.ref X), some (.ref M), some (.int (nI k))] [] (hp Γ ρ σ) := by
  refine lw_aload_n 1 dL_law_287 rfl rfl ?_
  refine lw_aload_s 0 dL_law_288 rfl rfl ?_
  refine lw_iload_n 3 dL_law_289 rfl rfl ?_
  refine lw_iconst 1 dL_law_290 (by decide) ?_
  refine lw_iadd dL_law_291 ?_
  refine lw_sld dL_law_292 (law_in (c := 1) (by omega) hL) ?_
  obtain ⟨r, σ1, σ2, h1, h2, h3⟩ := A (xs (nI k + 1).toNatClampNeg) ρ σ hI
  refine lw_Vi (av := [.int (xs (nI k + 1).toNatClampNeg)]) (rest := []) (t_X11_end (hsh ρ σ hI) hX h1) ok_X11_end ml_L_18 dL_law_293 hX rfl rfl (by decide) hc hs (Nat.le_of_ble_eq_true rfl) ?_
  have hsp := hsh _ _ h3
  refine lw_aload_n 2 dL_law_296 rfl rfl ?_
  refine lw_aload_s 0 dL_law_297 rfl rfl ?_
  refine lw_iload_n 3 dL_law_298 rfl rfl ?_
  refine lw_iconst 1 dL_law_299 (by decide) ?_
  refine lw_iadd dL_law_300 ?_
  refine lw_sld dL_law_301 (law_in (c := 1) (by omega) hL) ?_
  refine lw_Vi (av := [.int (xs (nI k + 1).toNatClampNeg)]) (rest := [.int r]) (t_X12_end hsp hM h2) ok_X12_end ml_L_22 dL_law_302 hM rfl rfl (by decide) hc hs (Nat.le_of_ble_eq_true rfl) ?_
  refine lw_icmp_eq 1368 dL_law_305 (by decide) (fun _ => ?_) (fun c => absurd rfl c)
  exact ih _ σ2 h3
set_option maxRecDepth 100000 in
set_option maxHeartbeats 4000000 in
theorem law_chapel {Γ : SG} {N X M : Nat} (hX : Γ[X]? = some (0, 11)) (hM : Γ[M]? = some (0, 12)) {Inv : (Nat → Nat → Nat) → St → Prop} (hsh : ∀ ρ σ, Inv ρ σ → Sh Γ ρ) {L : Nat} {xs : Nat → Int32} {cells slots : Nat} (hL : L ≤ 3072) (hc : cells ≤ 600000) (hs : slots ≤ 7302249) (A : ApiC Inv X (fun ρ σ => f_X11_chapel N ρ X σ) (fun ρ σ => f_X12_chapel N ρ M σ)) {k : Nat} (hk : k + 6 ≤ L) {ρ : Nat → Nat → Nat} {σ : St} (hI : Inv ρ σ) (ih : ∀ ρ σ, Inv ρ σ → Lw L xs cells slots 1368 [some (.retAddr 6), some (.ref X), some (.ref M), some (.int (nI k))] [] (hp Γ ρ σ)) : Lw L xs cells slots 310 [some (.retAddr 6), some (.ref X), some (.ref M), some (.int (nI k))] [] (hp Γ ρ σ) := by
  refine lw_aload_n 1 dL_law_310 rfl rfl ?_
  obtain ⟨r, σ1, σ2, h1, h2, h3⟩ := A ρ σ hI
  refine lw_V (av := []) (rest := []) (t_X11_chapel (hsh ρ σ hI) hX h1) ok_X11_chapel ml_L_23 dL_law_311 hX rfl rfl (by decide) hc hs (Nat.le_of_ble_eq_true rfl) (fun v μ h => by rw [h.2, hp_len]) (fun v μ h => ?_)
  obtain ⟨rfl, rfl⟩ := h
  show Lw L xs cells slots 314 _ [.int r] _
  generalize (if r = -1 then ρ else sR (sR ρ X 2 (ρ X 3)) X 3 (ρ X 2)) = ρ at h2 h3 ⊢
  have hsp := hsh _ _ h3
  refine lw_aload_n 2 dL_law_314 rfl rfl ?_
  refine lw_Vi (av := []) (rest := [.int r]) (t_X12_chapel hsp hM h2) ok_X12_chapel ml_L_27 dL_law_315 hM rfl rfl (by decide) hc hs (Nat.le_of_ble_eq_true rfl) ?_
  refine lw_icmp_eq 1368 dL_law_318 (by decide) (fun _ => ?_) (fun c => absurd rfl c)
  exact ih _ σ2 h3
set_option maxRecDepth 100000 in
set_option maxHeartbeats 4000000 in
theorem law_fault {Γ : SG} {N X M : Nat} (hX : Γ[X]? = some (0, 11)) (hM : Γ[M]? = some (0, 12)) {Inv : (Nat → Nat → Nat) → St → Prop} (hsh : ∀ ρ σ, Inv ρ σ → Sh Γ ρ) {L : Nat} {xs : Nat → Int32} {cells slots : Nat} (hL : L ≤ 3072) (hc : cells ≤ 600000) (hs : slots ≤ 7302249) (A : (∀ a1 : Int32, Api Inv (fun ρ σ => f_X11_fault N ρ X a1 σ) (fun ρ σ => f_X12_fault N ρ M a1 σ))) {k : Nat} (hk : k + 6 ≤ L) {ρ : Nat → Nat → Nat} {σ : St} (hI : Inv ρ σ) (ih : ∀ ρ σ, Inv ρ σ → Lw L xs cells slots 1368 [some (.retAddr 6), some (.ref X), some (.ref M), some (.int (nI k))] [] (hp Γ ρ σ)) : Lw L xs cells slots 323 [some (.retAddr 6), some (.ref X), some (.ref M), some (.int (nI k))] [] (hp Γ ρ σ) := by
  refine lw_aload_n 1 dL_law_323 rfl rfl ?_
  refine lw_aload_s 0 dL_law_324 rfl rfl ?_
  refine lw_iload_n 3 dL_law_325 rfl rfl ?_
  refine lw_iconst 1 dL_law_326 (by decide) ?_
  refine lw_iadd dL_law_327 ?_
  refine lw_sld dL_law_328 (law_in (c := 1) (by omega) hL) ?_
  obtain ⟨r, σ1, σ2, h1, h2, h3⟩ := A (xs (nI k + 1).toNatClampNeg) ρ σ hI
  refine lw_Vi (av := [.int (xs (nI k + 1).toNatClampNeg)]) (rest := []) (t_X11_fault (hsh ρ σ hI) hX h1) ok_X11_fault ml_L_28 dL_law_329 hX rfl rfl (by decide) hc hs (Nat.le_of_ble_eq_true rfl) ?_
  have hsp := hsh _ _ h3
  refine lw_aload_n 2 dL_law_332 rfl rfl ?_
  refine lw_aload_s 0 dL_law_333 rfl rfl ?_
  refine lw_iload_n 3 dL_law_334 rfl rfl ?_
  refine lw_iconst 1 dL_law_335 (by decide) ?_
  refine lw_iadd dL_law_336 ?_
  refine lw_sld dL_law_337 (law_in (c := 1) (by omega) hL) ?_
  refine lw_Vi (av := [.int (xs (nI k + 1).toNatClampNeg)]) (rest := [.int r]) (t_X12_fault hsp hM h2) ok_X12_fault ml_L_31 dL_law_338 hM rfl rfl (by decide) hc hs (Nat.le_of_ble_eq_true rfl) ?_
  refine lw_icmp_eq 1368 dL_law_341 (by decide) (fun _ => ?_) (fun c => absurd rfl c)
  exact ih _ σ2 h3
set_option maxRecDepth 100000 in
set_option maxHeartbeats 4000000 in
theorem law_hearth {Γ : SG} {N X M : Nat} (hX : Γ[X]? = some (0, 11)) (hM : Γ[M]? = some (0, 12)) {Inv : (Nat → Nat → Nat) → St → Prop} (hsh : ∀ ρ σ, Inv ρ σ → Sh Γ ρ) {L : Nat} {xs : Nat → Int32} {cells slots : Nat} (hL : L ≤ 3072) (hc : cells ≤ 600000) (hs : slots ≤ 7302249) (A : (∀ a1 : Int32, ∀ a2 : Int32, Api Inv (fun ρ σ => f_X11_hearth N ρ X a1 a2 σ) (fun ρ σ => f_X12_hearth N ρ M a1 a2 σ))) {k : Nat} (hk : k + 6 ≤ L) {ρ : Nat → Nat → Nat} {σ : St} (hI : Inv ρ σ) (ih : ∀ ρ σ, Inv ρ σ → Lw L xs cells slots 1368 [some (.retAddr 6), some (.ref X), some (.ref M), some (.int (nI k))] [] (hp Γ ρ σ)) : Lw L xs cells slots 346 [some (.retAddr 6), some (.ref X), some (.ref M), some (.int (nI k))] [] (hp Γ ρ σ) := by
  refine lw_aload_n 1 dL_law_346 rfl rfl ?_
  refine lw_aload_s 0 dL_law_347 rfl rfl ?_
  refine lw_iload_n 3 dL_law_348 rfl rfl ?_
  refine lw_iconst 1 dL_law_349 (by decide) ?_
  refine lw_iadd dL_law_350 ?_
  refine lw_sld dL_law_351 (law_in (c := 1) (by omega) hL) ?_
  refine lw_aload_s 0 dL_law_352 rfl rfl ?_
  refine lw_iload_n 3 dL_law_353 rfl rfl ?_
  refine lw_iconst 2 dL_law_354 (by decide) ?_
  refine lw_iadd dL_law_355 ?_
  refine lw_sld dL_law_356 (law_in (c := 2) (by omega) hL) ?_
  obtain ⟨r, σ1, σ2, h1, h2, h3⟩ := A (xs (nI k + 1).toNatClampNeg) (xs (nI k + 2).toNatClampNeg) ρ σ hI
  refine lw_Vi (av := [.int (xs (nI k + 1).toNatClampNeg), .int (xs (nI k + 2).toNatClampNeg)]) (rest := []) (t_X11_hearth (hsh ρ σ hI) hX h1) ok_X11_hearth ml_L_32 dL_law_357 hX rfl rfl (by decide) hc hs (Nat.le_of_ble_eq_true rfl) ?_
  have hsp := hsh _ _ h3
  refine lw_aload_n 2 dL_law_360 rfl rfl ?_
  refine lw_aload_s 0 dL_law_361 rfl rfl ?_
  refine lw_iload_n 3 dL_law_362 rfl rfl ?_
  refine lw_iconst 1 dL_law_363 (by decide) ?_
  refine lw_iadd dL_law_364 ?_
  refine lw_sld dL_law_365 (law_in (c := 1) (by omega) hL) ?_
  refine lw_aload_s 0 dL_law_366 rfl rfl ?_
  refine lw_iload_n 3 dL_law_367 rfl rfl ?_
  refine lw_iconst 2 dL_law_368 (by decide) ?_
  refine lw_iadd dL_law_369 ?_
  refine lw_sld dL_law_370 (law_in (c := 2) (by omega) hL) ?_
  refine lw_Vi (av := [.int (xs (nI k + 1).toNatClampNeg), .int (xs (nI k + 2).toNatClampNeg)]) (rest := [.int r]) (t_X12_hearth hsp hM h2) ok_X12_hearth ml_L_36 dL_law_371 hM rfl rfl (by decide) hc hs (Nat.le_of_ble_eq_true rfl) ?_
  refine lw_icmp_eq 1368 dL_law_374 (by decide) (fun _ => ?_) (fun c => absurd rfl c)
  exact ih _ σ2 h3
set_option maxRecDepth 100000 in
set_option maxHeartbeats 4000000 in
theorem law_stool {Γ : SG} {N X M : Nat} (hX : Γ[X]? = some (0, 11)) (hM : Γ[M]? = some (0, 12)) {Inv : (Nat → Nat → Nat) → St → Prop} (hsh : ∀ ρ σ, Inv ρ σ → Sh Γ ρ) {L : Nat} {xs : Nat → Int32} {cells slots : Nat} (hL : L ≤ 3072) (hc : cells ≤ 600000) (hs : slots ≤ 7302249) (A : (∀ a1 : Int32, ∀ a2 : Int32, Api Inv (fun ρ σ => f_X11_stool N ρ X a1 a2 σ) (fun ρ σ => f_X12_stool N ρ M a1 a2 σ))) {k : Nat} (hk : k + 6 ≤ L) {ρ : Nat → Nat → Nat} {σ : St} (hI : Inv ρ σ) (ih : ∀ ρ σ, Inv ρ σ → Lw L xs cells slots 1368 [some (.retAddr 6), some (.ref X), some (.ref M), some (.int (nI k))] [] (hp Γ ρ σ)) : Lw L xs cells slots 379 [some (.retAddr 6), some (.ref X), some (.ref M), some (.int (nI k))] [] (hp Γ ρ σ) := by
  refine lw_aload_n 1 dL_law_379 rfl rfl ?_
  refine lw_aload_s 0 dL_law_380 rfl rfl ?_
  refine lw_iload_n 3 dL_law_381 rfl rfl ?_
  refine lw_iconst 1 dL_law_382 (by decide) ?_
  refine lw_iadd dL_law_383 ?_
  refine lw_sld dL_law_384 (law_in (c := 1) (by omega) hL) ?_
  refine lw_aload_s 0 dL_law_385 rfl rfl ?_
  refine lw_iload_n 3 dL_law_386 rfl rfl ?_
  refine lw_iconst 2 dL_law_387 (by decide) ?_
  refine lw_iadd dL_law_388 ?_
  refine lw_sld dL_law_389 (law_in (c := 2) (by omega) hL) ?_
  obtain ⟨r, σ1, σ2, h1, h2, h3⟩ := A (xs (nI k + 1).toNatClampNeg) (xs (nI k + 2).toNatClampNeg) ρ σ hI
  refine lw_Vi (av := [.int (xs (nI k + 1).toNatClampNeg), .int (xs (nI k + 2).toNatClampNeg)]) (rest := []) (t_X11_stool (hsh ρ σ hI) hX h1) ok_X11_stool ml_L_37 dL_law_390 hX rfl rfl (by decide) hc hs (Nat.le_of_ble_eq_true rfl) ?_
  have hsp := hsh _ _ h3
  refine lw_aload_n 2 dL_law_393 rfl rfl ?_
  refine lw_aload_s 0 dL_law_394 rfl rfl ?_
  refine lw_iload_n 3 dL_law_395 rfl rfl ?_
  refine lw_iconst 1 dL_law_396 (by decide) ?_
  refine lw_iadd dL_law_397 ?_
  refine lw_sld dL_law_398 (law_in (c := 1) (by omega) hL) ?_
  refine lw_aload_s 0 dL_law_399 rfl rfl ?_
  refine lw_iload_n 3 dL_law_400 rfl rfl ?_
  refine lw_iconst 2 dL_law_401 (by decide) ?_
  refine lw_iadd dL_law_402 ?_
  refine lw_sld dL_law_403 (law_in (c := 2) (by omega) hL) ?_
  refine lw_Vi (av := [.int (xs (nI k + 1).toNatClampNeg), .int (xs (nI k + 2).toNatClampNeg)]) (rest := [.int r]) (t_X12_stool hsp hM h2) ok_X12_stool ml_L_40 dL_law_404 hM rfl rfl (by decide) hc hs (Nat.le_of_ble_eq_true rfl) ?_
  refine lw_icmp_eq 1368 dL_law_407 (by decide) (fun _ => ?_) (fun c => absurd rfl c)
  exact ih _ σ2 h3
set_option maxRecDepth 100000 in
set_option maxHeartbeats 4000000 in
theorem law_load {Γ : SG} {N X M : Nat} (hX : Γ[X]? = some (0, 11)) (hM : Γ[M]? = some (0, 12)) {Inv : (Nat → Nat → Nat) → St → Prop} (hsh : ∀ ρ σ, Inv ρ σ → Sh Γ ρ) {L : Nat} {xs : Nat → Int32} {cells slots : Nat} (hL : L ≤ 3072) (hc : cells ≤ 600000) (hs : slots ≤ 7302249) (A : (∀ a1 : Int32, Api Inv (fun ρ σ => f_X11_load N ρ X a1 σ) (fun ρ σ => f_X12_load N ρ M a1 σ))) {k : Nat} (hk : k + 6 ≤ L) {ρ : Nat → Nat → Nat} {σ : St} (hI : Inv ρ σ) (ih : ∀ ρ σ, Inv ρ σ → Lw L xs cells slots 1368 [some (.retAddr 6), some (.ref X), some (.ref M), some (.int (nI k))] [] (hp Γ ρ σ)) : Lw L xs cells slots 412 [some (.retAddr 6), some (.ref X), some (.ref M), some (.int (nI k))] [] (hp Γ ρ σ) := by
  refine lw_aload_n 1 dL_law_412 rfl rfl ?_
  refine lw_aload_s 0 dL_law_413 rfl rfl ?_
  refine lw_iload_n 3 dL_law_414 rfl rfl ?_
  refine lw_iconst 1 dL_law_415 (by decide) ?_
  refine lw_iadd dL_law_416 ?_
  refine lw_sld dL_law_417 (law_in (c := 1) (by omega) hL) ?_
  obtain ⟨r, σ1, σ2, h1, h2, h3⟩ := A (xs (nI k + 1).toNatClampNeg) ρ σ hI
  refine lw_Vi (av := [.int (xs (nI k + 1).toNatClampNeg)]) (rest := []) (t_X11_load (hsh ρ σ hI) hX h1) ok_X11_load ml_L_41 dL_law_418 hX rfl rfl (by decide) hc hs (Nat.le_of_ble_eq_true rfl) ?_
  have hsp := hsh _ _ h3
  refine lw_aload_n 2 dL_law_421 rfl rfl ?_
  refine lw_aload_s 0 dL_law_422 rfl rfl ?_
  refine lw_iload_n 3 dL_law_423 rfl rfl ?_
  refine lw_iconst 1 dL_law_424 (by decide) ?_
  refine lw_iadd dL_law_425 ?_
  refine lw_sld dL_law_426 (law_in (c := 1) (by omega) hL) ?_
  refine lw_Vi (av := [.int (xs (nI k + 1).toNatClampNeg)]) (rest := [.int r]) (t_X12_load hsp hM h2) ok_X12_load ml_L_44 dL_law_427 hM rfl rfl (by decide) hc hs (Nat.le_of_ble_eq_true rfl) ?_
  refine lw_icmp_eq 1368 dL_law_430 (by decide) (fun _ => ?_) (fun c => absurd rfl c)
  exact ih _ σ2 h3
set_option maxRecDepth 100000 in
set_option maxHeartbeats 4000000 in
theorem law_send {Γ : SG} {N X M : Nat} (hX : Γ[X]? = some (0, 11)) (hM : Γ[M]? = some (0, 12)) {Inv : (Nat → Nat → Nat) → St → Prop} (hsh : ∀ ρ σ, Inv ρ σ → Sh Γ ρ) {L : Nat} {xs : Nat → Int32} {cells slots : Nat} (hL : L ≤ 3072) (hc : cells ≤ 600000) (hs : slots ≤ 7302249) (A : (∀ a1 : Int32, ∀ a2 : Int32, Api Inv (fun ρ σ => f_X11_send N ρ X a1 a2 σ) (fun ρ σ => f_X12_send N ρ M a1 a2 σ))) {k : Nat} (hk : k + 6 ≤ L) {ρ : Nat → Nat → Nat} {σ : St} (hI : Inv ρ σ) (ih : ∀ ρ σ, Inv ρ σ → Lw L xs cells slots 1368 [some (.retAddr 6), some (.ref X), some (.ref M), some (.int (nI k))] [] (hp Γ ρ σ)) : Lw L xs cells slots 435 [some (.retAddr 6), some (.ref X), some (.ref M), some (.int (nI k))] [] (hp Γ ρ σ) := by
  refine lw_aload_n 1 dL_law_435 rfl rfl ?_
  refine lw_aload_s 0 dL_law_436 rfl rfl ?_
  refine lw_iload_n 3 dL_law_437 rfl rfl ?_
  refine lw_iconst 1 dL_law_438 (by decide) ?_
  refine lw_iadd dL_law_439 ?_
  refine lw_sld dL_law_440 (law_in (c := 1) (by omega) hL) ?_
  refine lw_aload_s 0 dL_law_441 rfl rfl ?_
  refine lw_iload_n 3 dL_law_442 rfl rfl ?_
  refine lw_iconst 2 dL_law_443 (by decide) ?_
  refine lw_iadd dL_law_444 ?_
  refine lw_sld dL_law_445 (law_in (c := 2) (by omega) hL) ?_
  obtain ⟨r, σ1, σ2, h1, h2, h3⟩ := A (xs (nI k + 1).toNatClampNeg) (xs (nI k + 2).toNatClampNeg) ρ σ hI
  refine lw_Vi (av := [.int (xs (nI k + 1).toNatClampNeg), .int (xs (nI k + 2).toNatClampNeg)]) (rest := []) (t_X11_send (hsh ρ σ hI) hX h1) ok_X11_send ml_L_45 dL_law_446 hX rfl rfl (by decide) hc hs (Nat.le_of_ble_eq_true rfl) ?_
  have hsp := hsh _ _ h3
  refine lw_aload_n 2 dL_law_449 rfl rfl ?_
  refine lw_aload_s 0 dL_law_450 rfl rfl ?_
  refine lw_iload_n 3 dL_law_451 rfl rfl ?_
  refine lw_iconst 1 dL_law_452 (by decide) ?_
  refine lw_iadd dL_law_453 ?_
  refine lw_sld dL_law_454 (law_in (c := 1) (by omega) hL) ?_
  refine lw_aload_s 0 dL_law_455 rfl rfl ?_
  refine lw_iload_n 3 dL_law_456 rfl rfl ?_
  refine lw_iconst 2 dL_law_457 (by decide) ?_
  refine lw_iadd dL_law_458 ?_
  refine lw_sld dL_law_459 (law_in (c := 2) (by omega) hL) ?_
  refine lw_Vi (av := [.int (xs (nI k + 1).toNatClampNeg), .int (xs (nI k + 2).toNatClampNeg)]) (rest := [.int r]) (t_X12_send hsp hM h2) ok_X12_send ml_L_48 dL_law_460 hM rfl rfl (by decide) hc hs (Nat.le_of_ble_eq_true rfl) ?_
  refine lw_icmp_eq 1368 dL_law_463 (by decide) (fun _ => ?_) (fun c => absurd rfl c)
  exact ih _ σ2 h3
set_option maxRecDepth 100000 in
set_option maxHeartbeats 4000000 in
theorem law_call {Γ : SG} {N X M : Nat} (hX : Γ[X]? = some (0, 11)) (hM : Γ[M]? = some (0, 12)) {Inv : (Nat → Nat → Nat) → St → Prop} (hsh : ∀ ρ σ, Inv ρ σ → Sh Γ ρ) {L : Nat} {xs : Nat → Int32} {cells slots : Nat} (hL : L ≤ 3072) (hc : cells ≤ 600000) (hs : slots ≤ 7302249) (A : (∀ a1 : Int32, Api Inv (fun ρ σ => f_X11_call N ρ X a1 σ) (fun ρ σ => f_X12_call N ρ M a1 σ))) {k : Nat} (hk : k + 6 ≤ L) {ρ : Nat → Nat → Nat} {σ : St} (hI : Inv ρ σ) (ih : ∀ ρ σ, Inv ρ σ → Lw L xs cells slots 1368 [some (.retAddr 6), some (.ref X), some (.ref M), some (.int (nI k))] [] (hp Γ ρ σ)) : Lw L xs cells slots 468 [some (.retAddr 6), some (.ref X), some (.ref M), some (.int (nI k))] [] (hp Γ ρ σ) := by
  refine lw_aload_n 1 dL_law_468 rfl rfl ?_
  refine lw_aload_s 0 dL_law_469 rfl rfl ?_
  refine lw_iload_n 3 dL_law_470 rfl rfl ?_
  refine lw_iconst 1 dL_law_471 (by decide) ?_
  refine lw_iadd dL_law_472 ?_
  refine lw_sld dL_law_473 (law_in (c := 1) (by omega) hL) ?_
  obtain ⟨r, σ1, σ2, h1, h2, h3⟩ := A (xs (nI k + 1).toNatClampNeg) ρ σ hI
  refine lw_Vi (av := [.int (xs (nI k + 1).toNatClampNeg)]) (rest := []) (t_X11_call (hsh ρ σ hI) hX h1) ok_X11_call ml_L_49 dL_law_474 hX rfl rfl (by decide) hc hs (Nat.le_of_ble_eq_true rfl) ?_
  have hsp := hsh _ _ h3
  refine lw_aload_n 2 dL_law_477 rfl rfl ?_
  refine lw_aload_s 0 dL_law_478 rfl rfl ?_
  refine lw_iload_n 3 dL_law_479 rfl rfl ?_
  refine lw_iconst 1 dL_law_480 (by decide) ?_
  refine lw_iadd dL_law_481 ?_
  refine lw_sld dL_law_482 (law_in (c := 1) (by omega) hL) ?_
  refine lw_Vi (av := [.int (xs (nI k + 1).toNatClampNeg)]) (rest := [.int r]) (t_X12_call hsp hM h2) ok_X12_call ml_L_52 dL_law_483 hM rfl rfl (by decide) hc hs (Nat.le_of_ble_eq_true rfl) ?_
  refine lw_icmp_eq 1368 dL_law_486 (by decide) (fun _ => ?_) (fun c => absurd rfl c)
  exact ih _ σ2 h3
set_option maxRecDepth 100000 in
set_option maxHeartbeats 4000000 in
theorem law_evening {Γ : SG} {N X M : Nat} (hX : Γ[X]? = some (0, 11)) (hM : Γ[M]? = some (0, 12)) {Inv : (Nat → Nat → Nat) → St → Prop} (hsh : ∀ ρ σ, Inv ρ σ → Sh Γ ρ) {L : Nat} {xs : Nat → Int32} {cells slots : Nat} (hL : L ≤ 3072) (hc : cells ≤ 600000) (hs : slots ≤ 7302249) (A : (Api Inv (fun ρ σ => f_X11_evening N ρ X σ) (fun ρ σ => f_X12_evening N ρ M σ))) {k : Nat} (hk : k + 6 ≤ L) {ρ : Nat → Nat → Nat} {σ : St} (hI : Inv ρ σ) (ih : ∀ ρ σ, Inv ρ σ → Lw L xs cells slots 1368 [some (.retAddr 6), some (.ref X), some (.ref M), some (.int (nI k))] [] (hp Γ ρ σ)) : Lw L xs cells slots 491 [some (.retAddr 6), some (.ref X), some (.ref M), some (.int (nI k))] [] (hp Γ ρ σ) := by
  refine lw_aload_n 1 dL_law_491 rfl rfl ?_
  obtain ⟨r, σ1, σ2, h1, h2, h3⟩ := A ρ σ hI
  refine lw_Vi (av := []) (rest := []) (t_X11_evening (hsh ρ σ hI) hX h1) ok_X11_evening ml_L_53 dL_law_492 hX rfl rfl (by decide) hc hs (Nat.le_of_ble_eq_true rfl) ?_
  have hsp := hsh _ _ h3
  refine lw_aload_n 2 dL_law_495 rfl rfl ?_
  refine lw_Vi (av := []) (rest := [.int r]) (t_X12_evening hsp hM h2) ok_X12_evening ml_L_56 dL_law_496 hM rfl rfl (by decide) hc hs (Nat.le_of_ble_eq_true rfl) ?_
  refine lw_icmp_eq 1368 dL_law_499 (by decide) (fun _ => ?_) (fun c => absurd rfl c)
  exact ih _ σ2 h3
set_option maxRecDepth 100000 in
set_option maxHeartbeats 4000000 in
theorem law_undo {Γ : SG} {N X M : Nat} (hX : Γ[X]? = some (0, 11)) (hM : Γ[M]? = some (0, 12)) {Inv : (Nat → Nat → Nat) → St → Prop} (hsh : ∀ ρ σ, Inv ρ σ → Sh Γ ρ) {L : Nat} {xs : Nat → Int32} {cells slots : Nat} (hL : L ≤ 3072) (hc : cells ≤ 600000) (hs : slots ≤ 7302249) (A : (Api Inv (fun ρ σ => f_X11_undo N ρ X σ) (fun ρ σ => f_X12_undo N ρ M σ))) {k : Nat} (hk : k + 6 ≤ L) {ρ : Nat → Nat → Nat} {σ : St} (hI : Inv ρ σ) (ih : ∀ ρ σ, Inv ρ σ → Lw L xs cells slots 1368 [some (.retAddr 6), some (.ref X), some (.ref M), some (.int (nI k))] [] (hp Γ ρ σ)) : Lw L xs cells slots 504 [some (.retAddr 6), some (.ref X), some (.ref M), some (.int (nI k))] [] (hp Γ ρ σ) := by
  refine lw_aload_n 1 dL_law_504 rfl rfl ?_
  obtain ⟨r, σ1, σ2, h1, h2, h3⟩ := A ρ σ hI
  refine lw_Vi (av := []) (rest := []) (t_X11_undo (hsh ρ σ hI) hX h1) ok_X11_undo ml_L_57 dL_law_505 hX rfl rfl (by decide) hc hs (Nat.le_of_ble_eq_true rfl) ?_
  have hsp := hsh _ _ h3
  refine lw_aload_n 2 dL_law_508 rfl rfl ?_
  refine lw_Vi (av := []) (rest := [.int r]) (t_X12_undo hsp hM h2) ok_X12_undo ml_L_61 dL_law_509 hM rfl rfl (by decide) hc hs (Nat.le_of_ble_eq_true rfl) ?_
  refine lw_icmp_eq 1368 dL_law_512 (by decide) (fun _ => ?_) (fun c => absurd rfl c)
  exact ih _ σ2 h3
set_option maxRecDepth 100000 in
set_option maxHeartbeats 4000000 in
theorem law_redo {Γ : SG} {N X M : Nat} (hX : Γ[X]? = some (0, 11)) (hM : Γ[M]? = some (0, 12)) {Inv : (Nat → Nat → Nat) → St → Prop} (hsh : ∀ ρ σ, Inv ρ σ → Sh Γ ρ) {L : Nat} {xs : Nat → Int32} {cells slots : Nat} (hL : L ≤ 3072) (hc : cells ≤ 600000) (hs : slots ≤ 7302249) (A : (Api Inv (fun ρ σ => f_X11_redo N ρ X σ) (fun ρ σ => f_X12_redo N ρ M σ))) {k : Nat} (hk : k + 6 ≤ L) {ρ : Nat → Nat → Nat} {σ : St} (hI : Inv ρ σ) (ih : ∀ ρ σ, Inv ρ σ → Lw L xs cells slots 1368 [some (.retAddr 6), some (.ref X), some (.ref M), some (.int (nI k))] [] (hp Γ ρ σ)) : Lw L xs cells slots 517 [some (.retAddr 6), some (.ref X), some (.ref M), some (.int (nI k))] [] (hp Γ ρ σ) := by
  refine lw_aload_n 1 dL_law_517 rfl rfl ?_
  obtain ⟨r, σ1, σ2, h1, h2, h3⟩ := A ρ σ hI
  refine lw_Vi (av := []) (rest := []) (t_X11_redo (hsh ρ σ hI) hX h1) ok_X11_redo ml_L_62 dL_law_518 hX rfl rfl (by decide) hc hs (Nat.le_of_ble_eq_true rfl) ?_
  have hsp := hsh _ _ h3
  refine lw_aload_n 2 dL_law_521 rfl rfl ?_
  refine lw_Vi (av := []) (rest := [.int r]) (t_X12_redo hsp hM h2) ok_X12_redo ml_L_65 dL_law_522 hM rfl rfl (by decide) hc hs (Nat.le_of_ble_eq_true rfl) ?_
  refine lw_icmp_eq 1368 dL_law_525 (by decide) (fun _ => ?_) (fun c => absurd rfl c)
  exact ih _ σ2 h3
set_option maxRecDepth 100000 in
set_option maxHeartbeats 4000000 in
theorem law_tonight {Γ : SG} {N X M : Nat} (hX : Γ[X]? = some (0, 11)) (hM : Γ[M]? = some (0, 12)) {Inv : (Nat → Nat → Nat) → St → Prop} (hsh : ∀ ρ σ, Inv ρ σ → Sh Γ ρ) {L : Nat} {xs : Nat → Int32} {cells slots : Nat} (hL : L ≤ 3072) (hc : cells ≤ 600000) (hs : slots ≤ 7302249) (A : (∀ a1 : Int32, Api Inv (fun ρ σ => f_X11_tonight N ρ X a1 σ) (fun ρ σ => f_X12_tonight N ρ M a1 σ))) {k : Nat} (hk : k + 6 ≤ L) {ρ : Nat → Nat → Nat} {σ : St} (hI : Inv ρ σ) (ih : ∀ ρ σ, Inv ρ σ → Lw L xs cells slots 1368 [some (.retAddr 6), some (.ref X), some (.ref M), some (.int (nI k))] [] (hp Γ ρ σ)) : Lw L xs cells slots 530 [some (.retAddr 6), some (.ref X), some (.ref M), some (.int (nI k))] [] (hp Γ ρ σ) := by
  refine lw_aload_n 1 dL_law_530 rfl rfl ?_
  refine lw_aload_s 0 dL_law_531 rfl rfl ?_
  refine lw_iload_n 3 dL_law_532 rfl rfl ?_
  refine lw_iconst 1 dL_law_533 (by decide) ?_
  refine lw_iadd dL_law_534 ?_
  refine lw_sld dL_law_535 (law_in (c := 1) (by omega) hL) ?_
  obtain ⟨r, σ1, σ2, h1, h2, h3⟩ := A (xs (nI k + 1).toNatClampNeg) ρ σ hI
  refine lw_Vi (av := [.int (xs (nI k + 1).toNatClampNeg)]) (rest := []) (t_X11_tonight (hsh ρ σ hI) hX h1) ok_X11_tonight ml_L_66 dL_law_536 hX rfl rfl (by decide) hc hs (Nat.le_of_ble_eq_true rfl) ?_
  have hsp := hsh _ _ h3
  refine lw_aload_n 2 dL_law_539 rfl rfl ?_
  refine lw_aload_s 0 dL_law_540 rfl rfl ?_
  refine lw_iload_n 3 dL_law_541 rfl rfl ?_
  refine lw_iconst 1 dL_law_542 (by decide) ?_
  refine lw_iadd dL_law_543 ?_
  refine lw_sld dL_law_544 (law_in (c := 1) (by omega) hL) ?_
  refine lw_Vi (av := [.int (xs (nI k + 1).toNatClampNeg)]) (rest := [.int r]) (t_X12_tonight hsp hM h2) ok_X12_tonight ml_L_69 dL_law_545 hM rfl rfl (by decide) hc hs (Nat.le_of_ble_eq_true rfl) ?_
  refine lw_icmp_eq 1368 dL_law_548 (by decide) (fun _ => ?_) (fun c => absurd rfl c)
  exact ih _ σ2 h3
set_option maxRecDepth 100000 in
set_option maxHeartbeats 4000000 in
theorem law_walk {Γ : SG} {N X M : Nat} (hX : Γ[X]? = some (0, 11)) (hM : Γ[M]? = some (0, 12)) {Inv : (Nat → Nat → Nat) → St → Prop} (hsh : ∀ ρ σ, Inv ρ σ → Sh Γ ρ) {L : Nat} {xs : Nat → Int32} {cells slots : Nat} (hL : L ≤ 3072) (hc : cells ≤ 600000) (hs : slots ≤ 7302249) (A : (Api Inv (fun ρ σ => f_X11_walk N ρ X σ) (fun ρ σ => f_X12_walk N ρ M σ))) {k : Nat} (hk : k + 6 ≤ L) {ρ : Nat → Nat → Nat} {σ : St} (hI : Inv ρ σ) (ih : ∀ ρ σ, Inv ρ σ → Lw L xs cells slots 1368 [some (.retAddr 6), some (.ref X), some (.ref M), some (.int (nI k))] [] (hp Γ ρ σ)) : Lw L xs cells slots 553 [some (.retAddr 6), some (.ref X), some (.ref M), some (.int (nI k))] [] (hp Γ ρ σ) := by
  refine lw_aload_n 1 dL_law_553 rfl rfl ?_
  obtain ⟨r, σ1, σ2, h1, h2, h3⟩ := A ρ σ hI
  refine lw_Vi (av := []) (rest := []) (t_X11_walk (hsh ρ σ hI) hX h1) ok_X11_walk ml_L_70 dL_law_554 hX rfl rfl (by decide) hc hs (Nat.le_of_ble_eq_true rfl) ?_
  have hsp := hsh _ _ h3
  refine lw_aload_n 2 dL_law_557 rfl rfl ?_
  refine lw_Vi (av := []) (rest := [.int r]) (t_X12_walk hsp hM h2) ok_X12_walk ml_L_73 dL_law_558 hM rfl rfl (by decide) hc hs (Nat.le_of_ble_eq_true rfl) ?_
  refine lw_icmp_eq 1368 dL_law_561 (by decide) (fun _ => ?_) (fun c => absurd rfl c)
  exact ih _ σ2 h3
set_option maxRecDepth 100000 in
set_option maxHeartbeats 4000000 in
theorem law_round {Γ : SG} {N X M : Nat} (hX : Γ[X]? = some (0, 11)) (hM : Γ[M]? = some (0, 12)) {Inv : (Nat → Nat → Nat) → St → Prop} (hsh : ∀ ρ σ, Inv ρ σ → Sh Γ ρ) {L : Nat} {xs : Nat → Int32} {cells slots : Nat} (hL : L ≤ 3072) (hc : cells ≤ 600000) (hs : slots ≤ 7302249) (A : (∀ a1 : Int32, Api Inv (fun ρ σ => f_X11_round N ρ X a1 σ) (fun ρ σ => f_X12_round N ρ M a1 σ))) {k : Nat} (hk : k + 6 ≤ L) {ρ : Nat → Nat → Nat} {σ : St} (hI : Inv ρ σ) (ih : ∀ ρ σ, Inv ρ σ → Lw L xs cells slots 1368 [some (.retAddr 6), some (.ref X), some (.ref M), some (.int (nI k))] [] (hp Γ ρ σ)) : Lw L xs cells slots 566 [some (.retAddr 6), some (.ref X), some (.ref M), some (.int (nI k))] [] (hp Γ ρ σ) := by
  refine lw_aload_n 1 dL_law_566 rfl rfl ?_
  refine lw_aload_s 0 dL_law_567 rfl rfl ?_
  refine lw_iload_n 3 dL_law_568 rfl rfl ?_
  refine lw_iconst 1 dL_law_569 (by decide) ?_
  refine lw_iadd dL_law_570 ?_
  refine lw_sld dL_law_571 (law_in (c := 1) (by omega) hL) ?_
  obtain ⟨r, σ1, σ2, h1, h2, h3⟩ := A (xs (nI k + 1).toNatClampNeg) ρ σ hI
  refine lw_Vi (av := [.int (xs (nI k + 1).toNatClampNeg)]) (rest := []) (t_X11_round (hsh ρ σ hI) hX h1) ok_X11_round ml_L_74 dL_law_572 hX rfl rfl (by decide) hc hs (Nat.le_of_ble_eq_true rfl) ?_
  have hsp := hsh _ _ h3
  refine lw_aload_n 2 dL_law_575 rfl rfl ?_
  refine lw_aload_s 0 dL_law_576 rfl rfl ?_
  refine lw_iload_n 3 dL_law_577 rfl rfl ?_
  refine lw_iconst 1 dL_law_578 (by decide) ?_
  refine lw_iadd dL_law_579 ?_
  refine lw_sld dL_law_580 (law_in (c := 1) (by omega) hL) ?_
  refine lw_Vi (av := [.int (xs (nI k + 1).toNatClampNeg)]) (rest := [.int r]) (t_X12_round hsp hM h2) ok_X12_round ml_L_77 dL_law_581 hM rfl rfl (by decide) hc hs (Nat.le_of_ble_eq_true rfl) ?_
  refine lw_icmp_eq 1368 dL_law_584 (by decide) (fun _ => ?_) (fun c => absurd rfl c)
  exact ih _ σ2 h3
set_option maxRecDepth 100000 in
set_option maxHeartbeats 4000000 in
theorem law_service {Γ : SG} {N X M : Nat} (hX : Γ[X]? = some (0, 11)) (hM : Γ[M]? = some (0, 12)) {Inv : (Nat → Nat → Nat) → St → Prop} (hsh : ∀ ρ σ, Inv ρ σ → Sh Γ ρ) {L : Nat} {xs : Nat → Int32} {cells slots : Nat} (hL : L ≤ 3072) (hc : cells ≤ 600000) (hs : slots ≤ 7302249) (A : (Api Inv (fun ρ σ => f_X11_service N ρ X σ) (fun ρ σ => f_X12_service N ρ M σ))) {k : Nat} (hk : k + 6 ≤ L) {ρ : Nat → Nat → Nat} {σ : St} (hI : Inv ρ σ) (ih : ∀ ρ σ, Inv ρ σ → Lw L xs cells slots 1368 [some (.retAddr 6), some (.ref X), some (.ref M), some (.int (nI k))] [] (hp Γ ρ σ)) : Lw L xs cells slots 589 [some (.retAddr 6), some (.ref X), some (.ref M), some (.int (nI k))] [] (hp Γ ρ σ) := by
  refine lw_aload_n 1 dL_law_589 rfl rfl ?_
  obtain ⟨r, σ1, σ2, h1, h2, h3⟩ := A ρ σ hI
  refine lw_Vi (av := []) (rest := []) (t_X11_service (hsh ρ σ hI) hX h1) ok_X11_service ml_L_78 dL_law_590 hX rfl rfl (by decide) hc hs (Nat.le_of_ble_eq_true rfl) ?_
  have hsp := hsh _ _ h3
  refine lw_aload_n 2 dL_law_593 rfl rfl ?_
  refine lw_Vi (av := []) (rest := [.int r]) (t_X12_service hsp hM h2) ok_X12_service ml_L_81 dL_law_594 hM rfl rfl (by decide) hc hs (Nat.le_of_ble_eq_true rfl) ?_
  refine lw_icmp_eq 1368 dL_law_597 (by decide) (fun _ => ?_) (fun c => absurd rfl c)
  exact ih _ σ2 h3
set_option maxRecDepth 100000 in
set_option maxHeartbeats 4000000 in
theorem law_team {Γ : SG} {N X M : Nat} (hX : Γ[X]? = some (0, 11)) (hM : Γ[M]? = some (0, 12)) {Inv : (Nat → Nat → Nat) → St → Prop} (hsh : ∀ ρ σ, Inv ρ σ → Sh Γ ρ) {L : Nat} {xs : Nat → Int32} {cells slots : Nat} (hL : L ≤ 3072) (hc : cells ≤ 600000) (hs : slots ≤ 7302249) (A : (∀ a1 : Int32, ∀ a2 : Int32, Api Inv (fun ρ σ => f_X11_team N ρ X a1 a2 σ) (fun ρ σ => f_X12_team N ρ M a1 a2 σ))) {k : Nat} (hk : k + 6 ≤ L) {ρ : Nat → Nat → Nat} {σ : St} (hI : Inv ρ σ) (ih : ∀ ρ σ, Inv ρ σ → Lw L xs cells slots 1368 [some (.retAddr 6), some (.ref X), some (.ref M), some (.int (nI k))] [] (hp Γ ρ σ)) : Lw L xs cells slots 602 [some (.retAddr 6), some (.ref X), some (.ref M), some (.int (nI k))] [] (hp Γ ρ σ) := by
  refine lw_aload_n 1 dL_law_602 rfl rfl ?_
  refine lw_aload_s 0 dL_law_603 rfl rfl ?_
  refine lw_iload_n 3 dL_law_604 rfl rfl ?_
  refine lw_iconst 1 dL_law_605 (by decide) ?_
  refine lw_iadd dL_law_606 ?_
  refine lw_sld dL_law_607 (law_in (c := 1) (by omega) hL) ?_
  refine lw_aload_s 0 dL_law_608 rfl rfl ?_
  refine lw_iload_n 3 dL_law_609 rfl rfl ?_
  refine lw_iconst 2 dL_law_610 (by decide) ?_
  refine lw_iadd dL_law_611 ?_
  refine lw_sld dL_law_612 (law_in (c := 2) (by omega) hL) ?_
  obtain ⟨r, σ1, σ2, h1, h2, h3⟩ := A (xs (nI k + 1).toNatClampNeg) (xs (nI k + 2).toNatClampNeg) ρ σ hI
  refine lw_Vi (av := [.int (xs (nI k + 1).toNatClampNeg), .int (xs (nI k + 2).toNatClampNeg)]) (rest := []) (t_X11_team (hsh ρ σ hI) hX h1) ok_X11_team ml_L_82 dL_law_613 hX rfl rfl (by decide) hc hs (Nat.le_of_ble_eq_true rfl) ?_
  have hsp := hsh _ _ h3
  refine lw_aload_n 2 dL_law_616 rfl rfl ?_
  refine lw_aload_s 0 dL_law_617 rfl rfl ?_
  refine lw_iload_n 3 dL_law_618 rfl rfl ?_
  refine lw_iconst 1 dL_law_619 (by decide) ?_
  refine lw_iadd dL_law_620 ?_
  refine lw_sld dL_law_621 (law_in (c := 1) (by omega) hL) ?_
  refine lw_aload_s 0 dL_law_622 rfl rfl ?_
  refine lw_iload_n 3 dL_law_623 rfl rfl ?_
  refine lw_iconst 2 dL_law_624 (by decide) ?_
  refine lw_iadd dL_law_625 ?_
  refine lw_sld dL_law_626 (law_in (c := 2) (by omega) hL) ?_
  refine lw_Vi (av := [.int (xs (nI k + 1).toNatClampNeg), .int (xs (nI k + 2).toNatClampNeg)]) (rest := [.int r]) (t_X12_team hsp hM h2) ok_X12_team ml_L_85 dL_law_627 hM rfl rfl (by decide) hc hs (Nat.le_of_ble_eq_true rfl) ?_
  refine lw_icmp_eq 1368 dL_law_630 (by decide) (fun _ => ?_) (fun c => absurd rfl c)
  exact ih _ σ2 h3
set_option maxRecDepth 100000 in
set_option maxHeartbeats 4000000 in
theorem law_lasts {Γ : SG} {N X M : Nat} (hX : Γ[X]? = some (0, 11)) (hM : Γ[M]? = some (0, 12)) {Inv : (Nat → Nat → Nat) → St → Prop} (hsh : ∀ ρ σ, Inv ρ σ → Sh Γ ρ) {L : Nat} {xs : Nat → Int32} {cells slots : Nat} (hL : L ≤ 3072) (hc : cells ≤ 600000) (hs : slots ≤ 7302249) (A : (∀ a1 : Int32, ∀ a2 : Int32, Api Inv (fun ρ σ => f_X11_lasts N ρ X a1 a2 σ) (fun ρ σ => f_X12_lasts N ρ M a1 a2 σ))) {k : Nat} (hk : k + 6 ≤ L) {ρ : Nat → Nat → Nat} {σ : St} (hI : Inv ρ σ) (ih : ∀ ρ σ, Inv ρ σ → Lw L xs cells slots 1368 [some (.retAddr 6), some (.ref X), some (.ref M), some (.int (nI k))] [] (hp Γ ρ σ)) : Lw L xs cells slots 635 [some (.retAddr 6), some (.ref X), some (.ref M), some (.int (nI k))] [] (hp Γ ρ σ) := by
  refine lw_aload_n 1 dL_law_635 rfl rfl ?_
  refine lw_aload_s 0 dL_law_636 rfl rfl ?_
  refine lw_iload_n 3 dL_law_637 rfl rfl ?_
  refine lw_iconst 1 dL_law_638 (by decide) ?_
  refine lw_iadd dL_law_639 ?_
  refine lw_sld dL_law_640 (law_in (c := 1) (by omega) hL) ?_
  refine lw_aload_s 0 dL_law_641 rfl rfl ?_
  refine lw_iload_n 3 dL_law_642 rfl rfl ?_
  refine lw_iconst 2 dL_law_643 (by decide) ?_
  refine lw_iadd dL_law_644 ?_
  refine lw_sld dL_law_645 (law_in (c := 2) (by omega) hL) ?_
  obtain ⟨r, σ1, σ2, h1, h2, h3⟩ := A (xs (nI k + 1).toNatClampNeg) (xs (nI k + 2).toNatClampNeg) ρ σ hI
  refine lw_Vi (av := [.int (xs (nI k + 1).toNatClampNeg), .int (xs (nI k + 2).toNatClampNeg)]) (rest := []) (t_X11_lasts (hsh ρ σ hI) hX h1) ok_X11_lasts ml_L_86 dL_law_646 hX rfl rfl (by decide) hc hs (Nat.le_of_ble_eq_true rfl) ?_
  have hsp := hsh _ _ h3
  refine lw_aload_n 2 dL_law_649 rfl rfl ?_
  refine lw_aload_s 0 dL_law_650 rfl rfl ?_
  refine lw_iload_n 3 dL_law_651 rfl rfl ?_
  refine lw_iconst 1 dL_law_652 (by decide) ?_
  refine lw_iadd dL_law_653 ?_
  refine lw_sld dL_law_654 (law_in (c := 1) (by omega) hL) ?_
  refine lw_aload_s 0 dL_law_655 rfl rfl ?_
  refine lw_iload_n 3 dL_law_656 rfl rfl ?_
  refine lw_iconst 2 dL_law_657 (by decide) ?_
  refine lw_iadd dL_law_658 ?_
  refine lw_sld dL_law_659 (law_in (c := 2) (by omega) hL) ?_
  refine lw_Vi (av := [.int (xs (nI k + 1).toNatClampNeg), .int (xs (nI k + 2).toNatClampNeg)]) (rest := [.int r]) (t_X12_lasts hsp hM h2) ok_X12_lasts ml_L_89 dL_law_660 hM rfl rfl (by decide) hc hs (Nat.le_of_ble_eq_true rfl) ?_
  refine lw_icmp_eq 1368 dL_law_663 (by decide) (fun _ => ?_) (fun c => absurd rfl c)
  exact ih _ σ2 h3
set_option maxRecDepth 100000 in
set_option maxHeartbeats 4000000 in
theorem law_soon {Γ : SG} {N X M : Nat} (hX : Γ[X]? = some (0, 11)) (hM : Γ[M]? = some (0, 12)) {Inv : (Nat → Nat → Nat) → St → Prop} (hsh : ∀ ρ σ, Inv ρ σ → Sh Γ ρ) {L : Nat} {xs : Nat → Int32} {cells slots : Nat} (hL : L ≤ 3072) (hc : cells ≤ 600000) (hs : slots ≤ 7302249) (A : (∀ a1 : Int32, ∀ a2 : Int32, Api Inv (fun ρ σ => f_X11_soon N ρ X a1 a2 σ) (fun ρ σ => f_X12_soon N ρ M a1 a2 σ))) {k : Nat} (hk : k + 6 ≤ L) {ρ : Nat → Nat → Nat} {σ : St} (hI : Inv ρ σ) (ih : ∀ ρ σ, Inv ρ σ → Lw L xs cells slots 1368 [some (.retAddr 6), some (.ref X), some (.ref M), some (.int (nI k))] [] (hp Γ ρ σ)) : Lw L xs cells slots 668 [some (.retAddr 6), some (.ref X), some (.ref M), some (.int (nI k))] [] (hp Γ ρ σ) := by
  refine lw_aload_n 1 dL_law_668 rfl rfl ?_
  refine lw_aload_s 0 dL_law_669 rfl rfl ?_
  refine lw_iload_n 3 dL_law_670 rfl rfl ?_
  refine lw_iconst 1 dL_law_671 (by decide) ?_
  refine lw_iadd dL_law_672 ?_
  refine lw_sld dL_law_673 (law_in (c := 1) (by omega) hL) ?_
  refine lw_aload_s 0 dL_law_674 rfl rfl ?_
  refine lw_iload_n 3 dL_law_675 rfl rfl ?_
  refine lw_iconst 2 dL_law_676 (by decide) ?_
  refine lw_iadd dL_law_677 ?_
  refine lw_sld dL_law_678 (law_in (c := 2) (by omega) hL) ?_
  obtain ⟨r, σ1, σ2, h1, h2, h3⟩ := A (xs (nI k + 1).toNatClampNeg) (xs (nI k + 2).toNatClampNeg) ρ σ hI
  refine lw_Vi (av := [.int (xs (nI k + 1).toNatClampNeg), .int (xs (nI k + 2).toNatClampNeg)]) (rest := []) (t_X11_soon (hsh ρ σ hI) hX h1) ok_X11_soon ml_L_90 dL_law_679 hX rfl rfl (by decide) hc hs (Nat.le_of_ble_eq_true rfl) ?_
  have hsp := hsh _ _ h3
  refine lw_aload_n 2 dL_law_682 rfl rfl ?_
  refine lw_aload_s 0 dL_law_683 rfl rfl ?_
  refine lw_iload_n 3 dL_law_684 rfl rfl ?_
  refine lw_iconst 1 dL_law_685 (by decide) ?_
  refine lw_iadd dL_law_686 ?_
  refine lw_sld dL_law_687 (law_in (c := 1) (by omega) hL) ?_
  refine lw_aload_s 0 dL_law_688 rfl rfl ?_
  refine lw_iload_n 3 dL_law_689 rfl rfl ?_
  refine lw_iconst 2 dL_law_690 (by decide) ?_
  refine lw_iadd dL_law_691 ?_
  refine lw_sld dL_law_692 (law_in (c := 2) (by omega) hL) ?_
  refine lw_Vi (av := [.int (xs (nI k + 1).toNatClampNeg), .int (xs (nI k + 2).toNatClampNeg)]) (rest := [.int r]) (t_X12_soon hsp hM h2) ok_X12_soon ml_L_93 dL_law_693 hM rfl rfl (by decide) hc hs (Nat.le_of_ble_eq_true rfl) ?_
  refine lw_icmp_eq 1368 dL_law_696 (by decide) (fun _ => ?_) (fun c => absurd rfl c)
  exact ih _ σ2 h3
set_option maxRecDepth 100000 in
set_option maxHeartbeats 4000000 in
theorem law_change {Γ : SG} {N X M : Nat} (hX : Γ[X]? = some (0, 11)) (hM : Γ[M]? = some (0, 12)) {Inv : (Nat → Nat → Nat) → St → Prop} (hsh : ∀ ρ σ, Inv ρ σ → Sh Γ ρ) {L : Nat} {xs : Nat → Int32} {cells slots : Nat} (hL : L ≤ 3072) (hc : cells ≤ 600000) (hs : slots ≤ 7302249) (A : (∀ a1 : Int32, Api Inv (fun ρ σ => f_X11_change N ρ X a1 σ) (fun ρ σ => f_X12_change N ρ M a1 σ))) {k : Nat} (hk : k + 6 ≤ L) {ρ : Nat → Nat → Nat} {σ : St} (hI : Inv ρ σ) (ih : ∀ ρ σ, Inv ρ σ → Lw L xs cells slots 1368 [some (.retAddr 6), some (.ref X), some (.ref M), some (.int (nI k))] [] (hp Γ ρ σ)) : Lw L xs cells slots 701 [some (.retAddr 6), some (.ref X), some (.ref M), some (.int (nI k))] [] (hp Γ ρ σ) := by
  refine lw_aload_n 1 dL_law_701 rfl rfl ?_
  refine lw_aload_s 0 dL_law_702 rfl rfl ?_
  refine lw_iload_n 3 dL_law_703 rfl rfl ?_
  refine lw_iconst 1 dL_law_704 (by decide) ?_
  refine lw_iadd dL_law_705 ?_
  refine lw_sld dL_law_706 (law_in (c := 1) (by omega) hL) ?_
  obtain ⟨r, σ1, σ2, h1, h2, h3⟩ := A (xs (nI k + 1).toNatClampNeg) ρ σ hI
  refine lw_Vi (av := [.int (xs (nI k + 1).toNatClampNeg)]) (rest := []) (t_X11_change (hsh ρ σ hI) hX h1) ok_X11_change ml_L_94 dL_law_707 hX rfl rfl (by decide) hc hs (Nat.le_of_ble_eq_true rfl) ?_
  have hsp := hsh _ _ h3
  refine lw_aload_n 2 dL_law_710 rfl rfl ?_
  refine lw_aload_s 0 dL_law_711 rfl rfl ?_
  refine lw_iload_n 3 dL_law_712 rfl rfl ?_
  refine lw_iconst 1 dL_law_713 (by decide) ?_
  refine lw_iadd dL_law_714 ?_
  refine lw_sld dL_law_715 (law_in (c := 1) (by omega) hL) ?_
  refine lw_Vi (av := [.int (xs (nI k + 1).toNatClampNeg)]) (rest := [.int r]) (t_X12_change hsp hM h2) ok_X12_change ml_L_97 dL_law_716 hM rfl rfl (by decide) hc hs (Nat.le_of_ble_eq_true rfl) ?_
  refine lw_icmp_eq 1368 dL_law_719 (by decide) (fun _ => ?_) (fun c => absurd rfl c)
  exact ih _ σ2 h3
set_option maxRecDepth 100000 in
set_option maxHeartbeats 4000000 in
theorem law_guests {Γ : SG} {N X M : Nat} (hX : Γ[X]? = some (0, 11)) (hM : Γ[M]? = some (0, 12)) {Inv : (Nat → Nat → Nat) → St → Prop} (hsh : ∀ ρ σ, Inv ρ σ → Sh Γ ρ) {L : Nat} {xs : Nat → Int32} {cells slots : Nat} (hL : L ≤ 3072) (hc : cells ≤ 600000) (hs : slots ≤ 7302249) (A : (∀ a1 : Int32, ∀ a2 : Int32, Api Inv (fun ρ σ => f_X11_guests N ρ X a1 a2 σ) (fun ρ σ => f_X12_guests N ρ M a1 a2 σ))) {k : Nat} (hk : k + 6 ≤ L) {ρ : Nat → Nat → Nat} {σ : St} (hI : Inv ρ σ) (ih : ∀ ρ σ, Inv ρ σ → Lw L xs cells slots 1368 [some (.retAddr 6), some (.ref X), some (.ref M), some (.int (nI k))] [] (hp Γ ρ σ)) : Lw L xs cells slots 724 [some (.retAddr 6), some (.ref X), some (.ref M), some (.int (nI k))] [] (hp Γ ρ σ) := by
  refine lw_aload_n 1 dL_law_724 rfl rfl ?_
  refine lw_aload_s 0 dL_law_725 rfl rfl ?_
  refine lw_iload_n 3 dL_law_726 rfl rfl ?_
  refine lw_iconst 1 dL_law_727 (by decide) ?_
  refine lw_iadd dL_law_728 ?_
  refine lw_sld dL_law_729 (law_in (c := 1) (by omega) hL) ?_
  refine lw_aload_s 0 dL_law_730 rfl rfl ?_
  refine lw_iload_n 3 dL_law_731 rfl rfl ?_
  refine lw_iconst 2 dL_law_732 (by decide) ?_
  refine lw_iadd dL_law_733 ?_
  refine lw_sld dL_law_734 (law_in (c := 2) (by omega) hL) ?_
  obtain ⟨r, σ1, σ2, h1, h2, h3⟩ := A (xs (nI k + 1).toNatClampNeg) (xs (nI k + 2).toNatClampNeg) ρ σ hI
  refine lw_Vi (av := [.int (xs (nI k + 1).toNatClampNeg), .int (xs (nI k + 2).toNatClampNeg)]) (rest := []) (t_X11_guests (hsh ρ σ hI) hX h1) ok_X11_guests ml_L_98 dL_law_735 hX rfl rfl (by decide) hc hs (Nat.le_of_ble_eq_true rfl) ?_
  have hsp := hsh _ _ h3
  refine lw_aload_n 2 dL_law_738 rfl rfl ?_
  refine lw_aload_s 0 dL_law_739 rfl rfl ?_
  refine lw_iload_n 3 dL_law_740 rfl rfl ?_
  refine lw_iconst 1 dL_law_741 (by decide) ?_
  refine lw_iadd dL_law_742 ?_
  refine lw_sld dL_law_743 (law_in (c := 1) (by omega) hL) ?_
  refine lw_aload_s 0 dL_law_744 rfl rfl ?_
  refine lw_iload_n 3 dL_law_745 rfl rfl ?_
  refine lw_iconst 2 dL_law_746 (by decide) ?_
  refine lw_iadd dL_law_747 ?_
  refine lw_sld dL_law_748 (law_in (c := 2) (by omega) hL) ?_
  refine lw_Vi (av := [.int (xs (nI k + 1).toNatClampNeg), .int (xs (nI k + 2).toNatClampNeg)]) (rest := [.int r]) (t_X12_guests hsp hM h2) ok_X12_guests ml_L_101 dL_law_749 hM rfl rfl (by decide) hc hs (Nat.le_of_ble_eq_true rfl) ?_
  refine lw_icmp_eq 1368 dL_law_752 (by decide) (fun _ => ?_) (fun c => absurd rfl c)
  exact ih _ σ2 h3
set_option maxRecDepth 100000 in
set_option maxHeartbeats 4000000 in
theorem law_cover {Γ : SG} {N X M : Nat} (hX : Γ[X]? = some (0, 11)) (hM : Γ[M]? = some (0, 12)) {Inv : (Nat → Nat → Nat) → St → Prop} (hsh : ∀ ρ σ, Inv ρ σ → Sh Γ ρ) {L : Nat} {xs : Nat → Int32} {cells slots : Nat} (hL : L ≤ 3072) (hc : cells ≤ 600000) (hs : slots ≤ 7302249) (A : (∀ a1 : Int32, Api Inv (fun ρ σ => f_X11_cover N ρ X a1 σ) (fun ρ σ => f_X12_cover N ρ M a1 σ))) {k : Nat} (hk : k + 6 ≤ L) {ρ : Nat → Nat → Nat} {σ : St} (hI : Inv ρ σ) (ih : ∀ ρ σ, Inv ρ σ → Lw L xs cells slots 1368 [some (.retAddr 6), some (.ref X), some (.ref M), some (.int (nI k))] [] (hp Γ ρ σ)) : Lw L xs cells slots 757 [some (.retAddr 6), some (.ref X), some (.ref M), some (.int (nI k))] [] (hp Γ ρ σ) := by
  refine lw_aload_n 1 dL_law_757 rfl rfl ?_
  refine lw_aload_s 0 dL_law_758 rfl rfl ?_
  refine lw_iload_n 3 dL_law_759 rfl rfl ?_
  refine lw_iconst 1 dL_law_760 (by decide) ?_
  refine lw_iadd dL_law_761 ?_
  refine lw_sld dL_law_762 (law_in (c := 1) (by omega) hL) ?_
  obtain ⟨r, σ1, σ2, h1, h2, h3⟩ := A (xs (nI k + 1).toNatClampNeg) ρ σ hI
  refine lw_Vi (av := [.int (xs (nI k + 1).toNatClampNeg)]) (rest := []) (t_X11_cover (hsh ρ σ hI) hX h1) ok_X11_cover ml_L_102 dL_law_763 hX rfl rfl (by decide) hc hs (Nat.le_of_ble_eq_true rfl) ?_
  have hsp := hsh _ _ h3
  refine lw_aload_n 2 dL_law_766 rfl rfl ?_
  refine lw_aload_s 0 dL_law_767 rfl rfl ?_
  refine lw_iload_n 3 dL_law_768 rfl rfl ?_
  refine lw_iconst 1 dL_law_769 (by decide) ?_
  refine lw_iadd dL_law_770 ?_
  refine lw_sld dL_law_771 (law_in (c := 1) (by omega) hL) ?_
  refine lw_Vi (av := [.int (xs (nI k + 1).toNatClampNeg)]) (rest := [.int r]) (t_X12_cover hsp hM h2) ok_X12_cover ml_L_105 dL_law_772 hM rfl rfl (by decide) hc hs (Nat.le_of_ble_eq_true rfl) ?_
  refine lw_icmp_eq 1368 dL_law_775 (by decide) (fun _ => ?_) (fun c => absurd rfl c)
  exact ih _ σ2 h3
set_option maxRecDepth 100000 in
set_option maxHeartbeats 4000000 in
theorem law_pilgrim {Γ : SG} {N X M : Nat} (hX : Γ[X]? = some (0, 11)) (hM : Γ[M]? = some (0, 12)) {Inv : (Nat → Nat → Nat) → St → Prop} (hsh : ∀ ρ σ, Inv ρ σ → Sh Γ ρ) {L : Nat} {xs : Nat → Int32} {cells slots : Nat} (hL : L ≤ 3072) (hc : cells ≤ 600000) (hs : slots ≤ 7302249) (A : (∀ a1 : Int32, Api Inv (fun ρ σ => f_X11_pilgrim N ρ X a1 σ) (fun ρ σ => f_X12_pilgrim N ρ M a1 σ))) {k : Nat} (hk : k + 6 ≤ L) {ρ : Nat → Nat → Nat} {σ : St} (hI : Inv ρ σ) (ih : ∀ ρ σ, Inv ρ σ → Lw L xs cells slots 1368 [some (.retAddr 6), some (.ref X), some (.ref M), some (.int (nI k))] [] (hp Γ ρ σ)) : Lw L xs cells slots 780 [some (.retAddr 6), some (.ref X), some (.ref M), some (.int (nI k))] [] (hp Γ ρ σ) := by
  refine lw_aload_n 1 dL_law_780 rfl rfl ?_
  refine lw_aload_s 0 dL_law_781 rfl rfl ?_
  refine lw_iload_n 3 dL_law_782 rfl rfl ?_
  refine lw_iconst 1 dL_law_783 (by decide) ?_
  refine lw_iadd dL_law_784 ?_
  refine lw_sld dL_law_785 (law_in (c := 1) (by omega) hL) ?_
  obtain ⟨r, σ1, σ2, h1, h2, h3⟩ := A (xs (nI k + 1).toNatClampNeg) ρ σ hI
  refine lw_Vi (av := [.int (xs (nI k + 1).toNatClampNeg)]) (rest := []) (t_X11_pilgrim (hsh ρ σ hI) hX h1) ok_X11_pilgrim ml_L_106 dL_law_786 hX rfl rfl (by decide) hc hs (Nat.le_of_ble_eq_true rfl) ?_
  have hsp := hsh _ _ h3
  refine lw_aload_n 2 dL_law_789 rfl rfl ?_
  refine lw_aload_s 0 dL_law_790 rfl rfl ?_
  refine lw_iload_n 3 dL_law_791 rfl rfl ?_
  refine lw_iconst 1 dL_law_792 (by decide) ?_
  refine lw_iadd dL_law_793 ?_
  refine lw_sld dL_law_794 (law_in (c := 1) (by omega) hL) ?_
  refine lw_Vi (av := [.int (xs (nI k + 1).toNatClampNeg)]) (rest := [.int r]) (t_X12_pilgrim hsp hM h2) ok_X12_pilgrim ml_L_109 dL_law_795 hM rfl rfl (by decide) hc hs (Nat.le_of_ble_eq_true rfl) ?_
  refine lw_icmp_eq 1368 dL_law_798 (by decide) (fun _ => ?_) (fun c => absurd rfl c)
  exact ih _ σ2 h3
set_option maxRecDepth 100000 in
set_option maxHeartbeats 4000000 in
theorem law_will {Γ : SG} {N X M : Nat} (hX : Γ[X]? = some (0, 11)) (hM : Γ[M]? = some (0, 12)) {Inv : (Nat → Nat → Nat) → St → Prop} (hsh : ∀ ρ σ, Inv ρ σ → Sh Γ ρ) {L : Nat} {xs : Nat → Int32} {cells slots : Nat} (hL : L ≤ 3072) (hc : cells ≤ 600000) (hs : slots ≤ 7302249) (A : (∀ a1 : Int32, ∀ a2 : Int32, Api Inv (fun ρ σ => f_X11_will N ρ X a1 a2 σ) (fun ρ σ => f_X12_will N ρ M a1 a2 σ))) {k : Nat} (hk : k + 6 ≤ L) {ρ : Nat → Nat → Nat} {σ : St} (hI : Inv ρ σ) (ih : ∀ ρ σ, Inv ρ σ → Lw L xs cells slots 1368 [some (.retAddr 6), some (.ref X), some (.ref M), some (.int (nI k))] [] (hp Γ ρ σ)) : Lw L xs cells slots 803 [some (.retAddr 6), some (.ref X), some (.ref M), some (.int (nI k))] [] (hp Γ ρ σ) := by
  refine lw_aload_n 1 dL_law_803 rfl rfl ?_
  refine lw_aload_s 0 dL_law_804 rfl rfl ?_
  refine lw_iload_n 3 dL_law_805 rfl rfl ?_
  refine lw_iconst 1 dL_law_806 (by decide) ?_
  refine lw_iadd dL_law_807 ?_
  refine lw_sld dL_law_808 (law_in (c := 1) (by omega) hL) ?_
  refine lw_aload_s 0 dL_law_809 rfl rfl ?_
  refine lw_iload_n 3 dL_law_810 rfl rfl ?_
  refine lw_iconst 2 dL_law_811 (by decide) ?_
  refine lw_iadd dL_law_812 ?_
  refine lw_sld dL_law_813 (law_in (c := 2) (by omega) hL) ?_
  obtain ⟨r, σ1, σ2, h1, h2, h3⟩ := A (xs (nI k + 1).toNatClampNeg) (xs (nI k + 2).toNatClampNeg) ρ σ hI
  refine lw_Vi (av := [.int (xs (nI k + 1).toNatClampNeg), .int (xs (nI k + 2).toNatClampNeg)]) (rest := []) (t_X11_will (hsh ρ σ hI) hX h1) ok_X11_will ml_L_110 dL_law_814 hX rfl rfl (by decide) hc hs (Nat.le_of_ble_eq_true rfl) ?_
  have hsp := hsh _ _ h3
  refine lw_aload_n 2 dL_law_817 rfl rfl ?_
  refine lw_aload_s 0 dL_law_818 rfl rfl ?_
  refine lw_iload_n 3 dL_law_819 rfl rfl ?_
  refine lw_iconst 1 dL_law_820 (by decide) ?_
  refine lw_iadd dL_law_821 ?_
  refine lw_sld dL_law_822 (law_in (c := 1) (by omega) hL) ?_
  refine lw_aload_s 0 dL_law_823 rfl rfl ?_
  refine lw_iload_n 3 dL_law_824 rfl rfl ?_
  refine lw_iconst 2 dL_law_825 (by decide) ?_
  refine lw_iadd dL_law_826 ?_
  refine lw_sld dL_law_827 (law_in (c := 2) (by omega) hL) ?_
  refine lw_Vi (av := [.int (xs (nI k + 1).toNatClampNeg), .int (xs (nI k + 2).toNatClampNeg)]) (rest := [.int r]) (t_X12_will hsp hM h2) ok_X12_will ml_L_113 dL_law_828 hM rfl rfl (by decide) hc hs (Nat.le_of_ble_eq_true rfl) ?_
  refine lw_icmp_eq 1368 dL_law_831 (by decide) (fun _ => ?_) (fun c => absurd rfl c)
  exact ih _ σ2 h3
set_option maxRecDepth 100000 in
set_option maxHeartbeats 4000000 in
theorem law_strength {Γ : SG} {N X M : Nat} (hX : Γ[X]? = some (0, 11)) (hM : Γ[M]? = some (0, 12)) {Inv : (Nat → Nat → Nat) → St → Prop} (hsh : ∀ ρ σ, Inv ρ σ → Sh Γ ρ) {L : Nat} {xs : Nat → Int32} {cells slots : Nat} (hL : L ≤ 3072) (hc : cells ≤ 600000) (hs : slots ≤ 7302249) (A : (∀ a1 : Int32, ∀ a2 : Int32, Api Inv (fun ρ σ => f_X11_strength N ρ X a1 a2 σ) (fun ρ σ => f_X12_strength N ρ M a1 a2 σ))) {k : Nat} (hk : k + 6 ≤ L) {ρ : Nat → Nat → Nat} {σ : St} (hI : Inv ρ σ) (ih : ∀ ρ σ, Inv ρ σ → Lw L xs cells slots 1368 [some (.retAddr 6), some (.ref X), some (.ref M), some (.int (nI k))] [] (hp Γ ρ σ)) : Lw L xs cells slots 836 [some (.retAddr 6), some (.ref X), some (.ref M), some (.int (nI k))] [] (hp Γ ρ σ) := by
  refine lw_aload_n 1 dL_law_836 rfl rfl ?_
  refine lw_aload_s 0 dL_law_837 rfl rfl ?_
  refine lw_iload_n 3 dL_law_838 rfl rfl ?_
  refine lw_iconst 1 dL_law_839 (by decide) ?_
  refine lw_iadd dL_law_840 ?_
  refine lw_sld dL_law_841 (law_in (c := 1) (by omega) hL) ?_
  refine lw_aload_s 0 dL_law_842 rfl rfl ?_
  refine lw_iload_n 3 dL_law_843 rfl rfl ?_
  refine lw_iconst 2 dL_law_844 (by decide) ?_
  refine lw_iadd dL_law_845 ?_
  refine lw_sld dL_law_846 (law_in (c := 2) (by omega) hL) ?_
  obtain ⟨r, σ1, σ2, h1, h2, h3⟩ := A (xs (nI k + 1).toNatClampNeg) (xs (nI k + 2).toNatClampNeg) ρ σ hI
  refine lw_Vi (av := [.int (xs (nI k + 1).toNatClampNeg), .int (xs (nI k + 2).toNatClampNeg)]) (rest := []) (t_X11_strength (hsh ρ σ hI) hX h1) ok_X11_strength ml_L_114 dL_law_847 hX rfl rfl (by decide) hc hs (Nat.le_of_ble_eq_true rfl) ?_
  have hsp := hsh _ _ h3
  refine lw_aload_n 2 dL_law_850 rfl rfl ?_
  refine lw_aload_s 0 dL_law_851 rfl rfl ?_
  refine lw_iload_n 3 dL_law_852 rfl rfl ?_
  refine lw_iconst 1 dL_law_853 (by decide) ?_
  refine lw_iadd dL_law_854 ?_
  refine lw_sld dL_law_855 (law_in (c := 1) (by omega) hL) ?_
  refine lw_aload_s 0 dL_law_856 rfl rfl ?_
  refine lw_iload_n 3 dL_law_857 rfl rfl ?_
  refine lw_iconst 2 dL_law_858 (by decide) ?_
  refine lw_iadd dL_law_859 ?_
  refine lw_sld dL_law_860 (law_in (c := 2) (by omega) hL) ?_
  refine lw_Vi (av := [.int (xs (nI k + 1).toNatClampNeg), .int (xs (nI k + 2).toNatClampNeg)]) (rest := [.int r]) (t_X12_strength hsp hM h2) ok_X12_strength ml_L_117 dL_law_861 hM rfl rfl (by decide) hc hs (Nat.le_of_ble_eq_true rfl) ?_
  refine lw_icmp_eq 1368 dL_law_864 (by decide) (fun _ => ?_) (fun c => absurd rfl c)
  exact ih _ σ2 h3
set_option maxRecDepth 100000 in
set_option maxHeartbeats 4000000 in
theorem law_saved {Γ : SG} {N X M : Nat} (hX : Γ[X]? = some (0, 11)) (hM : Γ[M]? = some (0, 12)) {Inv : (Nat → Nat → Nat) → St → Prop} (hsh : ∀ ρ σ, Inv ρ σ → Sh Γ ρ) {L : Nat} {xs : Nat → Int32} {cells slots : Nat} (hL : L ≤ 3072) (hc : cells ≤ 600000) (hs : slots ≤ 7302249) (A : (Api Inv (fun ρ σ => f_X11_saved N ρ X σ) (fun ρ σ => f_X12_saved N ρ M σ))) {k : Nat} (hk : k + 6 ≤ L) {ρ : Nat → Nat → Nat} {σ : St} (hI : Inv ρ σ) (ih : ∀ ρ σ, Inv ρ σ → Lw L xs cells slots 1368 [some (.retAddr 6), some (.ref X), some (.ref M), some (.int (nI k))] [] (hp Γ ρ σ)) : Lw L xs cells slots 869 [some (.retAddr 6), some (.ref X), some (.ref M), some (.int (nI k))] [] (hp Γ ρ σ) := by
  refine lw_aload_n 1 dL_law_869 rfl rfl ?_
  obtain ⟨r, σ1, σ2, h1, h2, h3⟩ := A ρ σ hI
  refine lw_Vi (av := []) (rest := []) (t_X11_saved (hsh ρ σ hI) hX h1) ok_X11_saved ml_L_118 dL_law_870 hX rfl rfl (by decide) hc hs (Nat.le_of_ble_eq_true rfl) ?_
  have hsp := hsh _ _ h3
  refine lw_aload_n 2 dL_law_873 rfl rfl ?_
  refine lw_Vi (av := []) (rest := [.int r]) (t_X12_saved hsp hM h2) ok_X12_saved ml_L_121 dL_law_874 hM rfl rfl (by decide) hc hs (Nat.le_of_ble_eq_true rfl) ?_
  refine lw_icmp_eq 1368 dL_law_877 (by decide) (fun _ => ?_) (fun c => absurd rfl c)
  exact ih _ σ2 h3
set_option maxRecDepth 100000 in
set_option maxHeartbeats 4000000 in
theorem law_grace {Γ : SG} {N X M : Nat} (hX : Γ[X]? = some (0, 11)) (hM : Γ[M]? = some (0, 12)) {Inv : (Nat → Nat → Nat) → St → Prop} (hsh : ∀ ρ σ, Inv ρ σ → Sh Γ ρ) {L : Nat} {xs : Nat → Int32} {cells slots : Nat} (hL : L ≤ 3072) (hc : cells ≤ 600000) (hs : slots ≤ 7302249) (A : (Api Inv (fun ρ σ => f_X11_grace N ρ X σ) (fun ρ σ => f_X12_grace N ρ M σ))) {k : Nat} (hk : k + 6 ≤ L) {ρ : Nat → Nat → Nat} {σ : St} (hI : Inv ρ σ) (ih : ∀ ρ σ, Inv ρ σ → Lw L xs cells slots 1368 [some (.retAddr 6), some (.ref X), some (.ref M), some (.int (nI k))] [] (hp Γ ρ σ)) : Lw L xs cells slots 882 [some (.retAddr 6), some (.ref X), some (.ref M), some (.int (nI k))] [] (hp Γ ρ σ) := by
  refine lw_aload_n 1 dL_law_882 rfl rfl ?_
  obtain ⟨r, σ1, σ2, h1, h2, h3⟩ := A ρ σ hI
  refine lw_Vi (av := []) (rest := []) (t_X11_grace (hsh ρ σ hI) hX h1) ok_X11_grace ml_L_122 dL_law_883 hX rfl rfl (by decide) hc hs (Nat.le_of_ble_eq_true rfl) ?_
  have hsp := hsh _ _ h3
  refine lw_aload_n 2 dL_law_886 rfl rfl ?_
  refine lw_Vi (av := []) (rest := [.int r]) (t_X12_grace hsp hM h2) ok_X12_grace ml_L_125 dL_law_887 hM rfl rfl (by decide) hc hs (Nat.le_of_ble_eq_true rfl) ?_
  refine lw_icmp_eq 1368 dL_law_890 (by decide) (fun _ => ?_) (fun c => absurd rfl c)
  exact ih _ σ2 h3
set_option maxRecDepth 100000 in
set_option maxHeartbeats 4000000 in
theorem law_easiest {Γ : SG} {N X M : Nat} (hX : Γ[X]? = some (0, 11)) (hM : Γ[M]? = some (0, 12)) {Inv : (Nat → Nat → Nat) → St → Prop} (hsh : ∀ ρ σ, Inv ρ σ → Sh Γ ρ) {L : Nat} {xs : Nat → Int32} {cells slots : Nat} (hL : L ≤ 3072) (hc : cells ≤ 600000) (hs : slots ≤ 7302249) (A : (∀ a1 : Int32, Api Inv (fun ρ σ => f_X11_easiest N ρ X a1 σ) (fun ρ σ => f_X12_easiest N ρ M a1 σ))) {k : Nat} (hk : k + 6 ≤ L) {ρ : Nat → Nat → Nat} {σ : St} (hI : Inv ρ σ) (ih : ∀ ρ σ, Inv ρ σ → Lw L xs cells slots 1368 [some (.retAddr 6), some (.ref X), some (.ref M), some (.int (nI k))] [] (hp Γ ρ σ)) : Lw L xs cells slots 895 [some (.retAddr 6), some (.ref X), some (.ref M), some (.int (nI k))] [] (hp Γ ρ σ) := by
  refine lw_aload_n 1 dL_law_895 rfl rfl ?_
  refine lw_aload_s 0 dL_law_896 rfl rfl ?_
  refine lw_iload_n 3 dL_law_897 rfl rfl ?_
  refine lw_iconst 1 dL_law_898 (by decide) ?_
  refine lw_iadd dL_law_899 ?_
  refine lw_sld dL_law_900 (law_in (c := 1) (by omega) hL) ?_
  obtain ⟨r, σ1, σ2, h1, h2, h3⟩ := A (xs (nI k + 1).toNatClampNeg) ρ σ hI
  refine lw_Vi (av := [.int (xs (nI k + 1).toNatClampNeg)]) (rest := []) (t_X11_easiest (hsh ρ σ hI) hX h1) ok_X11_easiest ml_L_126 dL_law_901 hX rfl rfl (by decide) hc hs (Nat.le_of_ble_eq_true rfl) ?_
  have hsp := hsh _ _ h3
  refine lw_aload_n 2 dL_law_904 rfl rfl ?_
  refine lw_aload_s 0 dL_law_905 rfl rfl ?_
  refine lw_iload_n 3 dL_law_906 rfl rfl ?_
  refine lw_iconst 1 dL_law_907 (by decide) ?_
  refine lw_iadd dL_law_908 ?_
  refine lw_sld dL_law_909 (law_in (c := 1) (by omega) hL) ?_
  refine lw_Vi (av := [.int (xs (nI k + 1).toNatClampNeg)]) (rest := [.int r]) (t_X12_easiest hsp hM h2) ok_X12_easiest ml_L_129 dL_law_910 hM rfl rfl (by decide) hc hs (Nat.le_of_ble_eq_true rfl) ?_
  refine lw_icmp_eq 1368 dL_law_913 (by decide) (fun _ => ?_) (fun c => absurd rfl c)
  exact ih _ σ2 h3
set_option maxRecDepth 100000 in
set_option maxHeartbeats 4000000 in
theorem law_forlorn {Γ : SG} {N X M : Nat} (hX : Γ[X]? = some (0, 11)) (hM : Γ[M]? = some (0, 12)) {Inv : (Nat → Nat → Nat) → St → Prop} (hsh : ∀ ρ σ, Inv ρ σ → Sh Γ ρ) {L : Nat} {xs : Nat → Int32} {cells slots : Nat} (hL : L ≤ 3072) (hc : cells ≤ 600000) (hs : slots ≤ 7302249) (A : (Api Inv (fun ρ σ => f_X11_forlorn N ρ X σ) (fun ρ σ => f_X12_forlorn N ρ M σ))) {k : Nat} (hk : k + 6 ≤ L) {ρ : Nat → Nat → Nat} {σ : St} (hI : Inv ρ σ) (ih : ∀ ρ σ, Inv ρ σ → Lw L xs cells slots 1368 [some (.retAddr 6), some (.ref X), some (.ref M), some (.int (nI k))] [] (hp Γ ρ σ)) : Lw L xs cells slots 918 [some (.retAddr 6), some (.ref X), some (.ref M), some (.int (nI k))] [] (hp Γ ρ σ) := by
  refine lw_aload_n 1 dL_law_918 rfl rfl ?_
  obtain ⟨r, σ1, σ2, h1, h2, h3⟩ := A ρ σ hI
  refine lw_Vi (av := []) (rest := []) (t_X11_forlorn (hsh ρ σ hI) hX h1) ok_X11_forlorn ml_L_130 dL_law_919 hX rfl rfl (by decide) hc hs (Nat.le_of_ble_eq_true rfl) ?_
  have hsp := hsh _ _ h3
  refine lw_aload_n 2 dL_law_922 rfl rfl ?_
  refine lw_Vi (av := []) (rest := [.int r]) (t_X12_forlorn hsp hM h2) ok_X12_forlorn ml_L_133 dL_law_923 hM rfl rfl (by decide) hc hs (Nat.le_of_ble_eq_true rfl) ?_
  refine lw_icmp_eq 1368 dL_law_926 (by decide) (fun _ => ?_) (fun c => absurd rfl c)
  exact ih _ σ2 h3
set_option maxRecDepth 100000 in
set_option maxHeartbeats 4000000 in
theorem law_nearest {Γ : SG} {N X M : Nat} (hX : Γ[X]? = some (0, 11)) (hM : Γ[M]? = some (0, 12)) {Inv : (Nat → Nat → Nat) → St → Prop} (hsh : ∀ ρ σ, Inv ρ σ → Sh Γ ρ) {L : Nat} {xs : Nat → Int32} {cells slots : Nat} (hL : L ≤ 3072) (hc : cells ≤ 600000) (hs : slots ≤ 7302249) (A : (∀ a1 : Int32, Api Inv (fun ρ σ => f_X11_nearest N ρ X a1 σ) (fun ρ σ => f_X12_nearest N ρ M a1 σ))) {k : Nat} (hk : k + 6 ≤ L) {ρ : Nat → Nat → Nat} {σ : St} (hI : Inv ρ σ) (ih : ∀ ρ σ, Inv ρ σ → Lw L xs cells slots 1368 [some (.retAddr 6), some (.ref X), some (.ref M), some (.int (nI k))] [] (hp Γ ρ σ)) : Lw L xs cells slots 931 [some (.retAddr 6), some (.ref X), some (.ref M), some (.int (nI k))] [] (hp Γ ρ σ) := by
  refine lw_aload_n 1 dL_law_931 rfl rfl ?_
  refine lw_aload_s 0 dL_law_932 rfl rfl ?_
  refine lw_iload_n 3 dL_law_933 rfl rfl ?_
  refine lw_iconst 1 dL_law_934 (by decide) ?_
  refine lw_iadd dL_law_935 ?_
  refine lw_sld dL_law_936 (law_in (c := 1) (by omega) hL) ?_
  obtain ⟨r, σ1, σ2, h1, h2, h3⟩ := A (xs (nI k + 1).toNatClampNeg) ρ σ hI
  refine lw_Vi (av := [.int (xs (nI k + 1).toNatClampNeg)]) (rest := []) (t_X11_nearest (hsh ρ σ hI) hX h1) ok_X11_nearest ml_L_134 dL_law_937 hX rfl rfl (by decide) hc hs (Nat.le_of_ble_eq_true rfl) ?_
  have hsp := hsh _ _ h3
  refine lw_aload_n 2 dL_law_940 rfl rfl ?_
  refine lw_aload_s 0 dL_law_941 rfl rfl ?_
  refine lw_iload_n 3 dL_law_942 rfl rfl ?_
  refine lw_iconst 1 dL_law_943 (by decide) ?_
  refine lw_iadd dL_law_944 ?_
  refine lw_sld dL_law_945 (law_in (c := 1) (by omega) hL) ?_
  refine lw_Vi (av := [.int (xs (nI k + 1).toNatClampNeg)]) (rest := [.int r]) (t_X12_nearest hsp hM h2) ok_X12_nearest ml_L_137 dL_law_946 hM rfl rfl (by decide) hc hs (Nat.le_of_ble_eq_true rfl) ?_
  refine lw_icmp_eq 1368 dL_law_949 (by decide) (fun _ => ?_) (fun c => absurd rfl c)
  exact ih _ σ2 h3
set_option maxRecDepth 100000 in
set_option maxHeartbeats 4000000 in
theorem law_law {Γ : SG} {N X M : Nat} (hX : Γ[X]? = some (0, 11)) (hM : Γ[M]? = some (0, 12)) {Inv : (Nat → Nat → Nat) → St → Prop} (hsh : ∀ ρ σ, Inv ρ σ → Sh Γ ρ) {L : Nat} {xs : Nat → Int32} {cells slots : Nat} (hL : L ≤ 3072) (hc : cells ≤ 600000) (hs : slots ≤ 7302249) (A : (∀ a1 : Int32, Api Inv (fun ρ σ => f_X11_law N ρ X a1 σ) (fun ρ σ => f_X12_law N ρ M a1 σ))) {k : Nat} (hk : k + 6 ≤ L) {ρ : Nat → Nat → Nat} {σ : St} (hI : Inv ρ σ) (ih : ∀ ρ σ, Inv ρ σ → Lw L xs cells slots 1368 [some (.retAddr 6), some (.ref X), some (.ref M), some (.int (nI k))] [] (hp Γ ρ σ)) : Lw L xs cells slots 954 [some (.retAddr 6), some (.ref X), some (.ref M), some (.int (nI k))] [] (hp Γ ρ σ) := by
  refine lw_aload_n 1 dL_law_954 rfl rfl ?_
  refine lw_aload_s 0 dL_law_955 rfl rfl ?_
  refine lw_iload_n 3 dL_law_956 rfl rfl ?_
  refine lw_iconst 1 dL_law_957 (by decide) ?_
  refine lw_iadd dL_law_958 ?_
  refine lw_sld dL_law_959 (law_in (c := 1) (by omega) hL) ?_
  obtain ⟨r, σ1, σ2, h1, h2, h3⟩ := A (xs (nI k + 1).toNatClampNeg) ρ σ hI
  refine lw_Vi (av := [.int (xs (nI k + 1).toNatClampNeg)]) (rest := []) (t_X11_law (hsh ρ σ hI) hX h1) ok_X11_law ml_L_138 dL_law_960 hX rfl rfl (by decide) hc hs (Nat.le_of_ble_eq_true rfl) ?_
  have hsp := hsh _ _ h3
  refine lw_aload_n 2 dL_law_963 rfl rfl ?_
  refine lw_aload_s 0 dL_law_964 rfl rfl ?_
  refine lw_iload_n 3 dL_law_965 rfl rfl ?_
  refine lw_iconst 1 dL_law_966 (by decide) ?_
  refine lw_iadd dL_law_967 ?_
  refine lw_sld dL_law_968 (law_in (c := 1) (by omega) hL) ?_
  refine lw_Vi (av := [.int (xs (nI k + 1).toNatClampNeg)]) (rest := [.int r]) (t_X12_law hsp hM h2) ok_X12_law ml_L_141 dL_law_969 hM rfl rfl (by decide) hc hs (Nat.le_of_ble_eq_true rfl) ?_
  refine lw_icmp_eq 1368 dL_law_972 (by decide) (fun _ => ?_) (fun c => absurd rfl c)
  exact ih _ σ2 h3
set_option maxRecDepth 100000 in
set_option maxHeartbeats 4000000 in
theorem law_schisms {Γ : SG} {N X M : Nat} (hX : Γ[X]? = some (0, 11)) (hM : Γ[M]? = some (0, 12)) {Inv : (Nat → Nat → Nat) → St → Prop} (hsh : ∀ ρ σ, Inv ρ σ → Sh Γ ρ) {L : Nat} {xs : Nat → Int32} {cells slots : Nat} (hL : L ≤ 3072) (hc : cells ≤ 600000) (hs : slots ≤ 7302249) (A : (Api Inv (fun ρ σ => f_X11_schisms N ρ X σ) (fun ρ σ => f_X12_schisms N ρ M σ))) {k : Nat} (hk : k + 6 ≤ L) {ρ : Nat → Nat → Nat} {σ : St} (hI : Inv ρ σ) (ih : ∀ ρ σ, Inv ρ σ → Lw L xs cells slots 1368 [some (.retAddr 6), some (.ref X), some (.ref M), some (.int (nI k))] [] (hp Γ ρ σ)) : Lw L xs cells slots 977 [some (.retAddr 6), some (.ref X), some (.ref M), some (.int (nI k))] [] (hp Γ ρ σ) := by
  refine lw_aload_n 1 dL_law_977 rfl rfl ?_
  obtain ⟨r, σ1, σ2, h1, h2, h3⟩ := A ρ σ hI
  refine lw_Vi (av := []) (rest := []) (t_X11_schisms (hsh ρ σ hI) hX h1) ok_X11_schisms ml_L_142 dL_law_978 hX rfl rfl (by decide) hc hs (Nat.le_of_ble_eq_true rfl) ?_
  have hsp := hsh _ _ h3
  refine lw_aload_n 2 dL_law_981 rfl rfl ?_
  refine lw_Vi (av := []) (rest := [.int r]) (t_X12_schisms hsp hM h2) ok_X12_schisms ml_L_145 dL_law_982 hM rfl rfl (by decide) hc hs (Nat.le_of_ble_eq_true rfl) ?_
  refine lw_icmp_eq 1368 dL_law_985 (by decide) (fun _ => ?_) (fun c => absurd rfl c)
  exact ih _ σ2 h3
set_option maxRecDepth 100000 in
set_option maxHeartbeats 4000000 in
theorem law_odds {Γ : SG} {N X M : Nat} (hX : Γ[X]? = some (0, 11)) (hM : Γ[M]? = some (0, 12)) {Inv : (Nat → Nat → Nat) → St → Prop} (hsh : ∀ ρ σ, Inv ρ σ → Sh Γ ρ) {L : Nat} {xs : Nat → Int32} {cells slots : Nat} (hL : L ≤ 3072) (hc : cells ≤ 600000) (hs : slots ≤ 7302249) (A : (∀ a1 : Int32, ∀ a2 : Int32, Api Inv (fun ρ σ => f_X11_odds N ρ X a1 a2 σ) (fun ρ σ => f_X12_odds N ρ M a1 a2 σ))) {k : Nat} (hk : k + 6 ≤ L) {ρ : Nat → Nat → Nat} {σ : St} (hI : Inv ρ σ) (ih : ∀ ρ σ, Inv ρ σ → Lw L xs cells slots 1368 [some (.retAddr 6), some (.ref X), some (.ref M), some (.int (nI k))] [] (hp Γ ρ σ)) : Lw L xs cells slots 990 [some (.retAddr 6), some (.ref X), some (.ref M), some (.int (nI k))] [] (hp Γ ρ σ) := by
  refine lw_aload_n 1 dL_law_990 rfl rfl ?_
  refine lw_aload_s 0 dL_law_991 rfl rfl ?_
  refine lw_iload_n 3 dL_law_992 rfl rfl ?_
  refine lw_iconst 1 dL_law_993 (by decide) ?_
  refine lw_iadd dL_law_994 ?_
  refine lw_sld dL_law_995 (law_in (c := 1) (by omega) hL) ?_
  refine lw_aload_s 0 dL_law_996 rfl rfl ?_
  refine lw_iload_n 3 dL_law_997 rfl rfl ?_
  refine lw_iconst 2 dL_law_998 (by decide) ?_
  refine lw_iadd dL_law_999 ?_
  refine lw_sld dL_law_1000 (law_in (c := 2) (by omega) hL) ?_
  obtain ⟨r, σ1, σ2, h1, h2, h3⟩ := A (xs (nI k + 1).toNatClampNeg) (xs (nI k + 2).toNatClampNeg) ρ σ hI
  refine lw_Vi (av := [.int (xs (nI k + 1).toNatClampNeg), .int (xs (nI k + 2).toNatClampNeg)]) (rest := []) (t_X11_odds (hsh ρ σ hI) hX h1) ok_X11_odds ml_L_146 dL_law_1001 hX rfl rfl (by decide) hc hs (Nat.le_of_ble_eq_true rfl) ?_
  have hsp := hsh _ _ h3
  refine lw_aload_n 2 dL_law_1004 rfl rfl ?_
  refine lw_aload_s 0 dL_law_1005 rfl rfl ?_
  refine lw_iload_n 3 dL_law_1006 rfl rfl ?_
  refine lw_iconst 1 dL_law_1007 (by decide) ?_
  refine lw_iadd dL_law_1008 ?_
  refine lw_sld dL_law_1009 (law_in (c := 1) (by omega) hL) ?_
  refine lw_aload_s 0 dL_law_1010 rfl rfl ?_
  refine lw_iload_n 3 dL_law_1011 rfl rfl ?_
  refine lw_iconst 2 dL_law_1012 (by decide) ?_
  refine lw_iadd dL_law_1013 ?_
  refine lw_sld dL_law_1014 (law_in (c := 2) (by omega) hL) ?_
  refine lw_Vi (av := [.int (xs (nI k + 1).toNatClampNeg), .int (xs (nI k + 2).toNatClampNeg)]) (rest := [.int r]) (t_X12_odds hsp hM h2) ok_X12_odds ml_L_149 dL_law_1015 hM rfl rfl (by decide) hc hs (Nat.le_of_ble_eq_true rfl) ?_
  refine lw_icmp_eq 1368 dL_law_1018 (by decide) (fun _ => ?_) (fun c => absurd rfl c)
  exact ih _ σ2 h3
set_option maxRecDepth 100000 in
set_option maxHeartbeats 4000000 in
theorem law_lies {Γ : SG} {N X M : Nat} (hX : Γ[X]? = some (0, 11)) (hM : Γ[M]? = some (0, 12)) {Inv : (Nat → Nat → Nat) → St → Prop} (hsh : ∀ ρ σ, Inv ρ σ → Sh Γ ρ) {L : Nat} {xs : Nat → Int32} {cells slots : Nat} (hL : L ≤ 3072) (hc : cells ≤ 600000) (hs : slots ≤ 7302249) (A : (∀ a1 : Int32, Api Inv (fun ρ σ => f_X11_lies N ρ X a1 σ) (fun ρ σ => f_X12_lies N ρ M a1 σ))) {k : Nat} (hk : k + 6 ≤ L) {ρ : Nat → Nat → Nat} {σ : St} (hI : Inv ρ σ) (ih : ∀ ρ σ, Inv ρ σ → Lw L xs cells slots 1368 [some (.retAddr 6), some (.ref X), some (.ref M), some (.int (nI k))] [] (hp Γ ρ σ)) : Lw L xs cells slots 1023 [some (.retAddr 6), some (.ref X), some (.ref M), some (.int (nI k))] [] (hp Γ ρ σ) := by
  refine lw_aload_n 1 dL_law_1023 rfl rfl ?_
  refine lw_aload_s 0 dL_law_1024 rfl rfl ?_
  refine lw_iload_n 3 dL_law_1025 rfl rfl ?_
  refine lw_iconst 1 dL_law_1026 (by decide) ?_
  refine lw_iadd dL_law_1027 ?_
  refine lw_sld dL_law_1028 (law_in (c := 1) (by omega) hL) ?_
  obtain ⟨r, σ1, σ2, h1, h2, h3⟩ := A (xs (nI k + 1).toNatClampNeg) ρ σ hI
  refine lw_Vi (av := [.int (xs (nI k + 1).toNatClampNeg)]) (rest := []) (t_X11_lies (hsh ρ σ hI) hX h1) ok_X11_lies ml_L_150 dL_law_1029 hX rfl rfl (by decide) hc hs (Nat.le_of_ble_eq_true rfl) ?_
  have hsp := hsh _ _ h3
  refine lw_aload_n 2 dL_law_1032 rfl rfl ?_
  refine lw_aload_s 0 dL_law_1033 rfl rfl ?_
  refine lw_iload_n 3 dL_law_1034 rfl rfl ?_
  refine lw_iconst 1 dL_law_1035 (by decide) ?_
  refine lw_iadd dL_law_1036 ?_
  refine lw_sld dL_law_1037 (law_in (c := 1) (by omega) hL) ?_
  refine lw_Vi (av := [.int (xs (nI k + 1).toNatClampNeg)]) (rest := [.int r]) (t_X12_lies hsp hM h2) ok_X12_lies ml_L_153 dL_law_1038 hM rfl rfl (by decide) hc hs (Nat.le_of_ble_eq_true rfl) ?_
  refine lw_icmp_eq 1368 dL_law_1041 (by decide) (fun _ => ?_) (fun c => absurd rfl c)
  exact ih _ σ2 h3
set_option maxRecDepth 100000 in
set_option maxHeartbeats 4000000 in
theorem law_dented {Γ : SG} {N X M : Nat} (hX : Γ[X]? = some (0, 11)) (hM : Γ[M]? = some (0, 12)) {Inv : (Nat → Nat → Nat) → St → Prop} (hsh : ∀ ρ σ, Inv ρ σ → Sh Γ ρ) {L : Nat} {xs : Nat → Int32} {cells slots : Nat} (hL : L ≤ 3072) (hc : cells ≤ 600000) (hs : slots ≤ 7302249) (A : (∀ a1 : Int32, ∀ a2 : Int32, ∀ a3 : Int32, a3 = 0 ∨ a3 = 1 → Api Inv (fun ρ σ => f_X11_dented N ρ X a1 a2 a3 σ) (fun ρ σ => f_X12_dented N ρ M a1 a2 a3 σ))) {k : Nat} (hk : k + 6 ≤ L) {ρ : Nat → Nat → Nat} {σ : St} (hI : Inv ρ σ) (ih : ∀ ρ σ, Inv ρ σ → Lw L xs cells slots 1368 [some (.retAddr 6), some (.ref X), some (.ref M), some (.int (nI k))] [] (hp Γ ρ σ)) : Lw L xs cells slots 1046 [some (.retAddr 6), some (.ref X), some (.ref M), some (.int (nI k))] [] (hp Γ ρ σ) := by
  refine lw_aload_n 1 dL_law_1046 rfl rfl ?_
  refine lw_aload_s 0 dL_law_1047 rfl rfl ?_
  refine lw_iload_n 3 dL_law_1048 rfl rfl ?_
  refine lw_iconst 1 dL_law_1049 (by decide) ?_
  refine lw_iadd dL_law_1050 ?_
  refine lw_sld dL_law_1051 (law_in (c := 1) (by omega) hL) ?_
  refine lw_aload_s 0 dL_law_1052 rfl rfl ?_
  refine lw_iload_n 3 dL_law_1053 rfl rfl ?_
  refine lw_iconst 2 dL_law_1054 (by decide) ?_
  refine lw_iadd dL_law_1055 ?_
  refine lw_sld dL_law_1056 (law_in (c := 2) (by omega) hL) ?_
  refine lw_aload_s 0 dL_law_1057 rfl rfl ?_
  refine lw_iload_n 3 dL_law_1058 rfl rfl ?_
  refine lw_iconst 3 dL_law_1059 (by decide) ?_
  refine lw_iadd dL_law_1060 ?_
  refine lw_sld dL_law_1061 (law_in (c := 3) (by omega) hL) ?_
  refine lw_if_eq 1069 dL_law_1062 (by decide) (fun zz => ?_) (fun zz => ?_)
  · refine lw_iconst 0 dL_law_1069 (by decide) ?_
    obtain ⟨r, σ1, σ2, h1, h2, h3⟩ := A (xs (nI k + 1).toNatClampNeg) (xs (nI k + 2).toNatClampNeg) (0) (by decide) ρ σ hI
    refine lw_Vi (av := [.int (xs (nI k + 1).toNatClampNeg), .int (xs (nI k + 2).toNatClampNeg), .int (0)]) (rest := []) (t_X11_dented (hsh ρ σ hI) hX h1) ok_X11_dented ml_L_154 dL_law_1070 hX rfl rfl (by decide) hc hs (Nat.le_of_ble_eq_true rfl) ?_
    have hsp := hsh _ _ h3
    refine lw_aload_n 2 dL_law_1073 rfl rfl ?_
    refine lw_aload_s 0 dL_law_1074 rfl rfl ?_
    refine lw_iload_n 3 dL_law_1075 rfl rfl ?_
    refine lw_iconst 1 dL_law_1076 (by decide) ?_
    refine lw_iadd dL_law_1077 ?_
    refine lw_sld dL_law_1078 (law_in (c := 1) (by omega) hL) ?_
    refine lw_aload_s 0 dL_law_1079 rfl rfl ?_
    refine lw_iload_n 3 dL_law_1080 rfl rfl ?_
    refine lw_iconst 2 dL_law_1081 (by decide) ?_
    refine lw_iadd dL_law_1082 ?_
    refine lw_sld dL_law_1083 (law_in (c := 2) (by omega) hL) ?_
    refine lw_aload_s 0 dL_law_1084 rfl rfl ?_
    refine lw_iload_n 3 dL_law_1085 rfl rfl ?_
    refine lw_iconst 3 dL_law_1086 (by decide) ?_
    refine lw_iadd dL_law_1087 ?_
    refine lw_sld dL_law_1088 (law_in (c := 3) (by omega) hL) ?_
    refine lw_if_eq 1096 dL_law_1089 (by decide) (fun z2 => ?_) (fun z2 => absurd zz z2)
    refine lw_iconst 0 dL_law_1096 (by decide) ?_
    refine lw_Vi (av := [.int (xs (nI k + 1).toNatClampNeg), .int (xs (nI k + 2).toNatClampNeg), .int (0)]) (rest := [.int r]) (t_X12_dented hsp hM h2) ok_X12_dented ml_L_158 dL_law_1097 hM rfl rfl (by decide) hc hs (Nat.le_of_ble_eq_true rfl) ?_
    refine lw_icmp_eq 1368 dL_law_1100 (by decide) (fun _ => ?_) (fun c => absurd rfl c)
    exact ih _ σ2 h3
  · refine lw_iconst 1 dL_law_1065 (by decide) ?_
    refine lw_goto 1070 dL_law_1066 (by decide) ?_
    obtain ⟨r, σ1, σ2, h1, h2, h3⟩ := A (xs (nI k + 1).toNatClampNeg) (xs (nI k + 2).toNatClampNeg) (1) (by decide) ρ σ hI
    refine lw_Vi (av := [.int (xs (nI k + 1).toNatClampNeg), .int (xs (nI k + 2).toNatClampNeg), .int (1)]) (rest := []) (t_X11_dented (hsh ρ σ hI) hX h1) ok_X11_dented ml_L_154 dL_law_1070 hX rfl rfl (by decide) hc hs (Nat.le_of_ble_eq_true rfl) ?_
    have hsp := hsh _ _ h3
    refine lw_aload_n 2 dL_law_1073 rfl rfl ?_
    refine lw_aload_s 0 dL_law_1074 rfl rfl ?_
    refine lw_iload_n 3 dL_law_1075 rfl rfl ?_
    refine lw_iconst 1 dL_law_1076 (by decide) ?_
    refine lw_iadd dL_law_1077 ?_
    refine lw_sld dL_law_1078 (law_in (c := 1) (by omega) hL) ?_
    refine lw_aload_s 0 dL_law_1079 rfl rfl ?_
    refine lw_iload_n 3 dL_law_1080 rfl rfl ?_
    refine lw_iconst 2 dL_law_1081 (by decide) ?_
    refine lw_iadd dL_law_1082 ?_
    refine lw_sld dL_law_1083 (law_in (c := 2) (by omega) hL) ?_
    refine lw_aload_s 0 dL_law_1084 rfl rfl ?_
    refine lw_iload_n 3 dL_law_1085 rfl rfl ?_
    refine lw_iconst 3 dL_law_1086 (by decide) ?_
    refine lw_iadd dL_law_1087 ?_
    refine lw_sld dL_law_1088 (law_in (c := 3) (by omega) hL) ?_
    refine lw_if_eq 1096 dL_law_1089 (by decide) (fun z2 => absurd z2 zz) (fun z2 => ?_)
    refine lw_iconst 1 dL_law_1092 (by decide) ?_
    refine lw_goto 1097 dL_law_1093 (by decide) ?_
    refine lw_Vi (av := [.int (xs (nI k + 1).toNatClampNeg), .int (xs (nI k + 2).toNatClampNeg), .int (1)]) (rest := [.int r]) (t_X12_dented hsp hM h2) ok_X12_dented ml_L_158 dL_law_1097 hM rfl rfl (by decide) hc hs (Nat.le_of_ble_eq_true rfl) ?_
    refine lw_icmp_eq 1368 dL_law_1100 (by decide) (fun _ => ?_) (fun c => absurd rfl c)
    exact ih _ σ2 h3
set_option maxRecDepth 100000 in
set_option maxHeartbeats 4000000 in
theorem law_held {Γ : SG} {N X M : Nat} (hX : Γ[X]? = some (0, 11)) (hM : Γ[M]? = some (0, 12)) {Inv : (Nat → Nat → Nat) → St → Prop} (hsh : ∀ ρ σ, Inv ρ σ → Sh Γ ρ) {L : Nat} {xs : Nat → Int32} {cells slots : Nat} (hL : L ≤ 3072) (hc : cells ≤ 600000) (hs : slots ≤ 7302249) (A : (∀ a1 : Int32, ∀ a2 : Int32, ∀ a3 : Int32, a3 = 0 ∨ a3 = 1 → Api Inv (fun ρ σ => f_X11_held N ρ X a1 a2 a3 σ) (fun ρ σ => f_X12_held N ρ M a1 a2 a3 σ))) {k : Nat} (hk : k + 6 ≤ L) {ρ : Nat → Nat → Nat} {σ : St} (hI : Inv ρ σ) (ih : ∀ ρ σ, Inv ρ σ → Lw L xs cells slots 1368 [some (.retAddr 6), some (.ref X), some (.ref M), some (.int (nI k))] [] (hp Γ ρ σ)) : Lw L xs cells slots 1105 [some (.retAddr 6), some (.ref X), some (.ref M), some (.int (nI k))] [] (hp Γ ρ σ) := by
  refine lw_aload_n 1 dL_law_1105 rfl rfl ?_
  refine lw_aload_s 0 dL_law_1106 rfl rfl ?_
  refine lw_iload_n 3 dL_law_1107 rfl rfl ?_
  refine lw_iconst 1 dL_law_1108 (by decide) ?_
  refine lw_iadd dL_law_1109 ?_
  refine lw_sld dL_law_1110 (law_in (c := 1) (by omega) hL) ?_
  refine lw_aload_s 0 dL_law_1111 rfl rfl ?_
  refine lw_iload_n 3 dL_law_1112 rfl rfl ?_
  refine lw_iconst 2 dL_law_1113 (by decide) ?_
  refine lw_iadd dL_law_1114 ?_
  refine lw_sld dL_law_1115 (law_in (c := 2) (by omega) hL) ?_
  refine lw_aload_s 0 dL_law_1116 rfl rfl ?_
  refine lw_iload_n 3 dL_law_1117 rfl rfl ?_
  refine lw_iconst 3 dL_law_1118 (by decide) ?_
  refine lw_iadd dL_law_1119 ?_
  refine lw_sld dL_law_1120 (law_in (c := 3) (by omega) hL) ?_
  refine lw_if_eq 1128 dL_law_1121 (by decide) (fun zz => ?_) (fun zz => ?_)
  · refine lw_iconst 0 dL_law_1128 (by decide) ?_
    obtain ⟨r, σ1, σ2, h1, h2, h3⟩ := A (xs (nI k + 1).toNatClampNeg) (xs (nI k + 2).toNatClampNeg) (0) (by decide) ρ σ hI
    refine lw_Vi (av := [.int (xs (nI k + 1).toNatClampNeg), .int (xs (nI k + 2).toNatClampNeg), .int (0)]) (rest := []) (t_X11_held (hsh ρ σ hI) hX h1) ok_X11_held ml_L_159 dL_law_1129 hX rfl rfl (by decide) hc hs (Nat.le_of_ble_eq_true rfl) ?_
    have hsp := hsh _ _ h3
    refine lw_aload_n 2 dL_law_1132 rfl rfl ?_
    refine lw_aload_s 0 dL_law_1133 rfl rfl ?_
    refine lw_iload_n 3 dL_law_1134 rfl rfl ?_
    refine lw_iconst 1 dL_law_1135 (by decide) ?_
    refine lw_iadd dL_law_1136 ?_
    refine lw_sld dL_law_1137 (law_in (c := 1) (by omega) hL) ?_
    refine lw_aload_s 0 dL_law_1138 rfl rfl ?_
    refine lw_iload_n 3 dL_law_1139 rfl rfl ?_
    refine lw_iconst 2 dL_law_1140 (by decide) ?_
    refine lw_iadd dL_law_1141 ?_
    refine lw_sld dL_law_1142 (law_in (c := 2) (by omega) hL) ?_
    refine lw_aload_s 0 dL_law_1143 rfl rfl ?_
    refine lw_iload_n 3 dL_law_1144 rfl rfl ?_
    refine lw_iconst 3 dL_law_1145 (by decide) ?_
    refine lw_iadd dL_law_1146 ?_
    refine lw_sld dL_law_1147 (law_in (c := 3) (by omega) hL) ?_
    refine lw_if_eq 1155 dL_law_1148 (by decide) (fun z2 => ?_) (fun z2 => absurd zz z2)
    refine lw_iconst 0 dL_law_1155 (by decide) ?_
    refine lw_Vi (av := [.int (xs (nI k + 1).toNatClampNeg), .int (xs (nI k + 2).toNatClampNeg), .int (0)]) (rest := [.int r]) (t_X12_held hsp hM h2) ok_X12_held ml_L_162 dL_law_1156 hM rfl rfl (by decide) hc hs (Nat.le_of_ble_eq_true rfl) ?_
    refine lw_icmp_eq 1368 dL_law_1159 (by decide) (fun _ => ?_) (fun c => absurd rfl c)
    exact ih _ σ2 h3
  · refine lw_iconst 1 dL_law_1124 (by decide) ?_
    refine lw_goto 1129 dL_law_1125 (by decide) ?_
    obtain ⟨r, σ1, σ2, h1, h2, h3⟩ := A (xs (nI k + 1).toNatClampNeg) (xs (nI k + 2).toNatClampNeg) (1) (by decide) ρ σ hI
    refine lw_Vi (av := [.int (xs (nI k + 1).toNatClampNeg), .int (xs (nI k + 2).toNatClampNeg), .int (1)]) (rest := []) (t_X11_held (hsh ρ σ hI) hX h1) ok_X11_held ml_L_159 dL_law_1129 hX rfl rfl (by decide) hc hs (Nat.le_of_ble_eq_true rfl) ?_
    have hsp := hsh _ _ h3
    refine lw_aload_n 2 dL_law_1132 rfl rfl ?_
    refine lw_aload_s 0 dL_law_1133 rfl rfl ?_
    refine lw_iload_n 3 dL_law_1134 rfl rfl ?_
    refine lw_iconst 1 dL_law_1135 (by decide) ?_
    refine lw_iadd dL_law_1136 ?_
    refine lw_sld dL_law_1137 (law_in (c := 1) (by omega) hL) ?_
    refine lw_aload_s 0 dL_law_1138 rfl rfl ?_
    refine lw_iload_n 3 dL_law_1139 rfl rfl ?_
    refine lw_iconst 2 dL_law_1140 (by decide) ?_
    refine lw_iadd dL_law_1141 ?_
    refine lw_sld dL_law_1142 (law_in (c := 2) (by omega) hL) ?_
    refine lw_aload_s 0 dL_law_1143 rfl rfl ?_
    refine lw_iload_n 3 dL_law_1144 rfl rfl ?_
    refine lw_iconst 3 dL_law_1145 (by decide) ?_
    refine lw_iadd dL_law_1146 ?_
    refine lw_sld dL_law_1147 (law_in (c := 3) (by omega) hL) ?_
    refine lw_if_eq 1155 dL_law_1148 (by decide) (fun z2 => absurd z2 zz) (fun z2 => ?_)
    refine lw_iconst 1 dL_law_1151 (by decide) ?_
    refine lw_goto 1156 dL_law_1152 (by decide) ?_
    refine lw_Vi (av := [.int (xs (nI k + 1).toNatClampNeg), .int (xs (nI k + 2).toNatClampNeg), .int (1)]) (rest := [.int r]) (t_X12_held hsp hM h2) ok_X12_held ml_L_162 dL_law_1156 hM rfl rfl (by decide) hc hs (Nat.le_of_ble_eq_true rfl) ?_
    refine lw_icmp_eq 1368 dL_law_1159 (by decide) (fun _ => ?_) (fun c => absurd rfl c)
    exact ih _ σ2 h3
set_option maxRecDepth 100000 in
set_option maxHeartbeats 4000000 in
theorem law_untell {Γ : SG} {N X M : Nat} (hX : Γ[X]? = some (0, 11)) (hM : Γ[M]? = some (0, 12)) {Inv : (Nat → Nat → Nat) → St → Prop} (hsh : ∀ ρ σ, Inv ρ σ → Sh Γ ρ) {L : Nat} {xs : Nat → Int32} {cells slots : Nat} (hL : L ≤ 3072) (hc : cells ≤ 600000) (hs : slots ≤ 7302249) (A : (∀ a1 : Int32, Api Inv (fun ρ σ => f_X11_untell N ρ X a1 σ) (fun ρ σ => f_X12_untell N ρ M a1 σ))) {k : Nat} (hk : k + 6 ≤ L) {ρ : Nat → Nat → Nat} {σ : St} (hI : Inv ρ σ) (ih : ∀ ρ σ, Inv ρ σ → Lw L xs cells slots 1368 [some (.retAddr 6), some (.ref X), some (.ref M), some (.int (nI k))] [] (hp Γ ρ σ)) : Lw L xs cells slots 1164 [some (.retAddr 6), some (.ref X), some (.ref M), some (.int (nI k))] [] (hp Γ ρ σ) := by
  refine lw_aload_n 1 dL_law_1164 rfl rfl ?_
  refine lw_aload_s 0 dL_law_1165 rfl rfl ?_
  refine lw_iload_n 3 dL_law_1166 rfl rfl ?_
  refine lw_iconst 1 dL_law_1167 (by decide) ?_
  refine lw_iadd dL_law_1168 ?_
  refine lw_sld dL_law_1169 (law_in (c := 1) (by omega) hL) ?_
  obtain ⟨r, σ1, σ2, h1, h2, h3⟩ := A (xs (nI k + 1).toNatClampNeg) ρ σ hI
  refine lw_Vi (av := [.int (xs (nI k + 1).toNatClampNeg)]) (rest := []) (t_X11_untell (hsh ρ σ hI) hX h1) ok_X11_untell ml_L_163 dL_law_1170 hX rfl rfl (by decide) hc hs (Nat.le_of_ble_eq_true rfl) ?_
  have hsp := hsh _ _ h3
  refine lw_aload_n 2 dL_law_1173 rfl rfl ?_
  refine lw_aload_s 0 dL_law_1174 rfl rfl ?_
  refine lw_iload_n 3 dL_law_1175 rfl rfl ?_
  refine lw_iconst 1 dL_law_1176 (by decide) ?_
  refine lw_iadd dL_law_1177 ?_
  refine lw_sld dL_law_1178 (law_in (c := 1) (by omega) hL) ?_
  refine lw_Vi (av := [.int (xs (nI k + 1).toNatClampNeg)]) (rest := [.int r]) (t_X12_untell hsp hM h2) ok_X12_untell ml_L_167 dL_law_1179 hM rfl rfl (by decide) hc hs (Nat.le_of_ble_eq_true rfl) ?_
  refine lw_icmp_eq 1368 dL_law_1182 (by decide) (fun _ => ?_) (fun c => absurd rfl c)
  exact ih _ σ2 h3
set_option maxRecDepth 100000 in
set_option maxHeartbeats 4000000 in
theorem law_later {Γ : SG} {N X M : Nat} (hX : Γ[X]? = some (0, 11)) (hM : Γ[M]? = some (0, 12)) {Inv : (Nat → Nat → Nat) → St → Prop} (hsh : ∀ ρ σ, Inv ρ σ → Sh Γ ρ) {L : Nat} {xs : Nat → Int32} {cells slots : Nat} (hL : L ≤ 3072) (hc : cells ≤ 600000) (hs : slots ≤ 7302249) (A : (∀ a1 : Int32, Api Inv (fun ρ σ => f_X11_later N ρ X a1 σ) (fun ρ σ => f_X12_later N ρ M a1 σ))) {k : Nat} (hk : k + 6 ≤ L) {ρ : Nat → Nat → Nat} {σ : St} (hI : Inv ρ σ) (ih : ∀ ρ σ, Inv ρ σ → Lw L xs cells slots 1368 [some (.retAddr 6), some (.ref X), some (.ref M), some (.int (nI k))] [] (hp Γ ρ σ)) : Lw L xs cells slots 1187 [some (.retAddr 6), some (.ref X), some (.ref M), some (.int (nI k))] [] (hp Γ ρ σ) := by
  refine lw_aload_n 1 dL_law_1187 rfl rfl ?_
  refine lw_aload_s 0 dL_law_1188 rfl rfl ?_
  refine lw_iload_n 3 dL_law_1189 rfl rfl ?_
  refine lw_iconst 1 dL_law_1190 (by decide) ?_
  refine lw_iadd dL_law_1191 ?_
  refine lw_sld dL_law_1192 (law_in (c := 1) (by omega) hL) ?_
  obtain ⟨r, σ1, σ2, h1, h2, h3⟩ := A (xs (nI k + 1).toNatClampNeg) ρ σ hI
  refine lw_Vi (av := [.int (xs (nI k + 1).toNatClampNeg)]) (rest := []) (t_X11_later (hsh ρ σ hI) hX h1) ok_X11_later ml_L_168 dL_law_1193 hX rfl rfl (by decide) hc hs (Nat.le_of_ble_eq_true rfl) ?_
  have hsp := hsh _ _ h3
  refine lw_aload_n 2 dL_law_1196 rfl rfl ?_
  refine lw_aload_s 0 dL_law_1197 rfl rfl ?_
  refine lw_iload_n 3 dL_law_1198 rfl rfl ?_
  refine lw_iconst 1 dL_law_1199 (by decide) ?_
  refine lw_iadd dL_law_1200 ?_
  refine lw_sld dL_law_1201 (law_in (c := 1) (by omega) hL) ?_
  refine lw_Vi (av := [.int (xs (nI k + 1).toNatClampNeg)]) (rest := [.int r]) (t_X12_later hsp hM h2) ok_X12_later ml_L_171 dL_law_1202 hM rfl rfl (by decide) hc hs (Nat.le_of_ble_eq_true rfl) ?_
  refine lw_icmp_eq 1368 dL_law_1205 (by decide) (fun _ => ?_) (fun c => absurd rfl c)
  exact ih _ σ2 h3
set_option maxRecDepth 100000 in
set_option maxHeartbeats 4000000 in
theorem law_rows {Γ : SG} {N X M : Nat} (hX : Γ[X]? = some (0, 11)) (hM : Γ[M]? = some (0, 12)) {Inv : (Nat → Nat → Nat) → St → Prop} (hsh : ∀ ρ σ, Inv ρ σ → Sh Γ ρ) {L : Nat} {xs : Nat → Int32} {cells slots : Nat} (hL : L ≤ 3072) (hc : cells ≤ 600000) (hs : slots ≤ 7302249) (A : (∀ a1 : Int32, Api Inv (fun ρ σ => f_X11_rows N ρ X a1 σ) (fun ρ σ => f_X12_rows N ρ M a1 σ))) {k : Nat} (hk : k + 6 ≤ L) {ρ : Nat → Nat → Nat} {σ : St} (hI : Inv ρ σ) (ih : ∀ ρ σ, Inv ρ σ → Lw L xs cells slots 1368 [some (.retAddr 6), some (.ref X), some (.ref M), some (.int (nI k))] [] (hp Γ ρ σ)) : Lw L xs cells slots 1210 [some (.retAddr 6), some (.ref X), some (.ref M), some (.int (nI k))] [] (hp Γ ρ σ) := by
  refine lw_aload_n 1 dL_law_1210 rfl rfl ?_
  refine lw_aload_s 0 dL_law_1211 rfl rfl ?_
  refine lw_iload_n 3 dL_law_1212 rfl rfl ?_
  refine lw_iconst 1 dL_law_1213 (by decide) ?_
  refine lw_iadd dL_law_1214 ?_
  refine lw_sld dL_law_1215 (law_in (c := 1) (by omega) hL) ?_
  obtain ⟨r, σ1, σ2, h1, h2, h3⟩ := A (xs (nI k + 1).toNatClampNeg) ρ σ hI
  refine lw_Vi (av := [.int (xs (nI k + 1).toNatClampNeg)]) (rest := []) (t_X11_rows (hsh ρ σ hI) hX h1) ok_X11_rows ml_L_172 dL_law_1216 hX rfl rfl (by decide) hc hs (Nat.le_of_ble_eq_true rfl) ?_
  have hsp := hsh _ _ h3
  refine lw_aload_n 2 dL_law_1219 rfl rfl ?_
  refine lw_aload_s 0 dL_law_1220 rfl rfl ?_
  refine lw_iload_n 3 dL_law_1221 rfl rfl ?_
  refine lw_iconst 1 dL_law_1222 (by decide) ?_
  refine lw_iadd dL_law_1223 ?_
  refine lw_sld dL_law_1224 (law_in (c := 1) (by omega) hL) ?_
  refine lw_Vi (av := [.int (xs (nI k + 1).toNatClampNeg)]) (rest := [.int r]) (t_X12_rows hsp hM h2) ok_X12_rows ml_L_175 dL_law_1225 hM rfl rfl (by decide) hc hs (Nat.le_of_ble_eq_true rfl) ?_
  refine lw_icmp_eq 1368 dL_law_1228 (by decide) (fun _ => ?_) (fun c => absurd rfl c)
  exact ih _ σ2 h3
set_option maxRecDepth 100000 in
set_option maxHeartbeats 4000000 in
theorem law_sure {Γ : SG} {N X M : Nat} (hX : Γ[X]? = some (0, 11)) (hM : Γ[M]? = some (0, 12)) {Inv : (Nat → Nat → Nat) → St → Prop} (hsh : ∀ ρ σ, Inv ρ σ → Sh Γ ρ) {L : Nat} {xs : Nat → Int32} {cells slots : Nat} (hL : L ≤ 3072) (hc : cells ≤ 600000) (hs : slots ≤ 7302249) (A : (∀ a1 : Int32, ∀ a2 : Int32, Api Inv (fun ρ σ => f_X11_sure N ρ X a1 a2 σ) (fun ρ σ => f_X12_sure N ρ M a1 a2 σ))) {k : Nat} (hk : k + 6 ≤ L) {ρ : Nat → Nat → Nat} {σ : St} (hI : Inv ρ σ) (ih : ∀ ρ σ, Inv ρ σ → Lw L xs cells slots 1368 [some (.retAddr 6), some (.ref X), some (.ref M), some (.int (nI k))] [] (hp Γ ρ σ)) : Lw L xs cells slots 1233 [some (.retAddr 6), some (.ref X), some (.ref M), some (.int (nI k))] [] (hp Γ ρ σ) := by
  refine lw_aload_n 1 dL_law_1233 rfl rfl ?_
  refine lw_aload_s 0 dL_law_1234 rfl rfl ?_
  refine lw_iload_n 3 dL_law_1235 rfl rfl ?_
  refine lw_iconst 1 dL_law_1236 (by decide) ?_
  refine lw_iadd dL_law_1237 ?_
  refine lw_sld dL_law_1238 (law_in (c := 1) (by omega) hL) ?_
  refine lw_aload_s 0 dL_law_1239 rfl rfl ?_
  refine lw_iload_n 3 dL_law_1240 rfl rfl ?_
  refine lw_iconst 2 dL_law_1241 (by decide) ?_
  refine lw_iadd dL_law_1242 ?_
  refine lw_sld dL_law_1243 (law_in (c := 2) (by omega) hL) ?_
  obtain ⟨r, σ1, σ2, h1, h2, h3⟩ := A (xs (nI k + 1).toNatClampNeg) (xs (nI k + 2).toNatClampNeg) ρ σ hI
  refine lw_Vi (av := [.int (xs (nI k + 1).toNatClampNeg), .int (xs (nI k + 2).toNatClampNeg)]) (rest := []) (t_X11_sure (hsh ρ σ hI) hX h1) ok_X11_sure ml_L_176 dL_law_1244 hX rfl rfl (by decide) hc hs (Nat.le_of_ble_eq_true rfl) ?_
  have hsp := hsh _ _ h3
  refine lw_aload_n 2 dL_law_1247 rfl rfl ?_
  refine lw_aload_s 0 dL_law_1248 rfl rfl ?_
  refine lw_iload_n 3 dL_law_1249 rfl rfl ?_
  refine lw_iconst 1 dL_law_1250 (by decide) ?_
  refine lw_iadd dL_law_1251 ?_
  refine lw_sld dL_law_1252 (law_in (c := 1) (by omega) hL) ?_
  refine lw_aload_s 0 dL_law_1253 rfl rfl ?_
  refine lw_iload_n 3 dL_law_1254 rfl rfl ?_
  refine lw_iconst 2 dL_law_1255 (by decide) ?_
  refine lw_iadd dL_law_1256 ?_
  refine lw_sld dL_law_1257 (law_in (c := 2) (by omega) hL) ?_
  refine lw_Vi (av := [.int (xs (nI k + 1).toNatClampNeg), .int (xs (nI k + 2).toNatClampNeg)]) (rest := [.int r]) (t_X12_sure hsp hM h2) ok_X12_sure ml_L_179 dL_law_1258 hM rfl rfl (by decide) hc hs (Nat.le_of_ble_eq_true rfl) ?_
  refine lw_icmp_eq 1368 dL_law_1261 (by decide) (fun _ => ?_) (fun c => absurd rfl c)
  exact ih _ σ2 h3
set_option maxRecDepth 100000 in
set_option maxHeartbeats 4000000 in
theorem law_ask {Γ : SG} {N X M : Nat} (hX : Γ[X]? = some (0, 11)) (hM : Γ[M]? = some (0, 12)) {Inv : (Nat → Nat → Nat) → St → Prop} (hsh : ∀ ρ σ, Inv ρ σ → Sh Γ ρ) {L : Nat} {xs : Nat → Int32} {cells slots : Nat} (hL : L ≤ 3072) (hc : cells ≤ 600000) (hs : slots ≤ 7302249) (A : (∀ a1 : Int32, ∀ a2 : Int32, Api Inv (fun ρ σ => f_X11_ask N ρ X a1 a2 σ) (fun ρ σ => f_X12_ask N ρ M a1 a2 σ))) {k : Nat} (hk : k + 6 ≤ L) {ρ : Nat → Nat → Nat} {σ : St} (hI : Inv ρ σ) (ih : ∀ ρ σ, Inv ρ σ → Lw L xs cells slots 1368 [some (.retAddr 6), some (.ref X), some (.ref M), some (.int (nI k))] [] (hp Γ ρ σ)) : Lw L xs cells slots 1266 [some (.retAddr 6), some (.ref X), some (.ref M), some (.int (nI k))] [] (hp Γ ρ σ) := by
  refine lw_aload_n 1 dL_law_1266 rfl rfl ?_
  refine lw_aload_s 0 dL_law_1267 rfl rfl ?_
  refine lw_iload_n 3 dL_law_1268 rfl rfl ?_
  refine lw_iconst 1 dL_law_1269 (by decide) ?_
  refine lw_iadd dL_law_1270 ?_
  refine lw_sld dL_law_1271 (law_in (c := 1) (by omega) hL) ?_
  refine lw_aload_s 0 dL_law_1272 rfl rfl ?_
  refine lw_iload_n 3 dL_law_1273 rfl rfl ?_
  refine lw_iconst 2 dL_law_1274 (by decide) ?_
  refine lw_iadd dL_law_1275 ?_
  refine lw_sld dL_law_1276 (law_in (c := 2) (by omega) hL) ?_
  obtain ⟨r, σ1, σ2, h1, h2, h3⟩ := A (xs (nI k + 1).toNatClampNeg) (xs (nI k + 2).toNatClampNeg) ρ σ hI
  refine lw_Vi (av := [.int (xs (nI k + 1).toNatClampNeg), .int (xs (nI k + 2).toNatClampNeg)]) (rest := []) (t_X11_ask (hsh ρ σ hI) hX h1) ok_X11_ask ml_L_180 dL_law_1277 hX rfl rfl (by decide) hc hs (Nat.le_of_ble_eq_true rfl) ?_
  have hsp := hsh _ _ h3
  refine lw_aload_n 2 dL_law_1280 rfl rfl ?_
  refine lw_aload_s 0 dL_law_1281 rfl rfl ?_
  refine lw_iload_n 3 dL_law_1282 rfl rfl ?_
  refine lw_iconst 1 dL_law_1283 (by decide) ?_
  refine lw_iadd dL_law_1284 ?_
  refine lw_sld dL_law_1285 (law_in (c := 1) (by omega) hL) ?_
  refine lw_aload_s 0 dL_law_1286 rfl rfl ?_
  refine lw_iload_n 3 dL_law_1287 rfl rfl ?_
  refine lw_iconst 2 dL_law_1288 (by decide) ?_
  refine lw_iadd dL_law_1289 ?_
  refine lw_sld dL_law_1290 (law_in (c := 2) (by omega) hL) ?_
  refine lw_Vi (av := [.int (xs (nI k + 1).toNatClampNeg), .int (xs (nI k + 2).toNatClampNeg)]) (rest := [.int r]) (t_X12_ask hsp hM h2) ok_X12_ask ml_L_183 dL_law_1291 hM rfl rfl (by decide) hc hs (Nat.le_of_ble_eq_true rfl) ?_
  refine lw_icmp_eq 1368 dL_law_1294 (by decide) (fun _ => ?_) (fun c => absurd rfl c)
  exact ih _ σ2 h3
set_option maxRecDepth 100000 in
set_option maxHeartbeats 4000000 in
theorem law_image {Γ : SG} {N X M : Nat} (hX : Γ[X]? = some (0, 11)) (hM : Γ[M]? = some (0, 12)) {Inv : (Nat → Nat → Nat) → St → Prop} (hsh : ∀ ρ σ, Inv ρ σ → Sh Γ ρ) {L : Nat} {xs : Nat → Int32} {cells slots : Nat} (hL : L ≤ 3072) (hc : cells ≤ 600000) (hs : slots ≤ 7302249) (A : (∀ a1 : Int32, Api Inv (fun ρ σ => f_X11_image N ρ X a1 σ) (fun ρ σ => f_X12_image N ρ M a1 σ))) {k : Nat} (hk : k + 6 ≤ L) {ρ : Nat → Nat → Nat} {σ : St} (hI : Inv ρ σ) (ih : ∀ ρ σ, Inv ρ σ → Lw L xs cells slots 1368 [some (.retAddr 6), some (.ref X), some (.ref M), some (.int (nI k))] [] (hp Γ ρ σ)) : Lw L xs cells slots 1299 [some (.retAddr 6), some (.ref X), some (.ref M), some (.int (nI k))] [] (hp Γ ρ σ) := by
  refine lw_aload_n 1 dL_law_1299 rfl rfl ?_
  refine lw_aload_s 0 dL_law_1300 rfl rfl ?_
  refine lw_iload_n 3 dL_law_1301 rfl rfl ?_
  refine lw_iconst 1 dL_law_1302 (by decide) ?_
  refine lw_iadd dL_law_1303 ?_
  refine lw_sld dL_law_1304 (law_in (c := 1) (by omega) hL) ?_
  obtain ⟨r, σ1, σ2, h1, h2, h3⟩ := A (xs (nI k + 1).toNatClampNeg) ρ σ hI
  refine lw_Vi (av := [.int (xs (nI k + 1).toNatClampNeg)]) (rest := []) (t_X11_image (hsh ρ σ hI) hX h1) ok_X11_image ml_L_184 dL_law_1305 hX rfl rfl (by decide) hc hs (Nat.le_of_ble_eq_true rfl) ?_
  have hsp := hsh _ _ h3
  refine lw_aload_n 2 dL_law_1308 rfl rfl ?_
  refine lw_aload_s 0 dL_law_1309 rfl rfl ?_
  refine lw_iload_n 3 dL_law_1310 rfl rfl ?_
  refine lw_iconst 1 dL_law_1311 (by decide) ?_
  refine lw_iadd dL_law_1312 ?_
  refine lw_sld dL_law_1313 (law_in (c := 1) (by omega) hL) ?_
  refine lw_Vi (av := [.int (xs (nI k + 1).toNatClampNeg)]) (rest := [.int r]) (t_X12_image hsp hM h2) ok_X12_image ml_L_187 dL_law_1314 hM rfl rfl (by decide) hc hs (Nat.le_of_ble_eq_true rfl) ?_
  refine lw_icmp_eq 1368 dL_law_1317 (by decide) (fun _ => ?_) (fun c => absurd rfl c)
  exact ih _ σ2 h3
set_option maxRecDepth 100000 in
set_option maxHeartbeats 4000000 in
theorem law_back {Γ : SG} {N X M : Nat} (hX : Γ[X]? = some (0, 11)) (hM : Γ[M]? = some (0, 12)) {Inv : (Nat → Nat → Nat) → St → Prop} (hsh : ∀ ρ σ, Inv ρ σ → Sh Γ ρ) {L : Nat} {xs : Nat → Int32} {cells slots : Nat} (hL : L ≤ 3072) (hc : cells ≤ 600000) (hs : slots ≤ 7302249) (A : (∀ a1 : Int32, Api Inv (fun ρ σ => f_X11_back N ρ X a1 σ) (fun ρ σ => f_X12_back N ρ M a1 σ))) {k : Nat} (hk : k + 6 ≤ L) {ρ : Nat → Nat → Nat} {σ : St} (hI : Inv ρ σ) (ih : ∀ ρ σ, Inv ρ σ → Lw L xs cells slots 1368 [some (.retAddr 6), some (.ref X), some (.ref M), some (.int (nI k))] [] (hp Γ ρ σ)) : Lw L xs cells slots 1322 [some (.retAddr 6), some (.ref X), some (.ref M), some (.int (nI k))] [] (hp Γ ρ σ) := by
  refine lw_aload_n 1 dL_law_1322 rfl rfl ?_
  refine lw_aload_s 0 dL_law_1323 rfl rfl ?_
  refine lw_iload_n 3 dL_law_1324 rfl rfl ?_
  refine lw_iconst 1 dL_law_1325 (by decide) ?_
  refine lw_iadd dL_law_1326 ?_
  refine lw_sld dL_law_1327 (law_in (c := 1) (by omega) hL) ?_
  obtain ⟨r, σ1, σ2, h1, h2, h3⟩ := A (xs (nI k + 1).toNatClampNeg) ρ σ hI
  refine lw_Vi (av := [.int (xs (nI k + 1).toNatClampNeg)]) (rest := []) (t_X11_back (hsh ρ σ hI) hX h1) ok_X11_back ml_L_188 dL_law_1328 hX rfl rfl (by decide) hc hs (Nat.le_of_ble_eq_true rfl) ?_
  have hsp := hsh _ _ h3
  refine lw_aload_n 2 dL_law_1331 rfl rfl ?_
  refine lw_aload_s 0 dL_law_1332 rfl rfl ?_
  refine lw_iload_n 3 dL_law_1333 rfl rfl ?_
  refine lw_iconst 1 dL_law_1334 (by decide) ?_
  refine lw_iadd dL_law_1335 ?_
  refine lw_sld dL_law_1336 (law_in (c := 1) (by omega) hL) ?_
  refine lw_Vi (av := [.int (xs (nI k + 1).toNatClampNeg)]) (rest := [.int r]) (t_X12_back hsp hM h2) ok_X12_back ml_L_191 dL_law_1337 hM rfl rfl (by decide) hc hs (Nat.le_of_ble_eq_true rfl) ?_
  refine lw_icmp_eq 1368 dL_law_1340 (by decide) (fun _ => ?_) (fun c => absurd rfl c)
  exact ih _ σ2 h3
set_option maxRecDepth 100000 in
set_option maxHeartbeats 4000000 in
theorem law_about {Γ : SG} {N X M : Nat} (hX : Γ[X]? = some (0, 11)) (hM : Γ[M]? = some (0, 12)) {Inv : (Nat → Nat → Nat) → St → Prop} (hsh : ∀ ρ σ, Inv ρ σ → Sh Γ ρ) {L : Nat} {xs : Nat → Int32} {cells slots : Nat} (hL : L ≤ 3072) (hc : cells ≤ 600000) (hs : slots ≤ 7302249) (A : (∀ a1 : Int32, Api Inv (fun ρ σ => f_X11_about N ρ X a1 σ) (fun ρ σ => f_X12_about N ρ M a1 σ))) {k : Nat} (hk : k + 6 ≤ L) {ρ : Nat → Nat → Nat} {σ : St} (hI : Inv ρ σ) (ih : ∀ ρ σ, Inv ρ σ → Lw L xs cells slots 1368 [some (.retAddr 6), some (.ref X), some (.ref M), some (.int (nI k))] [] (hp Γ ρ σ)) : Lw L xs cells slots 1345 [some (.retAddr 6), some (.ref X), some (.ref M), some (.int (nI k))] [] (hp Γ ρ σ) := by
  refine lw_aload_n 1 dL_law_1345 rfl rfl ?_
  refine lw_aload_s 0 dL_law_1346 rfl rfl ?_
  refine lw_iload_n 3 dL_law_1347 rfl rfl ?_
  refine lw_iconst 1 dL_law_1348 (by decide) ?_
  refine lw_iadd dL_law_1349 ?_
  refine lw_sld dL_law_1350 (law_in (c := 1) (by omega) hL) ?_
  obtain ⟨r, σ1, σ2, h1, h2, h3⟩ := A (xs (nI k + 1).toNatClampNeg) ρ σ hI
  refine lw_Vi (av := [.int (xs (nI k + 1).toNatClampNeg)]) (rest := []) (t_X11_about (hsh ρ σ hI) hX h1) ok_X11_about ml_L_192 dL_law_1351 hX rfl rfl (by decide) hc hs (Nat.le_of_ble_eq_true rfl) ?_
  have hsp := hsh _ _ h3
  refine lw_aload_n 2 dL_law_1354 rfl rfl ?_
  refine lw_aload_s 0 dL_law_1355 rfl rfl ?_
  refine lw_iload_n 3 dL_law_1356 rfl rfl ?_
  refine lw_iconst 1 dL_law_1357 (by decide) ?_
  refine lw_iadd dL_law_1358 ?_
  refine lw_sld dL_law_1359 (law_in (c := 1) (by omega) hL) ?_
  refine lw_Vi (av := [.int (xs (nI k + 1).toNatClampNeg)]) (rest := [.int r]) (t_X12_about hsp hM h2) ok_X12_about ml_L_195 dL_law_1360 hM rfl rfl (by decide) hc hs (Nat.le_of_ble_eq_true rfl) ?_
  refine lw_icmp_eq 1368 dL_law_1363 (by decide) (fun _ => ?_) (fun c => absurd rfl c)
  exact ih _ σ2 h3
set_option maxRecDepth 100000 in
set_option maxHeartbeats 4000000 in
theorem law_loop {Γ : SG} {N X M : Nat} (hX : Γ[X]? = some (0, 11)) (hM : Γ[M]? = some (0, 12)) {Inv : (Nat → Nat → Nat) → St → Prop} (hsh : ∀ ρ σ, Inv ρ σ → Sh Γ ρ) {L : Nat} {xs : Nat → Int32} {cells slots : Nat} (hL : L ≤ 3072) (hc : cells ≤ 600000) (hs : slots ≤ 7302249) (AA : Apis Inv N X M) : ∀ (n k : Nat) (ρ : Nat → Nat → Nat) (σ : St), k ≤ L → L - k < n → Inv ρ σ → Lw L xs cells slots 18 [some (.retAddr 6), some (.ref X), some (.ref M), some (.int (nI k))] [] (hp Γ ρ σ) := by
  obtain ⟨A0, A1, A2, A3, A4, A5, A6, A7, A8, A9, A10, A11, A12, A13, A14, A15, A16, A17, A18, A19, A20, A21, A22, A23, A24, A25, A26, A27, A28, A29, A30, A31, A32, A33, A34, A35, A36, A37, A38, A39, A40, A41, A42, A43⟩ := AA
  intro n
  induction n with
  | zero => intro k ρ σ _ h; omega
  | succ n ih =>
    intro k ρ σ hk hn hI
    refine lw_iload_n 3 dL_law_18 rfl rfl ?_
    refine lw_aload_s 0 dL_law_19 rfl rfl ?_
    refine lw_slen dL_law_20 ?_
    refine lw_bipush 6 dL_law_21 (by decide) ?_
    refine lw_isub dL_law_23 ?_
    refine lw_icmp_gt 1374 dL_law_24 (by decide) (fun _ => ?_) (fun cc => ?_)
    · refine lw_iconst 1 dL_law_1374 (by decide) ?_
      exact lw_ret1 hc hs dL_law_1375
    have hk6 := law_le (by omega) hL cc
    have tail : ∀ ρ σ, Inv ρ σ → Lw L xs cells slots 1368 [some (.retAddr 6), some (.ref X), some (.ref M), some (.int (nI k))] [] (hp Γ ρ σ) := by
      intro ρ σ hI
      refine lw_iinc (nI (k + 6)) [some (.retAddr 6), some (.ref X), some (.ref M), some (.int (nI (k + 6)))] dL_law_1368 rfl (nI_add k 6) (by decide) rfl ?_
      refine lw_goto 18 dL_law_1371 (by decide) ?_
      exact ih (k + 6) ρ σ hk6 (by omega) hI
    refine lw_aload_s 0 dL_law_27 rfl rfl ?_
    refine lw_iload_n 3 dL_law_28 rfl rfl ?_
    refine lw_sld dL_law_29 (vp_in_nI (by omega) (by omega)) ?_
    refine lw_bipush 63 dL_law_30 (by decide) ?_
    refine lw_iand dL_law_32 ?_
    generalize xs (nI k).toNatClampNeg &&& 63 = v
    by_cases c0 : v = 0
    · refine lw_tableIn 224 dL_law_33 (by rw [c0]; decide) (by rw [c0]; decide) (by rw [c0]; rfl) (by decide) ?_
      exact law_feed hX hM hsh hL hc hs A0 hk6 hI tail
    by_cases c1 : v = 1
    · refine lw_tableIn 287 dL_law_33 (by rw [c1]; decide) (by rw [c1]; decide) (by rw [c1]; rfl) (by decide) ?_
      exact law_end hX hM hsh hL hc hs A1 hk6 hI tail
    by_cases c2 : v = 2
    · refine lw_tableIn 310 dL_law_33 (by rw [c2]; decide) (by rw [c2]; decide) (by rw [c2]; rfl) (by decide) ?_
      exact law_chapel hX hM hsh hL hc hs A2 hk6 hI tail
    by_cases c3 : v = 3
    · refine lw_tableIn 323 dL_law_33 (by rw [c3]; decide) (by rw [c3]; decide) (by rw [c3]; rfl) (by decide) ?_
      exact law_fault hX hM hsh hL hc hs A3 hk6 hI tail
    by_cases c4 : v = 4
    · refine lw_tableIn 346 dL_law_33 (by rw [c4]; decide) (by rw [c4]; decide) (by rw [c4]; rfl) (by decide) ?_
      exact law_hearth hX hM hsh hL hc hs A4 hk6 hI tail
    by_cases c5 : v = 5
    · refine lw_tableIn 379 dL_law_33 (by rw [c5]; decide) (by rw [c5]; decide) (by rw [c5]; rfl) (by decide) ?_
      exact law_stool hX hM hsh hL hc hs A5 hk6 hI tail
    by_cases c6 : v = 6
    · refine lw_tableIn 412 dL_law_33 (by rw [c6]; decide) (by rw [c6]; decide) (by rw [c6]; rfl) (by decide) ?_
      exact law_load hX hM hsh hL hc hs A6 hk6 hI tail
    by_cases c7 : v = 7
    · refine lw_tableIn 435 dL_law_33 (by rw [c7]; decide) (by rw [c7]; decide) (by rw [c7]; rfl) (by decide) ?_
      exact law_send hX hM hsh hL hc hs A7 hk6 hI tail
    by_cases c8 : v = 8
    · refine lw_tableIn 468 dL_law_33 (by rw [c8]; decide) (by rw [c8]; decide) (by rw [c8]; rfl) (by decide) ?_
      exact law_call hX hM hsh hL hc hs A8 hk6 hI tail
    by_cases c9 : v = 9
    · refine lw_tableIn 491 dL_law_33 (by rw [c9]; decide) (by rw [c9]; decide) (by rw [c9]; rfl) (by decide) ?_
      exact law_evening hX hM hsh hL hc hs A9 hk6 hI tail
    by_cases c10 : v = 10
    · refine lw_tableIn 504 dL_law_33 (by rw [c10]; decide) (by rw [c10]; decide) (by rw [c10]; rfl) (by decide) ?_
      exact law_undo hX hM hsh hL hc hs A10 hk6 hI tail
    by_cases c11 : v = 11
    · refine lw_tableIn 517 dL_law_33 (by rw [c11]; decide) (by rw [c11]; decide) (by rw [c11]; rfl) (by decide) ?_
      exact law_redo hX hM hsh hL hc hs A11 hk6 hI tail
    by_cases c12 : v = 12
    · refine lw_tableIn 530 dL_law_33 (by rw [c12]; decide) (by rw [c12]; decide) (by rw [c12]; rfl) (by decide) ?_
      exact law_tonight hX hM hsh hL hc hs A12 hk6 hI tail
    by_cases c13 : v = 13
    · refine lw_tableIn 553 dL_law_33 (by rw [c13]; decide) (by rw [c13]; decide) (by rw [c13]; rfl) (by decide) ?_
      exact law_walk hX hM hsh hL hc hs A13 hk6 hI tail
    by_cases c14 : v = 14
    · refine lw_tableIn 566 dL_law_33 (by rw [c14]; decide) (by rw [c14]; decide) (by rw [c14]; rfl) (by decide) ?_
      exact law_round hX hM hsh hL hc hs A14 hk6 hI tail
    by_cases c15 : v = 15
    · refine lw_tableIn 589 dL_law_33 (by rw [c15]; decide) (by rw [c15]; decide) (by rw [c15]; rfl) (by decide) ?_
      exact law_service hX hM hsh hL hc hs A15 hk6 hI tail
    by_cases c16 : v = 16
    · refine lw_tableIn 602 dL_law_33 (by rw [c16]; decide) (by rw [c16]; decide) (by rw [c16]; rfl) (by decide) ?_
      exact law_team hX hM hsh hL hc hs A16 hk6 hI tail
    by_cases c17 : v = 17
    · refine lw_tableIn 635 dL_law_33 (by rw [c17]; decide) (by rw [c17]; decide) (by rw [c17]; rfl) (by decide) ?_
      exact law_lasts hX hM hsh hL hc hs A17 hk6 hI tail
    by_cases c18 : v = 18
    · refine lw_tableIn 668 dL_law_33 (by rw [c18]; decide) (by rw [c18]; decide) (by rw [c18]; rfl) (by decide) ?_
      exact law_soon hX hM hsh hL hc hs A18 hk6 hI tail
    by_cases c19 : v = 19
    · refine lw_tableIn 701 dL_law_33 (by rw [c19]; decide) (by rw [c19]; decide) (by rw [c19]; rfl) (by decide) ?_
      exact law_change hX hM hsh hL hc hs A19 hk6 hI tail
    by_cases c20 : v = 20
    · refine lw_tableIn 724 dL_law_33 (by rw [c20]; decide) (by rw [c20]; decide) (by rw [c20]; rfl) (by decide) ?_
      exact law_guests hX hM hsh hL hc hs A20 hk6 hI tail
    by_cases c21 : v = 21
    · refine lw_tableIn 757 dL_law_33 (by rw [c21]; decide) (by rw [c21]; decide) (by rw [c21]; rfl) (by decide) ?_
      exact law_cover hX hM hsh hL hc hs A21 hk6 hI tail
    by_cases c22 : v = 22
    · refine lw_tableIn 780 dL_law_33 (by rw [c22]; decide) (by rw [c22]; decide) (by rw [c22]; rfl) (by decide) ?_
      exact law_pilgrim hX hM hsh hL hc hs A22 hk6 hI tail
    by_cases c23 : v = 23
    · refine lw_tableIn 803 dL_law_33 (by rw [c23]; decide) (by rw [c23]; decide) (by rw [c23]; rfl) (by decide) ?_
      exact law_will hX hM hsh hL hc hs A23 hk6 hI tail
    by_cases c24 : v = 24
    · refine lw_tableIn 836 dL_law_33 (by rw [c24]; decide) (by rw [c24]; decide) (by rw [c24]; rfl) (by decide) ?_
      exact law_strength hX hM hsh hL hc hs A24 hk6 hI tail
    by_cases c25 : v = 25
    · refine lw_tableIn 869 dL_law_33 (by rw [c25]; decide) (by rw [c25]; decide) (by rw [c25]; rfl) (by decide) ?_
      exact law_saved hX hM hsh hL hc hs A25 hk6 hI tail
    by_cases c26 : v = 26
    · refine lw_tableIn 882 dL_law_33 (by rw [c26]; decide) (by rw [c26]; decide) (by rw [c26]; rfl) (by decide) ?_
      exact law_grace hX hM hsh hL hc hs A26 hk6 hI tail
    by_cases c27 : v = 27
    · refine lw_tableIn 895 dL_law_33 (by rw [c27]; decide) (by rw [c27]; decide) (by rw [c27]; rfl) (by decide) ?_
      exact law_easiest hX hM hsh hL hc hs A27 hk6 hI tail
    by_cases c28 : v = 28
    · refine lw_tableIn 918 dL_law_33 (by rw [c28]; decide) (by rw [c28]; decide) (by rw [c28]; rfl) (by decide) ?_
      exact law_forlorn hX hM hsh hL hc hs A28 hk6 hI tail
    by_cases c29 : v = 29
    · refine lw_tableIn 931 dL_law_33 (by rw [c29]; decide) (by rw [c29]; decide) (by rw [c29]; rfl) (by decide) ?_
      exact law_nearest hX hM hsh hL hc hs A29 hk6 hI tail
    by_cases c30 : v = 30
    · refine lw_tableIn 954 dL_law_33 (by rw [c30]; decide) (by rw [c30]; decide) (by rw [c30]; rfl) (by decide) ?_
      exact law_law hX hM hsh hL hc hs A30 hk6 hI tail
    by_cases c31 : v = 31
    · refine lw_tableIn 977 dL_law_33 (by rw [c31]; decide) (by rw [c31]; decide) (by rw [c31]; rfl) (by decide) ?_
      exact law_schisms hX hM hsh hL hc hs A31 hk6 hI tail
    by_cases c32 : v = 32
    · refine lw_tableIn 990 dL_law_33 (by rw [c32]; decide) (by rw [c32]; decide) (by rw [c32]; rfl) (by decide) ?_
      exact law_odds hX hM hsh hL hc hs A32 hk6 hI tail
    by_cases c33 : v = 33
    · refine lw_tableIn 1023 dL_law_33 (by rw [c33]; decide) (by rw [c33]; decide) (by rw [c33]; rfl) (by decide) ?_
      exact law_lies hX hM hsh hL hc hs A33 hk6 hI tail
    by_cases c34 : v = 34
    · refine lw_tableIn 1046 dL_law_33 (by rw [c34]; decide) (by rw [c34]; decide) (by rw [c34]; rfl) (by decide) ?_
      exact law_dented hX hM hsh hL hc hs A34 hk6 hI tail
    by_cases c35 : v = 35
    · refine lw_tableIn 1105 dL_law_33 (by rw [c35]; decide) (by rw [c35]; decide) (by rw [c35]; rfl) (by decide) ?_
      exact law_held hX hM hsh hL hc hs A35 hk6 hI tail
    by_cases c36 : v = 36
    · refine lw_tableIn 1164 dL_law_33 (by rw [c36]; decide) (by rw [c36]; decide) (by rw [c36]; rfl) (by decide) ?_
      exact law_untell hX hM hsh hL hc hs A36 hk6 hI tail
    by_cases c37 : v = 37
    · refine lw_tableIn 1187 dL_law_33 (by rw [c37]; decide) (by rw [c37]; decide) (by rw [c37]; rfl) (by decide) ?_
      exact law_later hX hM hsh hL hc hs A37 hk6 hI tail
    by_cases c38 : v = 38
    · refine lw_tableIn 1210 dL_law_33 (by rw [c38]; decide) (by rw [c38]; decide) (by rw [c38]; rfl) (by decide) ?_
      exact law_rows hX hM hsh hL hc hs A38 hk6 hI tail
    by_cases c39 : v = 39
    · refine lw_tableIn 1233 dL_law_33 (by rw [c39]; decide) (by rw [c39]; decide) (by rw [c39]; rfl) (by decide) ?_
      exact law_sure hX hM hsh hL hc hs A39 hk6 hI tail
    by_cases c40 : v = 40
    · refine lw_tableIn 1266 dL_law_33 (by rw [c40]; decide) (by rw [c40]; decide) (by rw [c40]; rfl) (by decide) ?_
      exact law_ask hX hM hsh hL hc hs A40 hk6 hI tail
    by_cases c41 : v = 41
    · refine lw_tableIn 1299 dL_law_33 (by rw [c41]; decide) (by rw [c41]; decide) (by rw [c41]; rfl) (by decide) ?_
      exact law_image hX hM hsh hL hc hs A41 hk6 hI tail
    by_cases c42 : v = 42
    · refine lw_tableIn 1322 dL_law_33 (by rw [c42]; decide) (by rw [c42]; decide) (by rw [c42]; rfl) (by decide) ?_
      exact law_back hX hM hsh hL hc hs A42 hk6 hI tail
    by_cases c43 : v = 43
    · refine lw_tableIn 1345 dL_law_33 (by rw [c43]; decide) (by rw [c43]; decide) (by rw [c43]; rfl) (by decide) ?_
      exact law_about hX hM hsh hL hc hs A43 hk6 hI tail
    refine lw_tableOut 1368 dL_law_33 (tab_out 0 43 [0, 1, 2, 3, 4, 5, 6, 7, 8, 9, 10, 11, 12, 13, 14, 15, 16, 17, 18, 19, 20, 21, 22, 23, 24, 25, 26, 27, 28, 29, 30, 31, 32, 33, 34, 35, 36, 37, 38, 39, 40, 41, 42, 43] (by decide) (by simp only [List.forall_mem_cons]; exact ⟨c0, c1, c2, c3, c4, c5, c6, c7, c8, c9, c10, c11, c12, c13, c14, c15, c16, c17, c18, c19, c20, c21, c22, c23, c24, c25, c26, c27, c28, c29, c30, c31, c32, c33, c34, c35, c36, c37, c38, c39, c40, c41, c42, c43, by simp⟩)) (by decide) ?_
    exact tail ρ σ hI
