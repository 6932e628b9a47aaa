/-! QUESTIONS: what is so -/
theorem api_v {f g : (Nat → Nat → Nat) → St → Option (Int32 × St)} (h : ∀ c S, WfC c → WfS c S → S 4 0 ≤ 999 → ∃ v, (∀ t σ, isT t → RepC t c σ → RepS 41 c S σ → Ok (f (RR t) σ) (fun r σ' => r = v ∧ Ag (ScX t) σ σ')) ∧ (∀ t σ, RepM c σ → RepA 119 c S σ → σ.1 90 27 = 0 → Ok (g (RR t) σ) (fun r σ' => r = v ∧ Ag ScM σ σ'))) : Api Inv f g :=
  api_g (fun t c S σ hi => by
    obtain ⟨v, h1, h2⟩ := h c S hi.2.1 hi.2.2.1 hi.2.2.2.1
    exact ⟨v, h1 t σ hi.1 hi.2.2.2.2.1.1 hi.2.2.2.2.1.2, fun σ1 hi1 _ => h2 t σ1 hi1.2.2.2.2.2.1.1 hi1.2.2.2.2.2.1.2.1 hi1.2.2.2.2.2.1.2.2⟩)
theorem q41 : isQ 41 := Or.inl rfl
theorem q46 : isQ 46 := Or.inr (Or.inl rfl)
theorem q83 : isQ 83 := Or.inr (Or.inr rfl)
theorem a120 {σ σ' : St} (a : Ag (fun p => p = 120) σ σ') : Ag ScM σ σ' := ag_mono a (fun p hp => by unfold ScM; omega)
theorem api_hearth {N : Nat} (hN : 20000 ≤ N) (a1 a2 : Int32) : Api Inv (fun ρ σ => f_X11_hearth N ρ 0 a1 a2 σ) (fun ρ σ => f_X12_hearth N ρ 90 a1 a2 σ) := by
  refine api_v (fun c S wf ws hd => ?_)
  have hnh := wf.1
  have hns := wf.2.1
  rcases ix_of a1 (show nh c < 2 ^ 31 by omega) with ⟨h, hh, rfl⟩ | hn
  · have i6 : ib (nI h) 6 = true := ib_nI (by omega) (by decide)
    have hX : ∀ (t : Nat) (σ : St) (Q : Int32 → St → Prop), isT t → RepC t c σ → f_X0_hasHearth N (RR t) t (nI h) σ = some (1, σ) := fun t σ Q ht rc => hasH_y rc.1 hnh hh
    by_cases e0 : a2 = 0
    · subst e0
      refine ⟨nI (dt c 0 h), fun t σ ht rc rs => ?_, fun t σ rm ra hx => ?_⟩
      · show Ok (f_X11_hearth N (RR t) 0 (nI h) _ σ) _
        unfold f_X11_hearth
        rw [r_0_2 rfl, rt0 rfl ht, nI_clamp (show h < 2 ^ 31 by omega)]
        exact ok_bnd (hasH_y rc.1 hnh hh) (ok_neg (by decide) (ok_pos rfl (ok_gd i6 (ok_ret ⟨rc.2.2.2.2.2.1 0 h (by decide) hh, ag_refl⟩))))
      · show Ok (f_X12_hearth N (RR t) 90 (nI h) _ σ) _
        unfold f_X12_hearth
        rw [r_90_36 rfl, nI_clamp (show h < 2 ^ 31 by omega)]
        exact ok_bnd (isH_y wf rm hh) (ok_neg (by decide) (m_fill hN rfl wf rm ra hx (fun _ σ1 a1 rm1 ra1 _ _ hx1 => ok_pos rfl (ok_gd i6 (ok_ret ⟨rm1.2.2.2.2.2.1 0 h (by decide) hh, a120 a1⟩)))))
    by_cases e1 : a2 = 1
    · subst e1
      refine ⟨nI (dt c 1 h), fun t σ ht rc rs => ?_, fun t σ rm ra hx => ?_⟩
      · show Ok (f_X11_hearth N (RR t) 0 (nI h) _ σ) _
        unfold f_X11_hearth
        rw [r_0_2 rfl, rt1 rfl ht, nI_clamp (show h < 2 ^ 31 by omega)]
        exact ok_bnd (hasH_y rc.1 hnh hh) (ok_neg (by decide) (ok_neg (by decide) (ok_pos rfl (ok_gd i6 (ok_ret ⟨rc.2.2.2.2.2.1 1 h (by decide) hh, ag_refl⟩)))))
      · show Ok (f_X12_hearth N (RR t) 90 (nI h) _ σ) _
        unfold f_X12_hearth
        rw [r_90_37 rfl, nI_clamp (show h < 2 ^ 31 by omega)]
        exact ok_bnd (isH_y wf rm hh) (ok_neg (by decide) (m_fill hN rfl wf rm ra hx (fun _ σ1 a1 rm1 ra1 _ _ hx1 => ok_neg (by decide) (ok_pos rfl (ok_gd i6 (ok_ret ⟨rm1.2.2.2.2.2.1 1 h (by decide) hh, a120 a1⟩))))))
    by_cases e2 : a2 = 2
    · subst e2
      refine ⟨nI (dt c 2 h), fun t σ ht rc rs => ?_, fun t σ rm ra hx => ?_⟩
      · show Ok (f_X11_hearth N (RR t) 0 (nI h) _ σ) _
        unfold f_X11_hearth
        rw [r_0_2 rfl, rt2 rfl ht, nI_clamp (show h < 2 ^ 31 by omega)]
        exact ok_bnd (hasH_y rc.1 hnh hh) (ok_neg (by decide) (ok_neg (by decide) (ok_neg (by decide) (ok_pos rfl (ok_gd i6 (ok_ret ⟨rc.2.2.2.2.2.1 2 h (by decide) hh, ag_refl⟩))))))
      · show Ok (f_X12_hearth N (RR t) 90 (nI h) _ σ) _
        unfold f_X12_hearth
        rw [r_90_38 rfl, nI_clamp (show h < 2 ^ 31 by omega)]
        exact ok_bnd (isH_y wf rm hh) (ok_neg (by decide) (m_fill hN rfl wf rm ra hx (fun _ σ1 a1 rm1 ra1 _ _ hx1 => ok_neg (by decide) (ok_neg (by decide) (ok_pos rfl (ok_gd i6 (ok_ret ⟨rm1.2.2.2.2.2.1 2 h (by decide) hh, a120 a1⟩)))))))
    by_cases e3 : a2 = 3
    · subst e3
      refine ⟨nI (dt c 3 h), fun t σ ht rc rs => ?_, fun t σ rm ra hx => ?_⟩
      · show Ok (f_X11_hearth N (RR t) 0 (nI h) _ σ) _
        unfold f_X11_hearth
        rw [r_0_2 rfl, rt3 rfl ht, nI_clamp (show h < 2 ^ 31 by omega)]
        exact ok_bnd (hasH_y rc.1 hnh hh) (ok_neg (by decide) (ok_neg (by decide) (ok_neg (by decide) (ok_neg (by decide) (ok_pos rfl (ok_gd i6 (ok_ret ⟨rc.2.2.2.2.2.1 3 h (by decide) hh, ag_refl⟩)))))))
      · show Ok (f_X12_hearth N (RR t) 90 (nI h) _ σ) _
        unfold f_X12_hearth
        rw [r_90_39 rfl, nI_clamp (show h < 2 ^ 31 by omega)]
        exact ok_bnd (isH_y wf rm hh) (ok_neg (by decide) (m_fill hN rfl wf rm ra hx (fun _ σ1 a1 rm1 ra1 _ _ hx1 => ok_neg (by decide) (ok_neg (by decide) (ok_neg (by decide) (ok_pos rfl (ok_gd i6 (ok_ret ⟨rm1.2.2.2.2.2.1 3 h (by decide) hh, a120 a1⟩))))))))
    by_cases e4 : a2 = 4
    · subst e4
      refine ⟨bits (atH S h) (ns c), fun t σ ht rc rs => ?_, fun t σ rm ra hx => ?_⟩
      · show Ok (f_X11_hearth N (RR t) 0 (nI h) _ σ) _
        unfold f_X11_hearth
        rw [r_0_2 rfl, r_0_4 rfl]
        exact ok_bnd (hasH_y rc.1 hnh hh) (ok_neg (by decide) (ok_neg (by decide) (ok_neg (by decide) (ok_neg (by decide) (ok_neg (by decide) (ok_pos rfl (ok_bnd (s_setAt hN rfl q41 wf ws rs (by omega)) (ok_ret ⟨rfl, ag_refl⟩))))))))
      · show Ok (f_X12_hearth N (RR t) 90 (nI h) _ σ) _
        unfold f_X12_hearth
        exact ok_bnd (isH_y wf rm hh) (ok_neg (by decide) (m_fill hN rfl wf rm ra hx (fun _ σ1 a1 rm1 ra1 _ _ hx1 => ok_neg (by decide) (ok_neg (by decide) (ok_neg (by decide) (ok_neg (by decide) (ok_pos rfl (ok_bnd (s_sentTo hN rfl wf ws rm1 ra1 (by omega)) (ok_ret ⟨rfl, a120 a1⟩)))))))))
    by_cases e5 : a2 = 5
    · subst e5
      refine ⟨(if qrl c S h = true then 1 else 0 : Int32), fun t σ ht rc rs => ?_, fun t σ rm ra hx => ?_⟩
      · show Ok (f_X11_hearth N (RR t) 0 (nI h) _ σ) _
        unfold f_X11_hearth
        rw [r_0_2 rfl, r_0_4 rfl]
        refine ok_bnd (hasH_y rc.1 hnh hh) (ok_neg (by decide) (ok_neg (by decide) (ok_neg (by decide) (ok_neg (by decide) (ok_neg (by decide) (ok_neg (by decide) (ok_pos rfl (ok_bnd (s_setAt hN rfl q41 wf ws rs (by omega)) (ok_bnd (s_quarrelH hN rfl ht wf rc) ?_)))))))))
        unfold f_X11_hearth_124
        by_cases hq : qrl c S h = true
        · rw [if_pos hq]
          exact ok_neg (by decide) (ok_ret ⟨rfl, ag_refl⟩)
        · rw [if_neg hq]
          exact ok_pos rfl (ok_ret ⟨rfl, ag_refl⟩)
      · show Ok (f_X12_hearth N (RR t) 90 (nI h) _ σ) _
        unfold f_X12_hearth
        refine ok_bnd (isH_y wf rm hh) (ok_neg (by decide) (m_fill hN rfl wf rm ra hx (fun _ σ1 a1 rm1 ra1 _ _ hx1 => ok_neg (by decide) (ok_neg (by decide) (ok_neg (by decide) (ok_neg (by decide) (ok_neg (by decide) (ok_pos rfl (ok_bnd (s_quarrels hN rfl wf ws rm1 ra1 (by omega)) (ok_bnd s_truth (ok_ret ⟨?_, a120 a1⟩)))))))))))
        by_cases hq : qrl c S h = true <;> simp [hq]
    refine ⟨-1, fun t σ ht rc rs => ?_, fun t σ rm ra hx => ?_⟩
    · show Ok (f_X11_hearth N (RR t) 0 (nI h) a2 σ) _
      unfold f_X11_hearth
      rw [r_0_2 rfl]
      exact ok_bnd (hasH_y rc.1 hnh hh) (ok_neg (by decide) (ok_neg e0 (ok_neg e1 (ok_neg e2 (ok_neg e3 (ok_neg e4 (ok_neg e5 (ok_ret ⟨rfl, ag_refl⟩))))))))
    · show Ok (f_X12_hearth N (RR t) 90 (nI h) a2 σ) _
      unfold f_X12_hearth
      exact ok_bnd (isH_y wf rm hh) (ok_neg (by decide) (m_fill hN rfl wf rm ra hx (fun _ σ1 a1 rm1 ra1 _ _ hx1 => ok_neg e0 (ok_neg e1 (ok_neg e2 (ok_neg e3 (ok_neg e4 (ok_neg e5 (ok_ret ⟨rfl, a120 a1⟩)))))))))
  · refine ⟨-1, fun t σ ht rc rs => ?_, fun t σ rm ra hx => ?_⟩
    · show Ok (f_X11_hearth N (RR t) 0 a1 a2 σ) _
      unfold f_X11_hearth
      rw [r_0_2 rfl]
      exact ok_bnd (hasH_n rc.1 hn) (ok_pos rfl (ok_ret ⟨rfl, ag_refl⟩))
    · show Ok (f_X12_hearth N (RR t) 90 a1 a2 σ) _
      unfold f_X12_hearth
      exact ok_bnd (isH_n wf rm hn) (ok_pos rfl (ok_ret ⟨rfl, ag_refl⟩))
theorem api_stool {N : Nat} (hN : 20000 ≤ N) (a1 a2 : Int32) : Api Inv (fun ρ σ => f_X11_stool N ρ 0 a1 a2 σ) (fun ρ σ => f_X12_stool N ρ 90 a1 a2 σ) := by
  refine api_v (fun c S wf ws hd => ?_)
  have hnh := wf.1
  have hns := wf.2.1
  rcases ix_of a1 (show ns c < 2 ^ 31 by omega) with ⟨s, hs, rfl⟩ | hn
  · have i5 : ib (nI s) 5 = true := ib_nI (by omega) (by decide)
    have i22 : ib (nI s) 22 = true := ib_nI (by omega) (by decide)
    by_cases e0 : a2 = 0
    · subst e0
      refine ⟨nI (dt c 4 s), fun t σ ht rc rs => ?_, fun t σ rm ra hx => ?_⟩
      · show Ok (f_X11_stool N (RR t) 0 (nI s) _ σ) _
        unfold f_X11_stool
        rw [r_0_2 rfl, r_0_4 rfl, rt4 rfl ht, nI_clamp (show s < 2 ^ 31 by omega)]
        exact ok_bnd (hasS_y rc.2.1 hns hs) (ok_neg (by decide) (ok_pos rfl (ok_gd i5 (ok_ret ⟨rc.2.2.2.2.2.2.1 4 s (by decide) (by decide) hs, ag_refl⟩))))
      · show Ok (f_X12_stool N (RR t) 90 (nI s) _ σ) _
        unfold f_X12_stool
        rw [r_90_40 rfl, nI_clamp (show s < 2 ^ 31 by omega)]
        exact ok_bnd (isS_y wf rm hs) (ok_neg (by decide) (m_fill hN rfl wf rm ra hx (fun _ σ1 a1 rm1 ra1 _ _ hx1 => ok_pos rfl (ok_gd i5 (ok_ret ⟨rm1.2.2.2.2.2.2.1 4 s (by decide) (by decide) hs, a120 a1⟩)))))
    by_cases e1 : a2 = 1
    · subst e1
      refine ⟨nI (S 0 s), fun t σ ht rc rs => ?_, fun t σ rm ra hx => ?_⟩
      · show Ok (f_X11_stool N (RR t) 0 (nI s) _ σ) _
        unfold f_X11_stool
        rw [r_0_2 rfl, r_0_4 rfl, rq0 rfl q41, nI_clamp (show s < 2 ^ 31 by omega)]
        exact ok_bnd (hasS_y rc.2.1 hns hs) (ok_neg (by decide) (ok_neg (by decide) (ok_pos rfl (ok_gd i5 (ok_ret ⟨(rs.1 s hs).1, ag_refl⟩)))))
      · show Ok (f_X12_stool N (RR t) 90 (nI s) _ σ) _
        unfold f_X12_stool
        rw [r_90_57 rfl, nI_clamp (show s < 2 ^ 31 by omega)]
        exact ok_bnd (isS_y wf rm hs) (ok_neg (by decide) (m_fill hN rfl wf rm ra hx (fun _ σ1 a1 rm1 ra1 _ _ hx1 => ok_neg (by decide) (ok_pos rfl (ok_gd i22 (ok_ret ⟨(ra1.1 s hs).1, a120 a1⟩))))))
    by_cases e2 : a2 = 2
    · subst e2
      refine ⟨nI (dt c 6 s), fun t σ ht rc rs => ?_, fun t σ rm ra hx => ?_⟩
      · show Ok (f_X11_stool N (RR t) 0 (nI s) _ σ) _
        unfold f_X11_stool
        rw [r_0_2 rfl, r_0_4 rfl, rt6 rfl ht, nI_clamp (show s < 2 ^ 31 by omega)]
        exact ok_bnd (hasS_y rc.2.1 hns hs) (ok_neg (by decide) (ok_neg (by decide) (ok_neg (by decide) (ok_pos rfl (ok_gd i5 (ok_ret ⟨rc.2.2.2.2.2.2.1 6 s (by decide) (by decide) hs, ag_refl⟩))))))
      · show Ok (f_X12_stool N (RR t) 90 (nI s) _ σ) _
        unfold f_X12_stool
        rw [r_90_42 rfl, nI_clamp (show s < 2 ^ 31 by omega)]
        exact ok_bnd (isS_y wf rm hs) (ok_neg (by decide) (m_fill hN rfl wf rm ra hx (fun _ σ1 a1 rm1 ra1 _ _ hx1 => ok_neg (by decide) (ok_neg (by decide) (ok_pos rfl (ok_gd i5 (ok_ret ⟨rm1.2.2.2.2.2.2.1 6 s (by decide) (by decide) hs, a120 a1⟩)))))))
    by_cases e3 : a2 = 3
    · subst e3
      refine ⟨nI (S 1 s), fun t σ ht rc rs => ?_, fun t σ rm ra hx => ?_⟩
      · show Ok (f_X11_stool N (RR t) 0 (nI s) _ σ) _
        unfold f_X11_stool
        rw [r_0_2 rfl, r_0_4 rfl, rq1 rfl q41, nI_clamp (show s < 2 ^ 31 by omega)]
        exact ok_bnd (hasS_y rc.2.1 hns hs) (ok_neg (by decide) (ok_neg (by decide) (ok_neg (by decide) (ok_neg (by decide) (ok_pos rfl (ok_gd i5 (ok_ret ⟨(rs.1 s hs).2.1, ag_refl⟩)))))))
      · show Ok (f_X12_stool N (RR t) 90 (nI s) _ σ) _
        unfold f_X12_stool
        rw [r_90_57 rfl, n5, nI_clamp (show 5 + s < 2 ^ 31 by omega)]
        exact ok_bnd (isS_y wf rm hs) (ok_neg (by decide) (m_fill hN rfl wf rm ra hx (fun _ σ1 a1 rm1 ra1 _ _ hx1 => ok_neg (by decide) (ok_neg (by decide) (ok_neg (by decide) (ok_pos rfl (ok_gd (ib_nI (by omega) (by decide)) (ok_ret ⟨(ra1.1 s hs).2.1, a120 a1⟩))))))))
    by_cases e4 : a2 = 4
    · subst e4
      refine ⟨nI (S 2 s), fun t σ ht rc rs => ?_, fun t σ rm ra hx => ?_⟩
      · show Ok (f_X11_stool N (RR t) 0 (nI s) _ σ) _
        unfold f_X11_stool
        rw [r_0_2 rfl, r_0_4 rfl, rq2 rfl q41, nI_clamp (show s < 2 ^ 31 by omega)]
        exact ok_bnd (hasS_y rc.2.1 hns hs) (ok_neg (by decide) (ok_neg (by decide) (ok_neg (by decide) (ok_neg (by decide) (ok_neg (by decide) (ok_pos rfl (ok_gd i5 (ok_ret ⟨(rs.1 s hs).2.2.1, ag_refl⟩))))))))
      · show Ok (f_X12_stool N (RR t) 90 (nI s) _ σ) _
        unfold f_X12_stool
        rw [r_90_57 rfl, n10, nI_clamp (show 10 + s < 2 ^ 31 by omega)]
        exact ok_bnd (isS_y wf rm hs) (ok_neg (by decide) (m_fill hN rfl wf rm ra hx (fun _ σ1 a1 rm1 ra1 _ _ hx1 => ok_neg (by decide) (ok_neg (by decide) (ok_neg (by decide) (ok_neg (by decide) (ok_pos rfl (ok_gd (ib_nI (by omega) (by decide)) (ok_ret ⟨(ra1.1 s hs).2.2.1, a120 a1⟩)))))))))
    by_cases e5 : a2 = 5
    · subst e5
      refine ⟨sv (S 3 s), fun t σ ht rc rs => ?_, fun t σ rm ra hx => ?_⟩
      · show Ok (f_X11_stool N (RR t) 0 (nI s) _ σ) _
        unfold f_X11_stool
        rw [r_0_2 rfl, r_0_4 rfl, rq3 rfl q41, nI_clamp (show s < 2 ^ 31 by omega)]
        exact ok_bnd (hasS_y rc.2.1 hns hs) (ok_neg (by decide) (ok_neg (by decide) (ok_neg (by decide) (ok_neg (by decide) (ok_neg (by decide) (ok_neg (by decide) (ok_pos rfl (ok_gd i5 (ok_ret ⟨(rs.1 s hs).2.2.2, ag_refl⟩)))))))))
      · show Ok (f_X12_stool N (RR t) 90 (nI s) _ σ) _
        unfold f_X12_stool
        rw [r_90_57 rfl, n15, nI_clamp (show 15 + s < 2 ^ 31 by omega)]
        exact ok_bnd (isS_y wf rm hs) (ok_neg (by decide) (m_fill hN rfl wf rm ra hx (fun _ σ1 a1 rm1 ra1 _ _ hx1 => ok_neg (by decide) (ok_neg (by decide) (ok_neg (by decide) (ok_neg (by decide) (ok_neg (by decide) (ok_pos rfl (ok_gd (ib_nI (by omega) (by decide)) (ok_ret ⟨(ra1.1 s hs).2.2.2, a120 a1⟩))))))))))
    by_cases e6 : a2 = 6
    · subst e6
      refine ⟨(if svd c S s = true then 1 else 0 : Int32), fun t σ ht rc rs => ?_, fun t σ rm ra hx => ?_⟩
      · show Ok (f_X11_stool N (RR t) 0 (nI s) _ σ) _
        unfold f_X11_stool
        rw [r_0_2 rfl, r_0_4 rfl]
        refine ok_bnd (hasS_y rc.2.1 hns hs) (ok_neg (by decide) (ok_neg (by decide) (ok_neg (by decide) (ok_neg (by decide) (ok_neg (by decide) (ok_neg (by decide) (ok_neg (by decide) (ok_pos rfl (ok_bnd (s_isSaved rfl q41 wf ws rc rs hs) ?_)))))))))
        unfold f_X11_stool_136
        by_cases hq : svd c S s = true
        · rw [if_pos hq]
          exact ok_neg (by decide) (ok_ret ⟨rfl, ag_refl⟩)
        · rw [if_neg hq]
          exact ok_pos rfl (ok_ret ⟨rfl, ag_refl⟩)
      · show Ok (f_X12_stool N (RR t) 90 (nI s) _ σ) _
        unfold f_X12_stool
        refine ok_bnd (isS_y wf rm hs) (ok_neg (by decide) (m_fill hN rfl wf rm ra hx (fun _ σ1 a1 rm1 ra1 _ _ hx1 => ok_neg (by decide) (ok_neg (by decide) (ok_neg (by decide) (ok_neg (by decide) (ok_neg (by decide) (ok_neg (by decide) (ok_pos rfl (ok_bnd (s_isSavedM rfl wf ws rm1 ra1 hs) (ok_bnd s_truth (ok_ret ⟨?_, a120 a1⟩))))))))))))
        by_cases hq : svd c S s = true <;> simp [hq]
    refine ⟨-2, fun t σ ht rc rs => ?_, fun t σ rm ra hx => ?_⟩
    · show Ok (f_X11_stool N (RR t) 0 (nI s) a2 σ) _
      unfold f_X11_stool
      rw [r_0_2 rfl]
      exact ok_bnd (hasS_y rc.2.1 hns hs) (ok_neg (by decide) (ok_neg e0 (ok_neg e1 (ok_neg e2 (ok_neg e3 (ok_neg e4 (ok_neg e5 (ok_neg e6 (ok_ret ⟨rfl, ag_refl⟩)))))))))
    · show Ok (f_X12_stool N (RR t) 90 (nI s) a2 σ) _
      unfold f_X12_stool
      exact ok_bnd (isS_y wf rm hs) (ok_neg (by decide) (m_fill hN rfl wf rm ra hx (fun _ σ1 a1 rm1 ra1 _ _ hx1 => ok_neg e0 (ok_neg e1 (ok_neg e2 (ok_neg e3 (ok_neg e4 (ok_neg e5 (ok_neg e6 (ok_ret ⟨rfl, a120 a1⟩))))))))))
  · refine ⟨-2, fun t σ ht rc rs => ?_, fun t σ rm ra hx => ?_⟩
    · show Ok (f_X11_stool N (RR t) 0 a1 a2 σ) _
      unfold f_X11_stool
      rw [r_0_2 rfl]
      exact ok_bnd (hasS_n rc.2.1 hn) (ok_pos rfl (ok_ret ⟨rfl, ag_refl⟩))
    · show Ok (f_X12_stool N (RR t) 90 a1 a2 σ) _
      unfold f_X12_stool
      exact ok_bnd (isS_n wf rm hn) (ok_pos rfl (ok_ret ⟨rfl, ag_refl⟩))
theorem ok_itv {c : Prop} [Decidable c] {a b : Option (Int32 × St)} {x y : Int32} {P : St → Prop} (ha : Ok a (fun r σ' => r = x ∧ P σ')) (hb : Ok b (fun r σ' => r = y ∧ P σ')) : Ok (if c then a else b) (fun r σ' => r = (if c then x else y) ∧ P σ') := by
  by_cases hc : c
  · simp only [if_pos hc]; exact ha
  · simp only [if_neg hc]; exact hb
theorem api_about {N : Nat} (a1 : Int32) : Api Inv (fun ρ σ => f_X11_about N ρ 0 a1 σ) (fun ρ σ => f_X12_about N ρ 90 a1 σ) := by
  refine api_g (fun t c S σ hi => ?_)
  obtain ⟨ht, wf, ws, hd, ⟨rc, rs⟩, _, hist, _, ⟨L, hL1, hL2, hL3, hL4⟩, _, ⟨M, T, mk, mem⟩, ⟨K, bt, tap⟩, _⟩ := hi
  obtain ⟨d, u, H, hok, hx, hm⟩ := hist
  refine ⟨(if a1 = 0 then nI (ns c) else if a1 = 1 then nI (nh c) else if a1 = 2 then nI (dt c 8 0) else if a1 = 3 then nI (dt c 8 1) else if a1 = 4 then nI (S 4 0) else if a1 = 5 then nI (S 4 1) else if a1 = 6 then σ.1 51 1 else if a1 = 7 then σ.1 51 2 else if a1 = 8 then σ.1 68 6 else if a1 = 9 then σ.1 68 7 else if a1 = 10 then σ.1 4 1 else if a1 = 11 then nI (dt c 8 3) else if a1 = 12 then σ.1 0 14 else -1), ?_, ?_⟩
  · show Ok (f_X11_about N (RR t) 0 a1 σ) _
    unfold f_X11_about
    rw [r_0_2 rfl, r_0_4 rfl, r_0_6 rfl, r_0_11 rfl, r_0_0 rfl, rt8 rfl ht, rt9 rfl ht, rc.1, rc.2.1, rc.2.2.1, rc.2.2.2.1, rs.2.2.1, rs.2.2.2, rc.2.2.2.2.2.2.2.2.2.2.2]
    exact ok_itv (ok_ret ⟨rfl, ag_refl⟩) (ok_itv (ok_ret ⟨rfl, ag_refl⟩) (ok_itv (ok_ret ⟨rfl, ag_refl⟩) (ok_itv (ok_ret ⟨rfl, ag_refl⟩) (ok_itv (ok_ret ⟨rfl, ag_refl⟩) (ok_itv (ok_ret ⟨rfl, ag_refl⟩) (ok_itv (ok_ret ⟨rfl, ag_refl⟩) (ok_itv (ok_ret ⟨rfl, ag_refl⟩) (ok_itv (ok_ret ⟨rfl, ag_refl⟩) (ok_itv (ok_ret ⟨rfl, ag_refl⟩) (ok_itv (ok_ret ⟨rfl, ag_refl⟩) (ok_itv (ok_ret ⟨rfl, ag_refl⟩) (ok_itv (ok_ret ⟨rfl, ag_refl⟩) (ok_ret ⟨rfl, ag_refl⟩)))))))))))))
  · intro σ1 hi1 a
    obtain ⟨_, _, _, _, ⟨rc1, rs1⟩, ⟨rm1, ra1, _⟩, hist1, _, ⟨L1, _, hl2, hl3, _⟩, _, ⟨M1, T1, mk1, mem1⟩, ⟨K1, bt1, tap1⟩, _⟩ := hi1
    obtain ⟨d1, u1, H1, _, ⟨hk2, hk3, _⟩, ⟨hk4, hk5, _⟩⟩ := hist1
    have x51 : σ1.1 51 = σ.1 51 := (a 51 (by have := isT_le ht; unfold ScX; omega)).1
    have x68 : σ1.1 68 = σ.1 68 := (a 68 (by have := isT_le ht; unfold ScX; omega)).1
    have x4 : σ1.1 4 = σ.1 4 := (a 4 (by have := isT_le ht; unfold ScX; omega)).1
    have x0 : σ1.1 0 = σ.1 0 := (a 0 (by have := isT_le ht; unfold ScX; omega)).1
    rw [x51] at hk2 hk3
    rw [x0] at hl2
    have m3 := mem1.2.2.1
    have m5 := mem1.2.2.2.2.1
    have t2 := tap1.2.1
    rw [x68] at m3 m5
    rw [x4] at t2
    show Ok (f_X12_about N (RR t) 90 a1 σ1) _
    unfold f_X12_about
    rw [r_90_56 rfl, rm1.1, rm1.2.1, rm1.2.2.1, rm1.2.2.2.1, rm1.2.2.2.2.1, hk4, hk5, mem1.2.2.2.1, mem1.2.2.2.2.2.1, tap1.2.2.1, hl3, show σ1.1 119 (20 : Int32).toNatClampNeg = _ from ra1.2.1, show σ1.1 119 (21 : Int32).toNatClampNeg = _ from ra1.2.2, hk2, hk3, m3, m5, t2, hl2]
    exact ok_itv (ok_ret ⟨rfl, ag_refl⟩) (ok_itv (ok_ret ⟨rfl, ag_refl⟩) (ok_itv (ok_ret ⟨rfl, ag_refl⟩) (ok_itv (ok_ret ⟨rfl, ag_refl⟩) (ok_itv (ok_gd rfl (ok_ret ⟨rfl, ag_refl⟩)) (ok_itv (ok_gd rfl (ok_ret ⟨rfl, ag_refl⟩)) (ok_itv (ok_ret ⟨rfl, ag_refl⟩) (ok_itv (ok_ret ⟨rfl, ag_refl⟩) (ok_itv (ok_ret ⟨rfl, ag_refl⟩) (ok_itv (ok_ret ⟨rfl, ag_refl⟩) (ok_itv (ok_ret ⟨rfl, ag_refl⟩) (ok_itv (ok_ret ⟨rfl, ag_refl⟩) (ok_itv (ok_ret ⟨rfl, ag_refl⟩) (ok_ret ⟨rfl, ag_refl⟩)))))))))))))
theorem api_fault {N : Nat} (a1 : Int32) : Api Inv (fun ρ σ => f_X11_fault N ρ 0 a1 σ) (fun ρ σ => f_X12_fault N ρ 90 a1 σ) := by
  refine api_g (fun t c S σ hi => ?_)
  refine ⟨(if a1 = 0 then σ.1 0 15 else if a1 = 1 then σ.1 0 16 else -1), ?_, ?_⟩
  · show Ok (f_X11_fault N (RR t) 0 a1 σ) _
    unfold f_X11_fault
    refine ok_ite (fun z => ok_ret ⟨by rw [if_pos z], ag_refl⟩) (fun z => ok_ite (fun z2 => ok_ret ⟨by rw [if_neg z, if_pos z2], ag_refl⟩) (fun z2 => ok_ret ⟨by rw [if_neg z, if_neg z2], ag_refl⟩))
  · intro σ1 hi1 a
    have x0 : σ1.1 0 = σ.1 0 := (a 0 (by have := isT_le hi.1; unfold ScX; omega)).1
    obtain ⟨f1, f2⟩ := hi1.2.2.2.2.2.2.2.2.2.1
    rw [x0] at f1 f2
    show Ok (f_X12_fault N (RR t) 90 a1 σ1) _
    unfold f_X12_fault f_X12_fault_24
    rw [f1, f2]
    refine ok_ite (fun z => ok_ret ⟨by rw [if_pos z], ag_refl⟩) (fun z => ok_ite (fun z2 => ok_ret ⟨by rw [if_neg z, if_pos z2], ag_refl⟩) (fun z2 => ok_ret ⟨by rw [if_neg z, if_neg z2], ag_refl⟩))
theorem api_lies {N : Nat} (a1 : Int32) : Api Inv (fun ρ σ => f_X11_lies N ρ 0 a1 σ) (fun ρ σ => f_X12_lies N ρ 90 a1 σ) := by
  refine api_g (fun t c S σ hi => ?_)
  obtain ⟨L, hL, h1, h2, h3⟩ := hi.2.2.2.2.2.2.2.2.1
  rcases ix_of a1 (show L < 2 ^ 31 by omega) with ⟨k, hk, rfl⟩ | hn
  · refine ⟨σ.1 89 k, ?_, ?_⟩
    · show Ok (f_X11_lies N (RR t) 0 (nI k) σ) _
      unfold f_X11_lies f_X11_lies_23
      rw [r_0_13 rfl, h1, nI_clamp (show k < 2 ^ 31 by omega)]
      exact ok_neg (nI_pos (by omega)) (ok_neg (nI_ge hk (by omega)) (ok_gd (ib_nI (by omega) (by decide)) (ok_ret ⟨rfl, ag_refl⟩)))
    · intro σ1 hi1 a
      have x90 : σ1.1 90 = σ.1 90 := (a 90 (by have := isT_le hi.1; unfold ScX; omega)).1
      have x125 : σ1.1 125 = σ.1 125 := (a 125 (by have := isT_le hi.1; unfold ScX; omega)).1
      show Ok (f_X12_lies N (RR t) 90 (nI k) σ1) _
      unfold f_X12_lies f_X12_lies_25
      rw [r_90_64 rfl, x90, h2, nI_clamp (show k < 2 ^ 31 by omega)]
      refine ok_bnd (isIn_y (by omega) hk) (ok_neg (by decide) (ok_gd (ib_nI (by omega) (by decide)) (ok_ret ⟨?_, ag_refl⟩)))
      rw [x125]
      exact (h3 k hk).symm
  · refine ⟨-2, ?_, ?_⟩
    · show Ok (f_X11_lies N (RR t) 0 a1 σ) _
      unfold f_X11_lies f_X11_lies_21 f_X11_lies_23
      rw [h1]
      rcases hn with hn | hn
      · exact ok_pos hn (ok_ret ⟨rfl, ag_refl⟩)
      · exact ok_ite (fun _ => ok_ret ⟨rfl, ag_refl⟩) (fun _ => ok_pos hn (ok_ret ⟨rfl, ag_refl⟩))
    · intro σ1 hi1 a
      have x90 : σ1.1 90 = σ.1 90 := (a 90 (by have := isT_le hi.1; unfold ScX; omega)).1
      show Ok (f_X12_lies N (RR t) 90 a1 σ1) _
      unfold f_X12_lies f_X12_lies_25
      rw [x90, h2]
      exact ok_bnd (isIn_n (by omega) hn) (ok_pos rfl (ok_ret ⟨rfl, ag_refl⟩))
theorem api_saved {N : Nat} (hN : 20000 ≤ N) : Api Inv (fun ρ σ => f_X11_saved N ρ 0 σ) (fun ρ σ => f_X12_saved N ρ 90 σ) := by
  refine api_v (fun c S wf ws hd => ⟨bits (svd c S) (ns c), fun t σ ht rc rs => ?_, fun t σ rm ra hx => ?_⟩)
  · show Ok (f_X11_saved N (RR t) 0 σ) _
    unfold f_X11_saved
    rw [r_0_2 rfl, r_0_4 rfl]
    exact ok_bnd (s_savedBits hN rfl q41 wf ws rc rs) (ok_ret ⟨rfl, ag_refl⟩)
  · show Ok (f_X12_saved N (RR t) 90 σ) _
    unfold f_X12_saved
    exact m_fill hN rfl wf rm ra hx (fun _ σ1 a1 rm1 ra1 _ _ hx1 => ok_bnd (s_savedOnes hN rfl wf ws rm1 ra1) (ok_ret ⟨rfl, a120 a1⟩))
theorem api_tonight {N : Nat} (hN : 20000 ≤ N) (a1 : Int32) : Api Inv (fun ρ σ => f_X11_tonight N ρ 0 a1 σ) (fun ρ σ => f_X12_tonight N ρ 90 a1 σ) := by
  refine api_v (fun c S wf ws hd => ?_)
  rcases ix_of a1 (show 3 < 2 ^ 31 by decide) with ⟨w, hw, rfl⟩ | hn
  · refine ⟨bits (fun s => decide (fare c S 0 s = w + 1)) (ns c), fun t σ ht rc rs => ?_, fun t σ rm ra hx => ?_⟩
    · show Ok (f_X11_tonight N (RR t) 0 (nI w) σ) _
      unfold f_X11_tonight
      rw [r_0_2 rfl, r_0_4 rfl]
      rcases (show w = 0 ∨ w = 1 ∨ w = 2 by omega) with rfl | rfl | rfl
      · exact ok_pos rfl (ok_call (s_counting hN rfl ht q41 wf ws rc rs) (fun r σ1 h1 => ok_ret ⟨h1.1, sc_x h1.2⟩))
      · exact ok_neg (by decide) (ok_pos rfl (ok_call (s_breaking hN rfl ht q41 wf ws rc rs) (fun r σ1 h1 => ok_ret ⟨h1.1, sc_x h1.2⟩)))
      · exact ok_neg (by decide) (ok_neg (by decide) (ok_pos rfl (ok_call (s_quarrelling (x := 0) hN rfl ht q41 wf ws rc rs) (fun r σ1 h1 => ok_ret ⟨h1.1, ag0 h1.2⟩))))
    · show Ok (f_X12_tonight N (RR t) 90 (nI w) σ) _
      unfold f_X12_tonight
      rw [nI_1]
      refine ok_bnd (isIn_y (n := 3) (by decide) hw) (ok_neg (by decide) (m_fill hN rfl wf rm ra hx (fun _ σ1 a1 rm1 ra1 _ _ hx1 => ?_)))
      exact ok_call (s_whoFares hN rfl wf ws rm1 ra1 hx1 (by omega)) (fun r σ2 h2 => ok_ret ⟨h2.1, ag_trans (a120 a1) (sm_m h2.2)⟩)
  · refine ⟨-1, fun t σ ht rc rs => ?_, fun t σ rm ra hx => ?_⟩
    · show Ok (f_X11_tonight N (RR t) 0 a1 σ) _
      unfold f_X11_tonight
      refine ok_neg ?_ (ok_neg ?_ (ok_neg ?_ (ok_ret ⟨rfl, ag_refl⟩)))
      · rintro rfl; revert hn; decide
      · rintro rfl; revert hn; decide
      · rintro rfl; revert hn; decide
    · show Ok (f_X12_tonight N (RR t) 90 a1 σ) _
      unfold f_X12_tonight
      exact ok_bnd (isIn_n (n := 3) (by decide) hn) (ok_pos rfl (ok_ret ⟨rfl, ag_refl⟩))
theorem s_isSent_y {N t s : Nat} {c : CDat} {S : SDat} {σ : St} (ht : isT t) (wf : WfC c) (ws : WfS c S) (rc : RepC t c σ) (rs : RepS 41 c S σ) (hs : s < ns c) (h3 : S 3 s ≠ 0) : f_X11_isSent N (RR t) 0 (nI s) σ = some (1, σ) := by
  have hns := wf.2.1
  have h3b := (ws.1 s hs).2.2.2
  unfold f_X11_isSent f_X11_isSent_35
  rw [r_0_2 rfl, r_0_4 rfl, rq3 rfl q41, bnd_e (hasS_y rc.2.1 hns hs), if_neg (by decide), gd_t (ib_nI (by omega) (by decide)), nI_clamp (by omega), (rs.1 s hs).2.2.2, sv_nz h3, bnd_e (hasH_y rc.1 wf.1 (by omega))]
  rfl
theorem s_isSent_n {N t : Nat} {c : CDat} {S : SDat} {x : Int32} {σ : St} (ht : isT t) (wf : WfC c) (rc : RepC t c σ) (rs : RepS 41 c S σ) (h : (x < 0 ∨ nI (ns c) ≤ x) ∨ ∃ s, s < ns c ∧ x = nI s ∧ S 3 s = 0) : f_X11_isSent N (RR t) 0 x σ = some (0, σ) := by
  have hns := wf.2.1
  unfold f_X11_isSent f_X11_isSent_34 f_X11_isSent_35
  rw [r_0_2 rfl, r_0_4 rfl, rq3 rfl q41]
  rcases h with h | ⟨s, hs, rfl, h3⟩
  · rw [bnd_e (hasS_n rc.2.1 h)]
    rfl
  · rw [bnd_e (hasS_y rc.2.1 hns hs), if_neg (by decide), gd_t (ib_nI (by omega) (by decide)), nI_clamp (by omega), (rs.1 s hs).2.2.2, h3, sv_0, bnd_e (hasH_n rc.1 (Or.inl (by decide)))]
    rfl
theorem api_load {N : Nat} (hN : 20000 ≤ N) (a1 : Int32) : Api Inv (fun ρ σ => f_X11_load N ρ 0 a1 σ) (fun ρ σ => f_X12_load N ρ 90 a1 σ) := by
  refine api_v (fun c S wf ws hd => ?_)
  have hns := wf.2.1
  have hnh := wf.1
  rcases ix_of a1 (show ns c < 2 ^ 31 by omega) with ⟨s, hs, rfl⟩ | hn
  · have h3b := (ws.1 s hs).2.2.2
    by_cases h3 : S 3 s = 0
    · refine ⟨-1, fun t σ ht rc rs => ?_, fun t σ rm ra hx => ?_⟩
      · show Ok (f_X11_load N (RR t) 0 (nI s) σ) _
        unfold f_X11_load
        exact ok_bnd (s_isSent_n ht wf rc rs (Or.inr ⟨s, hs, rfl, h3⟩)) (ok_pos rfl (ok_ret ⟨rfl, ag_refl⟩))
      · show Ok (f_X12_load N (RR t) 90 (nI s) σ) _
        unfold f_X12_load f_X12_load_32 f_X12_load_33
        refine m_fill hN rfl wf rm ra hx (fun _ σ1 a1 rm1 ra1 _ _ hx1 => ok_bnd (isS_y wf rm1 hs) (ok_neg (by decide) ?_))
        rw [n15, r_90_57 rfl, nI_clamp (show 15 + s < 2 ^ 31 by omega), (ra1.1 s hs).2.2.2, h3]
        exact ok_gd (ib_nI (by omega) (by decide)) (ok_pos (by decide) (ok_ret ⟨rfl, a120 a1⟩))
    · refine ⟨lod c S 0 s, fun t σ ht rc rs => ?_, fun t σ rm ra hx => ?_⟩
      · show Ok (f_X11_load N (RR t) 0 (nI s) σ) _
        unfold f_X11_load
        rw [r_0_2 rfl, r_0_4 rfl, rq3 rfl q41, nI_clamp (show s < 2 ^ 31 by omega)]
        refine ok_bnd (s_isSent_y ht wf ws rc rs hs h3) (ok_neg (by decide) (ok_gd (ib_nI (by omega) (by decide)) (ok_nmd ?_)))
        rw [(rs.1 s hs).2.2.2, sv_nz h3]
        refine ok_bnd (s_setAt hN rfl q41 wf ws rs (by omega)) (ok_bnd (s_bitCount (by omega)) ?_)
        exact ok_call (s_loadC (x := 0) hN rfl ht q41 wf rc rs hs (by omega) (mny_pos hs h3) (mny_le wf)) (fun r σ1 h1 => ok_ret ⟨h1.1, sc_x h1.2⟩)
      · show Ok (f_X12_load N (RR t) 90 (nI s) σ) _
        unfold f_X12_load f_X12_load_33
        refine m_fill hN rfl wf rm ra hx (fun _ σ1 a1 rm1 ra1 _ _ hx1 => ok_bnd (isS_y wf rm1 hs) (ok_neg (by decide) ?_))
        rw [n15, r_90_57 rfl, nI_clamp (show 15 + s < 2 ^ 31 by omega), (ra1.1 s hs).2.2.2, sv_nz h3]
        exact ok_gd (ib_nI (by omega) (by decide)) (ok_neg (nI_pos (by omega)) (ok_call (s_loadOf hN rfl wf ws rm1 ra1 hx1 hs h3) (fun r σ2 h2 => ok_ret ⟨h2.1, ag_trans (a120 a1) (sm_m h2.2)⟩)))
  · refine ⟨-1, fun t σ ht rc rs => ?_, fun t σ rm ra hx => ?_⟩
    · show Ok (f_X11_load N (RR t) 0 a1 σ) _
      unfold f_X11_load
      exact ok_bnd (s_isSent_n ht wf rc rs (Or.inl hn)) (ok_pos rfl (ok_ret ⟨rfl, ag_refl⟩))
    · show Ok (f_X12_load N (RR t) 90 a1 σ) _
      unfold f_X12_load f_X12_load_32 f_X12_load_33
      exact m_fill hN rfl wf rm ra hx (fun _ σ1 a1 rm1 ra1 _ _ hx1 => ok_bnd (isS_n wf rm1 hn) (ok_pos rfl (ok_ret ⟨rfl, a120 a1⟩)))
