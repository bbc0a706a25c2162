theorem sim_suppress : Sim_suppress Rel := by
  intro c m h x1 x2 x3
  have h' := h
  obtain ⟨hT, sp, b, w0, w1, ⟨hs, h73, h8, hb, h14, h28, hP, hR0, hR1, ⟨s, s20, hs0⟩, hs1⟩, hL⟩ := h
  unfold f_SB_suppress f_Mo_suppress
  rcases hL with ⟨l1, l2, _, _⟩ | ⟨l1, l2, N, n, stp, hW, hB, hn, hst, h12, h29⟩
  · rw [if_pos l1, if_pos l2]; exact ⟨-1, c, m, rfl, rfl, h'⟩
  rw [if_neg (show ¬ c.1 0 5 = 0 by rw [l1]; decide), if_neg (show ¬ m.1 0 19 = 0 by rw [l2]; decide)]
  have e68 : m.1 0 68 = nI s := (Rel_R1 h' (show phi 0 17 10 = some (0, 68) from rfl) (by omega)).symm.trans hs0
  have same : ∀ {X : Option (Int32 × St)}, X = some (-1, c) → ∃ r c' m', X.bind (fun q2 => some (q2.1, q2.2)) = some (r, c') ∧ (some (-1, m) : Option (Int32 × St)) = some (r, m') ∧ Rel c' m' := fun hX => ⟨-1, c, m, by rw [hX]; rfl, rfl, h'⟩
  have no : f_Lg_addSuppression_J24 20 x1 x2 x3 1 c = some (-1, c) := by
    unfold f_Lg_addSuppression_J24; exact if_neg (by decide)
  have full : s = 20 → f_Lg_addSuppression_J24 20 x1 x2 x3 0 c = some (-1, c) := by
    intro e
    unfold f_Lg_addSuppression_J24
    rw [if_pos rfl, hs0, e, if_neg (by decide)]
  rw [e68]
  unfold f_Lg_addSuppression f_Lg_addSuppression_J19
  rw [no]
  by_cases e20 : s = 20
  · rw [if_pos (show nI s = 20 by rw [e20]; rfl), full e20]
    refine same ?_
    by_cases y1 : x1 < 0
    · rw [if_pos y1]
    rw [if_neg y1]
    by_cases y2 : 7 < x1
    · rw [if_pos y2]
    rw [if_neg y2]
    by_cases y3 : x2 < 0
    · rw [if_pos y3]
    rw [if_neg y3, ite_self]
  rw [if_neg (show ¬ nI s = 20 from ne_l (k := 20) (by omega) (by omega) e20)]
  by_cases y1 : x1 < 0
  · rw [if_pos y1, if_pos y1]; exact same rfl
  rw [if_neg y1, if_neg y1]
  by_cases y2 : 7 < x1
  · rw [if_pos y2, if_pos y2]; exact same rfl
  rw [if_neg y2, if_neg y2]
  by_cases y3 : x2 < 0
  · rw [if_pos y3, if_pos y3]; exact same rfl
  rw [if_neg y3, if_neg y3]
  by_cases y4 : ¬ x2 ≤ x3
  · rw [if_neg y4, if_neg y4]; exact same rfl
  have y4 : x2 ≤ x3 := Classical.byContradiction y4
  have hs2 : s < 20 := by omega
  have eC : f_Lg_addSuppression_J24 20 x1 x2 x3 0 c = some (nI (s + 1), spC c s x1 x2 x3) := by
    unfold f_Lg_addSuppression_J24 spC
    rw [if_pos rfl, hs0, if_pos (show nI s < 20 from nI_lt (b := 20) hs2 (by decide)), gd_nI hs2 (by omega), nI_clamp (by omega), lt_eq, uI_n (show 20 + 17 ≠ 20 + 22 by omega), hs0, gd_nI hs2 (by omega), nI_clamp (by omega), lt_eq, uI_n (show 20 + 17 ≠ 20 + 23 by omega), uI_n (show 20 + 17 ≠ 20 + 22 by omega), hs0, gd_nI hs2 (by omega), nI_clamp (by omega), lt_eq, uI_n (show 20 + 17 ≠ 20 + 24 by omega), uI_n (show 20 + 17 ≠ 20 + 23 by omega), uI_n (show 20 + 17 ≠ 20 + 22 by omega), hs0, nI_1, lt_eq, uI_v]
  rw [if_pos y4, if_pos y4, eC, Option.bind_some, gd_nI hs2 (by omega), nI_clamp (by omega), lt_eq, uI_n (show (0 : Nat) ≠ 42 by omega), e68, gd_nI hs2 (by omega), nI_clamp (by omega), lt_eq, uI_n (show (0 : Nat) ≠ 43 by omega), uI_n (show (0 : Nat) ≠ 42 by omega), e68, gd_nI hs2 (by omega), nI_clamp (by omega), lt_eq, uI_n (show (0 : Nat) ≠ 44 by omega), uI_n (show (0 : Nat) ≠ 43 by omega), uI_n (show (0 : Nat) ≠ 42 by omega), e68, nI_1, lt_eq, uI_v]
  refine ⟨nI (s + 1), spC c s x1 x2 x3, spM m s x1 x2 x3, rfl, rfl, ?_⟩
  have hBS := BS_sp (v1 := x1) (v2 := x2) (v3 := x3) hs2 hB
  obtain ⟨w0', hR0'⟩ := BS_R1 hBS
  have hR1' : R1 1 58 (uI (spC c s x1 x2 x3) 58 10 w1) (spM m s x1 x2 x3) := by
    intro d j q hq
    obtain ⟨k, l⟩ := q
    have hk := phi1_k hq
    have hd := (phi_own hq (z := 0) (by omega) (by omega) (by omega)).2.1
    show _ = (spM m s x1 x2 x3).1 k l
    rw [spM_n (by omega)]
    have := hR1 d j _ hq
    rw [uI_g2, spC_n (by omega), ← uI_g2]; exact this
  have k2 : (spC c s x1 x2 x3).2 = c.2 := by unfold spC; rw [uI_2, uI_2, uI_2, uI_2]
  have hWn := WP_of (c := spC c s x1 x2 x3) (m := spM m s x1 x2 x3) hW (by omega) (fun k h1 h2 => spC_n (by omega)) (by rw [k2]) (fun k h1 h2 => spM_n (by omega)) (spM_n (by omega)) (spM_0 (by omega)) (spM_0 (by omega)) (spM_0 (by omega)) (by rw [spM_0 (by omega)]; exact h29)
  refine ⟨TA_of hT (by rw [spC_n (by omega)]) (spC_n (by omega)) (spC_n (by omega)) (spM_n (by omega)) (fun j hj => spM_0 (by omega)) rfl, sp, b, w0', w1, ⟨hs, (spM_0 (by omega)).trans h73, by rw [spC_n (by omega)]; exact h8, hb, (spM_0 (by omega)).trans h14, (spM_0 (by omega)).trans h28, by unfold PT; rw [k2]; exact hP, hR0', hR1', BS_sup hBS, by rw [spC_n (by omega)]; exact hs1⟩, .inr ⟨by rw [spC_n (by omega)]; exact l1, (spM_0 (by omega)).trans l2, N, n, stp, by rw [k2]; exact hWn, hBS, hn, hst, by rw [spC_n (by omega)]; exact h12, by rw [spM_0 (by omega)]; exact h29⟩⟩
