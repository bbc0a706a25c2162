/-! ===== run ===== -/
theorem spend_eq {V : Nat} {v1 : Int32} {V0 sp : Nat} {m : St} (hs : sp ≤ 200000) (hV0 : V0 ≤ 1000000) (h73 : m.1 0 73 = nI sp) (hv : v1 = nI V0) (hV : V = min (200000 - sp) V0) : f_Mo_spend v1 m = f_Mo_spend_J25 (nI V) m := by
  unfold f_Mo_spend
  rw [h73, hv, show (200000 : Int32) = nI 200000 from rfl, nI_sub hs]
  by_cases h : 200000 - sp ≤ V0
  · rw [if_pos (nI_le h (by omega)), hV, Nat.min_eq_left h]
  · rw [if_neg (nI_ge (by omega) (by omega)), hV, Nat.min_eq_right (by omega)]
theorem min_eq {V sp V0 : Nat} (hs : sp ≤ 200000) (hV0 : V0 ≤ 1000000) (hV : V = min (200000 - sp) V0) : (if nI (200000 - sp) < nI V0 then nI (200000 - sp) else nI V0) = nI V := by
  by_cases h : 200000 - sp < V0
  · rw [if_pos (nI_lt h (by omega)), hV, Nat.min_eq_left (by omega)]
  · rw [if_neg (nI_nlt (by omega) (by omega)), hV, Nat.min_eq_right (by omega)]
theorem sim_run : Sim_run Rel := by
  intro c m hRel x1
  have hRel' := hRel
  obtain ⟨hT, sp, b, w0, w1, hC, hL⟩ := hRel
  unfold f_SB_run f_Mo_run
  rcases hL with ⟨l1, l2, _, _⟩ | ⟨l1, l2, N, n, stp, hW, hB, hn, hst, h12, h29⟩
  · rw [if_pos l1, if_pos l2]; exact ⟨-1, c, m, rfl, rfl, hRel'⟩
  rw [if_neg (show ¬ c.1 0 5 = 0 by rw [l1]; decide), if_neg (show ¬ m.1 0 19 = 0 by rw [l2]; decide)]
  by_cases x0 : x1 < 0
  · rw [if_pos x0, if_pos x0]; exact ⟨-1, c, m, rfl, rfl, hRel'⟩
  rw [if_neg x0, if_neg x0]
  by_cases x2' : ¬ x1 ≤ 20000
  · rw [if_neg x2', if_neg x2']; exact ⟨-1, c, m, rfl, rfl, hRel'⟩
  have x2 : x1 ≤ 20000 := Classical.byContradiction x2'
  rw [if_pos x2, if_pos x2]
  obtain ⟨V0, hV0, rfl⟩ : ∃ V0, V0 ≤ 20000 ∧ x1 = nI V0 := nI_rngL (n := 20000) (by decide) (Int32.not_lt.mp x0) x2
  obtain ⟨hs, h73, h8, hb, h14, h28, hP, hR0, hR1, hs0, hs1⟩ := hC
  obtain ⟨V, hV⟩ : ∃ V, V = min (200000 - sp) V0 := ⟨_, rfl⟩
  have e28 : uI m 0 28 0 = m := uI_same h28
  obtain ⟨v, c', m', hv, e1, e2, e3⟩ := S_advance hW (V := V) (by omega) (by omega) hB
  obtain ⟨f1, f2, f3, f4, f5, f6, f7, f8⟩ := BS_fr e3
  have k8 : (uI c' 20 12 (c.1 20 12 + nI v)).1 0 8 = nI (200000 - sp) := by rw [uI_n (by omega), f1 0 (by omega)]; exact h8
  have m73 : m'.1 0 73 = nI sp := by rw [f3 0 73 (by unfold own; omega)]; exact h73
  rw [lt_eq, h8, min_eq hs (by omega) hV, e1, Option.bind_some, lt_eq]
  dsimp only
  rw [lt_eq, k8, nI_sub (show v ≤ 200000 - sp by omega), lt_eq, e28, spend_eq hs (by omega) h73 rfl hV]
  unfold f_Mo_spend_J25
  rw [e2, Option.bind_some]
  dsimp only
  rw [lt_eq, m73, nI_add, lt_eq, Option.bind_some]
  refine ⟨nI v, _, _, rfl, rfl, ?_⟩
  -- the relation again
  have hc20 : ∀ k j, ¬ (k = 20 ∧ j = 12) → ¬ (k = 0 ∧ j = 8) → (uI (uI c' 20 12 (c.1 20 12 + nI v)) 0 8 (nI (200000 - sp - v))).1 k j = c'.1 k j := fun k j h1 h2 => by rw [uI_o h2, uI_o h1]
  have hm0 : ∀ k j, ¬ (k = 0 ∧ j = 73) → (uI m' 0 73 (nI (sp + v))).1 k j = m'.1 k j := fun k j h => uI_o h
  have hck : ∀ k, k ≠ 20 → k ≠ 0 → (uI (uI c' 20 12 (c.1 20 12 + nI v)) 0 8 (nI (200000 - sp - v))).1 k = c'.1 k := fun k h1 h2 => by rw [uI_n h2, uI_n h1]
  have hmk : ∀ k, k ≠ 0 → (uI m' 0 73 (nI (sp + v))).1 k = m'.1 k := fun k h => uI_n h
  have mown : ∀ k j, ¬ own 0 k j → ¬ (k = 0 ∧ j = 73) → (uI m' 0 73 (nI (sp + v))).1 k j = m.1 k j := fun k j h1 h2 => by rw [hm0 k j h2]; exact f3 k j h1
  have hBS := BS_rebase (c' := uI (uI c' 20 12 (c.1 20 12 + nI v)) 0 8 (nI (200000 - sp - v))) (m' := uI m' 0 73 (nI (sp + v))) e3 (fun k j h1 h2 h3 => hc20 k j h3 (by omega)) (fun k j h => hm0 k j (by omega)) (by rw [hm0 0 28 (by omega)]; exact f5)
  have k2 : (uI (uI c' 20 12 (c.1 20 12 + nI v)) 0 8 (nI (200000 - sp - v))).2 = c.2 := by rw [uI_2, uI_2]; exact f2
  have m29 : (uI m' 0 73 (nI (sp + v))).1 0 29 = m.1 0 29 := mown 0 29 (by unfold own; omega) (by omega)
  have hWn := WP_of (c := uI (uI c' 20 12 (c.1 20 12 + nI v)) 0 8 (nI (200000 - sp - v))) (m := uI m' 0 73 (nI (sp + v))) hW (by omega) (fun k h1 h2 => by rw [hck k (by omega) (by omega)]; exact f1 k (by omega)) (by rw [k2]) (fun k h1 h2 => by rw [hmk k (by omega)]; exact funext fun j => f3 k j (by unfold own; omega)) (by rw [hmk 36 (by omega)]; exact funext fun j => f3 36 j (by unfold own; omega)) (mown 0 14 (by unfold own; omega) (by omega)) (mown 0 16 (by unfold own; omega) (by omega)) (mown 0 55 (by unfold own; omega) (by omega)) (by rw [m29]; exact h29)
  refine ⟨TA_of hT ?_ ?_ ?_ ?_ (fun j hj => mown 0 j (by unfold own; omega) (by omega)) (by rw [k2]), sp + v, b, ?_⟩
  · rw [hc20 0 1 (by omega) (by omega), f1 0 (by omega)]
  · rw [hck 1 (by omega) (by omega), f1 1 (by omega)]
  · rw [hck 2 (by omega) (by omega), f1 2 (by omega)]
  · rw [hmk 1 (by omega)]; exact funext fun j => f3 1 j (by unfold own; omega)
  · obtain ⟨w0', hR0'⟩ := BS_R1 hBS
    have hR1' := R1_oth (z := 0) (B := 20) (c := uI (uI c' 20 12 (c.1 20 12 + nI v)) 0 8 (nI (200000 - sp - v))) (m := uI m' 0 73 (nI (sp + v))) (.inl ⟨rfl, rfl⟩) (.inr ⟨rfl, rfl⟩) (by omega) (fun k h1 h2 => by rw [hck k (by omega) (by omega)]; exact f1 k h1) (fun k j h1 h2 => mown k j h1 (by omega)) hR1
    refine ⟨w0', w1, ⟨by omega, uI_v, ?_, hb, ?_, ?_, ?_, hR0', hR1', BS_sup hBS, ?_⟩, .inr ⟨?_, ?_, N, n + 4 * v, stp + v, ?_, ?_, by omega, by omega, ?_, by rw [m29]; exact h29⟩⟩
    · rw [uI_v]; congr 1; omega
    · exact (mown 0 14 (by unfold own; omega) (by omega)).trans h14
    · rw [hm0 0 28 (by omega)]; exact f5
    · unfold PT; rw [k2]; exact hP
    · rw [hck _ (by omega) (by omega), f1 _ (by omega)]; exact hs1
    · rw [hc20 0 5 (by omega) (by omega), f1 0 (by omega)]; exact l1
    · exact (mown 0 19 (by unfold own; omega) (by omega)).trans l2
    · rw [k2]; exact hWn
    · rw [← nI_add]; exact hBS
    · rw [uI_n (by omega), uI_v, h12, nI_add]
