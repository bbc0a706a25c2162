/-! ===== input ===== -/
theorem sim_input : Sim_input Rel := by
  intro c m h x1
  have h' := h
  obtain ⟨hT, sp, b, w0, w1, ⟨hs, h73, h8, hb, h14, h28, hP, hR0, hR1, hs0, hs1⟩, hL⟩ := h
  unfold f_SB_input f_Mo_input
  rcases hL with ⟨l1, l2, _, _⟩ | ⟨l1, l2, N, n, stp, hW, hB, hn, hst, h12, h29⟩
  · rw [if_pos l1, if_pos l2]; exact ⟨-1, c, m, rfl, rfl, h'⟩
  rw [if_neg (show ¬ c.1 0 5 = 0 by rw [l1]; decide), if_neg (show ¬ m.1 0 19 = 0 by rw [l2]; decide)]
  obtain ⟨p1, p2, p3, p4, p5, p6, p7, ⟨I, i1, i2, i3, i4⟩, p9⟩ := hW
  have hl : 10 ≤ c.2.2 0 ∧ c.2.2 0 < 16 := by rcases p1 with e | e <;> omega
  obtain ⟨P, hPe⟩ : ∃ P, P = c.2.2 0 := ⟨_, rfl⟩
  rw [← hPe] at p1 p2 p6 i2 i4 p9 hl
  rw [← hPe, gP_e p1]
  unfold f_Pr_addInput
  rw [i2, i3]
  by_cases g : I = 100
  · subst g
    rw [if_neg (by decide), if_pos (by decide)]; exact ⟨-1, c, m, rfl, rfl, h'⟩
  rw [if_pos (show nI I < 100 from nI_lt (b := 100) (by omega) (by decide)), if_neg (show ¬ nI I = 100 from ne_l (k := 100) (by omega) (by omega) g), gd_nI (by omega) (by omega), gd_nI (by omega) (by omega), nI_clamp (by omega), lt_eq, lt_eq, lt_eq, lt_eq, uI_n (show P ≠ P + 4 by omega), i2, uI_n (show (0 : Nat) ≠ 36 by omega), i3, nI_1, uI_v, uI_v, Option.bind_some]
  refine ⟨nI (I + 1), _, _, rfl, rfl, ?_⟩
  have ck : ∀ k, k ≠ P → k ≠ P + 4 → (uI (uI c (P + 4) I x1) P 5 (nI (I + 1))).1 k = c.1 k := fun k h1 h2 => by rw [uI_n h1, uI_n h2]
  have mk : ∀ k, k ≠ 0 → k ≠ 36 → (uI (uI m 36 I x1) 0 55 (nI (I + 1))).1 k = m.1 k := fun k h1 h2 => by rw [uI_n h1, uI_n h2]
  have m0 : ∀ j, j ≠ 55 → (uI (uI m 36 I x1) 0 55 (nI (I + 1))).1 0 j = m.1 0 j := fun j h1 => by rw [uI_o (by omega), uI_n (by omega)]
  have hrl : ∀ z k j, rlv z k j → ¬ (k = 0 ∧ j = 69) → (uI (uI m 36 I x1) 0 55 (nI (I + 1))).1 k j = m.1 k j := by
    intro z k j hr hn
    unfold rlv at hr
    by_cases k0 : k = 0
    · subst k0; exact m0 j (by omega)
    · rw [mk k k0 (by omega)]
  have k2 : (uI (uI c (P + 4) I x1) P 5 (nI (I + 1))).2 = c.2 := by rw [uI_2, uI_2]
  refine ⟨TA_of hT (by rw [ck 0 (by omega) (by omega)]) (ck 1 (by omega) (by omega)) (ck 2 (by omega) (by omega)) (mk 1 (by omega) (by omega)) (fun j hj => m0 j (by omega)) (by rw [k2]), sp, b, w0, w1, ⟨hs, (m0 73 (by omega)).trans h73, by rw [ck 0 (by omega) (by omega)]; exact h8, hb, (m0 14 (by omega)).trans h14, (m0 28 (by omega)).trans h28, by unfold PT; rw [k2]; exact hP, R1_blind (by omega) hR0 (fun k h1 _ => ck k (by omega) (by omega)) (hrl 0), R1_blind (by omega) hR1 (fun k h1 _ => ck k (by omega) (by omega)) (hrl 1), by rw [ck _ (by omega) (by omega)]; exact hs0, by rw [ck _ (by omega) (by omega)]; exact hs1⟩, .inr ⟨by rw [ck 0 (by omega) (by omega)]; exact l1, (m0 19 (by omega)).trans l2, N, n, stp, ?_, ?_, hn, hst, by rw [ck 20 (by omega) (by omega)]; exact h12, by rw [m0 29 (by omega)]; exact h29⟩⟩
  · rw [k2, ← hPe]
    have c3 : (uI (uI c (P + 4) I x1) P 5 (nI (I + 1))).1 P 3 = c.1 P 3 := by rw [uI_o (by omega), uI_n (by omega)]
    refine ⟨p1, by rw [k2]; exact p2, p3, (m0 14 (by omega)).trans p4, p5, c3.trans p6, (m0 16 (by omega)).trans p7, ⟨I + 1, by omega, uI_v, uI_v, fun j hj => ?_⟩, fun i hi => ?_⟩
    · rw [uI_n (show P + 4 ≠ P by omega), uI_n (show (36 : Nat) ≠ 0 by omega)]
      by_cases ej : j = I
      · subst ej; rw [uI_v, uI_v]
      · rw [uI_o (by omega), uI_o (by omega)]; exact i4 j (by omega)
    · obtain ⟨o, r1, r2, r3, r4, r5, r6, r7, r8, r9, r10, r11, r12, r13⟩ := p9 i hi
      refine ⟨o, r1, by rw [k2]; exact r2, r3, (m0 14 (by omega)).trans r4, r5, r6, c3.trans r7, (m0 16 (by omega)).trans r8, by rw [ck _ (by omega) (by omega)]; exact r9, by rw [mk 3 (by omega) (by omega)]; exact r10, r11, by rw [m0 29 (by omega)]; exact r12, fun j hj => ?_⟩
      have := r13 j hj
      unfold kO kE kR kN kL at this ⊢
      rw [ck (P + 2) (by omega) (by omega), ck (P + 3) (by omega) (by omega), mk 4 (by omega) (by omega), mk 5 (by omega) (by omega)]
      exact this
  · exact BS_rebase3 hB (fun k j h1 h2 _ => by rw [ck k (by omega) (by omega)]) (hrl 0) ((m0 28 (by omega)).trans h28)
