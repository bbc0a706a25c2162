/-! ===== questions ===== -/
theorem Rel_R1 {c m : St} (h : Rel c m) {d j k i : Nat} (hq : phi 0 d j = some (k, i)) (hn : ¬ (d = 0 ∧ j = 10)) : c.1 (20 + d) j = m.1 k i := by
  obtain ⟨_, sp, b, w0, w1, hC, _⟩ := h
  have := hC.2.2.2.2.2.2.2.1 d j _ hq
  rw [uI_o (by omega)] at this; exact this
theorem Rel_ld {c m : St} (h : Rel c m) : (c.1 0 5 = 0 ∧ m.1 0 19 = 0 ∧ m.1 0 61 = 0 ∧ m.1 0 56 = 0) ∨ (c.1 0 5 = 1 ∧ m.1 0 19 = 1 ∧ ∃ N n t, n < 2 ^ 30 ∧ BS 0 20 n N t c m c m ∧ c.1 20 12 = t) := by
  obtain ⟨_, sp, b, w0, w1, hC, hL⟩ := h
  rcases hL with hL | ⟨l1, l2, N, n, stp, hW, hB, hn, hst, h12, h29⟩
  · exact .inl hL
  · exact .inr ⟨l1, l2, N, n, nI stp, by have := hC.1; omega, hB, h12⟩
theorem sim_fault : Sim_fault Rel := by
  intro c m h x1
  obtain ⟨_, h1, h2, h3, _⟩ := h.1
  unfold f_SB_fault f_Mo_fault
  rw [h1, h2, h3]
  by_cases g0 : x1 = 0
  · rw [if_pos g0]; exact ⟨_, rfl, rfl⟩
  rw [if_neg g0]
  by_cases g1 : x1 = 1
  · rw [if_pos g1]; exact ⟨_, rfl, rfl⟩
  rw [if_neg g1]
  by_cases g2 : x1 = 2
  · rw [if_pos g2]; exact ⟨_, rfl, rfl⟩
  rw [if_neg g2]; exact ⟨_, rfl, rfl⟩
theorem sim_register : Sim_register Rel := by
  intro c m h x1 x2
  unfold f_SB_register f_Mo_register
  rcases Rel_ld h with ⟨l1, l2, _, _⟩ | ⟨l1, l2, _⟩
  · rw [if_pos l1, if_pos l2]; exact ⟨_, rfl, rfl⟩
  rw [if_neg (show ¬ c.1 0 5 = 0 by rw [l1]; decide), if_neg (show ¬ m.1 0 19 = 0 by rw [l2]; decide)]
  by_cases g0 : x1 < 0
  · rw [if_pos g0, if_pos g0]; exact ⟨_, rfl, rfl⟩
  rw [if_neg g0, if_neg g0]
  by_cases g8 : x1 < 8
  · obtain ⟨r, hr, rfl⟩ : ∃ r, r < 8 ∧ x1 = nI r := nI_rng (n := 8) (by decide) (Int32.not_lt.mp g0) g8
    rw [if_pos g8, if_pos (show nI r ≤ 7 from nI_le (b := 7) (by omega) (by decide)), gd_nI hr (by omega), nI_clamp (by omega)]
    have q : ∀ j, j < 3 → c.1 (20 + 26 + r) j = m.1 (13 + j) r := fun j hj => by
      have := Rel_R1 h (phi_reg (z := 0) (r := r) (j := j) hr hj) (by omega)
      rw [Nat.mul_zero, Nat.zero_add] at this; rw [Nat.add_assoc]; exact this
    unfold f_Da_tell
    rw [q 0 (by omega), q 1 (by omega), q 2 (by omega)]
    by_cases y0 : x2 = 0
    · rw [if_pos y0, if_pos y0, gd_nI (by omega) (by omega)]; exact ⟨_, rfl, rfl⟩
    rw [if_neg y0, if_neg y0]
    by_cases y1 : x2 = 1
    · rw [if_pos y1, if_pos y1, gd_nI (by omega) (by omega)]; exact ⟨_, rfl, rfl⟩
    rw [if_neg y1, if_neg y1]
    by_cases y2 : x2 = 2
    · rw [if_pos y2, if_pos y2, gd_nI (by omega) (by omega)]; exact ⟨_, rfl, rfl⟩
    rw [if_neg y2, if_neg y2]; exact ⟨_, rfl, rfl⟩
  · rw [if_neg g8, if_neg (fun h => g8 (Int32.lt_of_le_of_lt h (by decide)))]; exact ⟨_, rfl, rfl⟩
theorem sim_memory : Sim_memory Rel := by
  intro c m h x1 x2
  unfold f_SB_memory f_Mo_memory f_Me_tell
  rcases Rel_ld h with ⟨l1, l2, _, _⟩ | ⟨l1, l2, _⟩
  · rw [if_pos l1, if_pos l2]; exact ⟨_, rfl, rfl⟩
  rw [if_neg (show ¬ c.1 0 5 = 0 by rw [l1]; decide), if_neg (show ¬ m.1 0 19 = 0 by rw [l2]; decide)]
  by_cases g0 : x1 < 0
  · rw [if_pos g0, if_pos (show f_Me_isByte x1 = 0 by unfold f_Me_isByte; rw [if_pos g0])]; exact ⟨_, rfl, rfl⟩
  rw [if_neg g0]
  by_cases g8 : x1 < 4096
  · obtain ⟨r, hr, rfl⟩ : ∃ r, r < 4096 ∧ x1 = nI r := nI_rng (n := 4096) (by decide) (Int32.not_lt.mp g0) g8
    rw [if_pos g8, me_isByte hr, if_neg (by decide), nI_clamp (by omega)]
    have q : ∀ d, 2 ≤ d → d < 6 → c.1 (20 + d) r = m.1 (14 + d) r := fun d h1 h2 => by
      have := Rel_R1 h (phi_mem (z := 0) h1 h2 hr) (by omega)
      rw [Nat.mul_zero, Nat.zero_add] at this; exact this
    rw [q 2 (by omega) (by omega), q 3 (by omega) (by omega), q 4 (by omega) (by omega), q 5 (by omega) (by omega)]
    by_cases y0 : x2 = 0
    · rw [if_pos y0, if_pos y0, gd_nI (by omega) (by omega), gd_nI (by omega) (by omega)]; exact ⟨_, rfl, rfl⟩
    rw [if_neg y0, if_neg y0]
    by_cases y1 : x2 = 1
    · rw [if_pos y1, if_pos y1, gd_nI (by omega) (by omega), gd_nI (by omega) (by omega)]; exact ⟨_, rfl, rfl⟩
    rw [if_neg y1, if_neg y1]
    by_cases y2 : x2 = 2
    · rw [if_pos y2, if_pos y2, gd_nI (by omega) (by omega), gd_nI (by omega) (by omega)]; exact ⟨_, rfl, rfl⟩
    rw [if_neg y2, if_neg y2]
    by_cases y3 : x2 = 3
    · rw [if_pos y3, if_pos y3, gd_nI (by omega) (by omega), gd_nI (by omega) (by omega)]
      by_cases y4 : m.1 19 r = 0
      · rw [if_pos (show m.1 (14 + 5) r = 0 from y4)]; exact ⟨_, rfl, rfl⟩
      · rw [if_neg (show ¬ m.1 (14 + 5) r = 0 from y4)]; exact ⟨_, rfl, rfl⟩
    rw [if_neg y3, if_neg y3]; exact ⟨_, rfl, rfl⟩
  · rw [if_neg g8, if_pos (show f_Me_isByte x1 = 0 by unfold f_Me_isByte; rw [if_neg g0, if_pos (Int32.not_lt.mp g8)])]; exact ⟨_, rfl, rfl⟩
theorem sim_output : Sim_output Rel := by
  intro c m h x1
  unfold f_SB_output f_Mo_output f_Ma_outputAt
  rcases Rel_ld h with ⟨l1, l2, _, l4⟩ | ⟨l1, l2, N, n, t, hn, hB, _⟩
  · rw [if_pos l1, l4]
    by_cases g0 : x1 < 0
    · rw [if_pos g0]; exact ⟨_, rfl, rfl⟩
    rw [if_neg g0]
    by_cases g1 : 100 ≤ x1
    · rw [if_pos g1]; exact ⟨_, rfl, rfl⟩
    rw [if_neg g1, if_neg g0]; exact ⟨_, rfl, rfl⟩
  rw [if_neg (show ¬ c.1 0 5 = 0 by rw [l1]; decide)]
  have e18 : c.1 20 18 = m.1 0 56 := Rel_R1 h (show phi 0 0 18 = some (0, 56) from rfl) (by omega)
  rw [e18]
  by_cases g0 : x1 < 0
  · rw [if_pos g0, if_pos g0]; exact ⟨_, rfl, rfl⟩
  rw [if_neg g0, if_neg g0]
  by_cases g1 : 100 ≤ x1
  · rw [if_pos g1, if_pos g1]; exact ⟨_, rfl, rfl⟩
  rw [if_neg g1, if_neg g1]
  obtain ⟨r, hr, rfl⟩ : ∃ r, r < 100 ∧ x1 = nI r := nI_rng (n := 100) (by decide) (Int32.not_lt.mp g0) (Int32.not_le.mp g1)
  by_cases g2 : m.1 0 56 ≤ nI r
  · rw [if_pos g2, if_neg (Int32.not_lt.mpr g2)]; exact ⟨_, rfl, rfl⟩
  · have p37 : phi 0 37 r = some (37, r) := by unfold phi; simp; omega
    rw [if_neg g2, if_pos (Int32.not_le.mp g2), gd_nI hr (by omega), gd_nI hr (by omega), nI_clamp (by omega), Rel_R1 h p37 (by omega)]; exact ⟨_, rfl, rfl⟩
