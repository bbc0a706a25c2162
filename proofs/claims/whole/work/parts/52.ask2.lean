/-! ===== more questions ===== -/
theorem sim_report : Sim_report Rel := by
  intro c m h x1 x2
  unfold f_SB_report f_Mo_report f_Lg_tell
  rcases Rel_ld h with ⟨l1, l2, l3, _⟩ | ⟨l1, l2, N, n, t, hn, hB, _⟩
  · rw [if_pos l1, l3]
    by_cases g0 : x1 < 0
    · rw [if_pos g0]; exact ⟨_, rfl, rfl⟩
    rw [if_neg g0, if_neg g0]; exact ⟨_, rfl, rfl⟩
  rw [if_neg (show ¬ c.1 0 5 = 0 by rw [l1]; decide)]
  obtain ⟨i, _, _, hS⟩ := hB
  obtain ⟨kept, rep, sup, supp, hk, h60, _⟩ := hS.2.1
  rw [uI_n (by omega)] at hk
  have e61 : c.1 (20 + 17) 4 = m.1 0 61 := Rel_R1 h (show phi 0 17 4 = some (0, 61) from rfl) (by omega)
  rw [e61]
  rw [e61] at hk
  by_cases g0 : x1 < 0
  · rw [if_pos g0, if_pos g0]; exact ⟨_, rfl, rfl⟩
  rw [if_neg g0, if_neg g0]
  by_cases g1 : x1 < m.1 0 61
  · rw [hk] at g1
    obtain ⟨r, hr, rfl⟩ : ∃ r, r < kept ∧ x1 = nI r := nI_rng (by omega) (Int32.not_lt.mp g0) g1
    rw [hk, if_pos g1, if_pos g1]
    have q : ∀ d, 18 ≤ d → d < 22 → c.1 (20 + d) r = m.1 (20 + d) r := fun d h1 h2 => Rel_R1 h (phi_led h1 h2 (by omega)) (by omega)
    simp only [gd_nI (show r < 60 by omega) (show 60 < 2 ^ 31 by omega), nI_clamp (show r < 2 ^ 31 by omega)]
    rw [q 18 (by omega) (by omega), q 19 (by omega) (by omega), q 20 (by omega) (by omega), q 21 (by omega) (by omega)]
    by_cases y0 : x2 = 0
    · rw [if_pos y0]; exact ⟨_, rfl, rfl⟩
    rw [if_neg y0]
    by_cases y1 : x2 = 1
    · rw [if_pos y1]; exact ⟨_, rfl, rfl⟩
    rw [if_neg y1]
    by_cases y2 : x2 = 2
    · rw [if_pos y2]; exact ⟨_, rfl, rfl⟩
    rw [if_neg y2]
    by_cases y3 : x2 = 3
    · rw [if_pos y3]; exact ⟨_, rfl, rfl⟩
    rw [if_neg y3]; exact ⟨_, rfl, rfl⟩
  · rw [if_neg g1, if_neg g1]; exact ⟨_, rfl, rfl⟩
theorem sim_state : Sim_state Rel := by
  intro c m h x1
  unfold f_SB_state f_Mo_state f_Ma_tell
  rcases Rel_ld h with ⟨l1, l2, l3, _⟩ | ⟨l1, l2, N, n, t, hn, hB, h12⟩
  · rw [if_pos l1, if_pos l2]; exact ⟨_, rfl, rfl⟩
  rw [if_neg (show ¬ c.1 0 5 = 0 by rw [l1]; decide), if_neg (show ¬ m.1 0 19 = 0 by rw [l2]; decide)]
  have hf := BS_fr hB
  have m22 : m.1 22 0 = c.1 20 12 := hf.2.2.2.2.2.2.1.trans h12.symm
  obtain ⟨i, _, _, hS⟩ := hB
  have m20 : m.1 20 0 = c.1 20 9 := by
    have e1 := RB_eq hS.1 (show phi 0 0 10 = some (20, 0) from rfl)
    rw [show 20 + 0 = 20 from rfl, uI_v, uI_n (by omega)] at e1
    have e2 := SI_9 hS
    rw [uI_o (by omega)] at e2
    rw [← e1, e2]
  obtain ⟨kept, rep, sup, supp, hk, h60, hr, hs, hb, _, _, hq⟩ := hS.2.1
  rw [uI_n (by omega)] at hr hs
  have hq := hq rfl
  rw [uI_o (by omega)] at hq
  have e11 : c.1 20 11 = m.1 21 0 := Rel_R1 h (show phi 0 0 11 = some (21, 0) from rfl) (by omega)
  have e13 : c.1 20 13 = m.1 23 0 := Rel_R1 h (show phi 0 0 13 = some (23, 0) from rfl) (by omega)
  have e18 : c.1 20 18 = m.1 0 56 := Rel_R1 h (show phi 0 0 18 = some (0, 56) from rfl) (by omega)
  have e4 : c.1 (20 + 17) 4 = m.1 0 61 := Rel_R1 h (show phi 0 17 4 = some (0, 61) from rfl) (by omega)
  have e5 : c.1 (20 + 17) 5 = m.1 0 62 := Rel_R1 h (show phi 0 17 5 = some (0, 62) from rfl) (by omega)
  have e6 : c.1 (20 + 17) 6 = m.1 0 63 := Rel_R1 h (show phi 0 17 6 = some (0, 63) from rfl) (by omega)
  have e7 : c.1 (20 + 6) 5 = m.1 34 0 := Rel_R1 h (show phi 0 6 5 = some (34, 0) from rfl) (by omega)
  have eq9 : f_Lg_isQuiet 20 c = some (m.1 0 64) := by
    unfold f_Lg_isQuiet
    rw [hr, hs, hq]
    by_cases g1 : rep = 0
    · subst g1
      rw [if_pos (show nI 0 = 0 from rfl)]
      by_cases g2 : sup = 0
      · subst g2; rw [if_pos (show nI 0 = 0 from rfl)]; rfl
      · rw [if_neg (nI_ne0 (by omega) (by omega)), if_neg (by omega)]
    · rw [if_neg (nI_ne0 (by omega) (by omega)), if_neg (by omega)]
  have g2 : ∀ {β : Type} (q : Option β), gd 0 2 q = q := fun q => gd_nI (n := 0) (by omega) (by omega)
  have k0 : (0 : Int32).toNatClampNeg = 0 := by decide
  simp only [g2, k0]
  rw [eq9, e11, e13, e18, e4, e5, e6, e7, ← m20, ← m22, Option.bind_some]
  by_cases y0 : x1 = 0
  · rw [if_pos y0]; exact ⟨_, rfl, rfl⟩
  rw [if_neg y0]
  by_cases y1 : x1 = 1
  · rw [if_pos y1]; exact ⟨_, rfl, rfl⟩
  rw [if_neg y1]
  by_cases y2 : x1 = 2
  · rw [if_pos y2]; exact ⟨_, rfl, rfl⟩
  rw [if_neg y2]
  by_cases y3 : x1 = 3
  · rw [if_pos y3]; exact ⟨_, rfl, rfl⟩
  rw [if_neg y3]
  by_cases y4 : x1 = 4
  · rw [if_pos y4]; exact ⟨_, rfl, rfl⟩
  rw [if_neg y4]
  by_cases y5 : x1 = 5
  · rw [if_pos y5]; exact ⟨_, rfl, rfl⟩
  rw [if_neg y5]
  by_cases y6 : x1 = 6
  · rw [if_pos y6]; exact ⟨_, rfl, rfl⟩
  rw [if_neg y6]
  by_cases y7 : x1 = 7
  · rw [if_pos y7]; exact ⟨_, rfl, rfl⟩
  rw [if_neg y7]
  by_cases y8 : x1 = 8
  · rw [if_pos y8]; exact ⟨_, rfl, rfl⟩
  rw [if_neg y8]
  by_cases y9 : x1 = 9
  · rw [if_pos y9]
    by_cases z0 : m.1 0 64 = 0
    · rw [if_pos z0]; exact ⟨_, rfl, rfl⟩
    · rw [if_neg z0]; exact ⟨_, rfl, rfl⟩
  rw [if_neg y9]; exact ⟨_, rfl, rfl⟩
