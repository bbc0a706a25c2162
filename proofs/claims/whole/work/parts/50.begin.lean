/-! ===== begin ===== -/
theorem sim_begin : Sim_begin Rel := by
  intro c m hRel x1 x2
  have hRel' := hRel
  obtain ⟨hT, sp, b, w0, w1, hC, hL⟩ := hRel
  unfold f_SB_begin f_Mo_begin
  rcases hL with ⟨l1, l2, _, _⟩ | ⟨l1, l2, N, n, stp, hW, hB, hn, hst, h12, h29⟩
  · rw [if_pos l1, if_pos l2]; exact ⟨0, c, m, rfl, rfl, hRel'⟩
  rw [if_neg (show ¬ c.1 0 5 = 0 by rw [l1]; decide), if_neg (show ¬ m.1 0 19 = 0 by rw [l2]; decide)]
  by_cases x0 : x2 < 0
  · rw [if_pos x0, if_pos x0]; exact ⟨0, c, m, rfl, rfl, hRel'⟩
  rw [if_neg x0, if_neg x0]
  by_cases x3' : ¬ x2 ≤ 1
  · rw [if_neg x3', if_neg x3']; exact ⟨0, c, m, rfl, rfl, hRel'⟩
  have x3 : x2 ≤ 1 := Classical.byContradiction x3'
  rw [if_pos x3, if_pos x3]
  obtain ⟨V0, hV0, rfl⟩ : ∃ V0, V0 ≤ 1 ∧ x2 = nI V0 := nI_rngL (n := 1) (by decide) (Int32.not_lt.mp x0) x3
  have hf : nI V0 = 0 ∨ nI V0 = 1 := by
    have hc : V0 = 0 ∨ V0 = 1 := by omega
    rcases hc with rfl | rfl
    · exact .inl rfl
    · exact .inr rfl
  have hW' := hW
  obtain ⟨p1, p2, p3, p4, p5, p6, p7, _, _⟩ := hW
  obtain ⟨hs, h73, h8, hb, h14, h28, hP, hR0, hR1, hs0, hs1⟩ := hC
  obtain ⟨c', m', e1, e2, e3, f1, f2, f3, f4, f5, f6, f7, f8⟩ := S_fresh (sd := x1) (.inl ⟨rfl, rfl⟩) p1 hf p5 p6 p7 hR0 hs0 (by omega)
  have eC : (gP (c.2.2 0) fun p4 => if nI V0 = 1 then f_SB_begin_J37 1 x1 p4 c else f_SB_begin_J37 0 x1 p4 c) = some (1, c') := by
    rw [gP_e p1]
    unfold f_SB_begin_J37
    rcases hf with h | h
    · rw [h] at e1 ⊢; rw [if_neg (by decide), e1]; rfl
    · rw [h] at e1 ⊢; rw [if_pos rfl, e1]; rfl
  have eM : ((f_Mo_start 0 x1 (nI V0) m).bind fun q4 => some ((1 : Int32), q4)) = some (1, m') := by
    rw [show (0 : Int32) = nI 0 from rfl, e2]; rfl
  refine ⟨1, c', m', eC, eM, ?_⟩
  have q4 : mq 20 = 4 := rfl
  have c22 : ∀ q, q ≠ 4 → c'.2.2 q = c.2.2 q := fun q hq => by rw [f2]; show (uR c (mq 20) (c.2.2 0)).2.2 q = _; rw [uR_22, if_neg (by rw [q4]; exact hq)]
  have c24 : c'.2.2 (mq 20) = c.2.2 (mq 20) := by rw [f2]; show (uR c (mq 20) (c.2.2 0)).2.2 (mq 20) = _; rw [uR_22, if_pos rfl]; exact p2.symm
  have mown : ∀ k j, ¬ own 0 k j → ¬ (k = 0 ∧ (j = 28 ∨ j = 29)) → m'.1 k j = m.1 k j := fun k j h1 h2 => f3 k j h1 (by omega)
  have hWn := WP_of (c := c') (m := m') hW' (by omega) (fun k h1 h2 => f1 k (by omega)) c24 (fun k h1 h2 => funext fun j => mown k j (by unfold own; omega) (by omega)) (funext fun j => mown 36 j (by unfold own; omega) (by omega)) (mown 0 14 (by unfold own; omega) (by omega)) (mown 0 16 (by unfold own; omega) (by omega)) (mown 0 55 (by unfold own; omega) (by omega)) (by rw [f6]; exact hf)
  refine ⟨TA_of hT ?_ (f1 1 (by omega)) (f1 2 (by omega)) (funext fun j => mown 1 j (by unfold own; omega) (by omega)) (fun j hj => mown 0 j (by unfold own; omega) (by omega)) (by rw [f2]; rfl), sp, b, ?_⟩
  · rw [f1 0 (by omega)]
  · obtain ⟨w0', hR0'⟩ := BS_R1 e3
    have hR1' := R1_oth (z := 0) (B := 20) (c := c') (m := m') (.inl ⟨rfl, rfl⟩) (.inr ⟨rfl, rfl⟩) (by omega) (fun k h1 h2 => f1 k h1) (fun k j h1 h2 => mown k j h1 (by omega)) hR1
    refine ⟨w0', w1, ⟨hs, ?_, ?_, hb, ?_, f5, ?_, hR0', hR1', BS_sup e3, ?_⟩, .inr ⟨?_, ?_, N, 0, 0, ?_, ?_, by omega, by omega, f7, by rw [f6]; exact hf⟩⟩
    · exact (mown 0 73 (by unfold own; omega) (by omega)).trans h73
    · rw [f1 0 (by omega)]; exact h8
    · exact (mown 0 14 (by unfold own; omega) (by omega)).trans h14
    · unfold PT; rw [c22 0 (by omega), c22 1 (by omega)]; exact hP
    · rw [f1 _ (by omega)]; exact hs1
    · rw [f1 0 (by omega)]; exact l1
    · exact (mown 0 19 (by unfold own; omega) (by omega)).trans l2
    · rw [c22 0 (by omega)]; exact hWn
    · rw [nI_0]; exact e3
