/-! ===== end, and what only touches the tape ===== -/
theorem R1_blind {z B : Nat} {c m c' m' : St} {w : Int32} (hz : z < 2) (h : R1 z B (uI c B 10 w) m) (hc : ∀ k, B ≤ k → k < B + 38 → c'.1 k = c.1 k) (hm : ∀ k j, rlv z k j → ¬ (k = 0 ∧ j = 69) → m'.1 k j = m.1 k j) : R1 z B (uI c' B 10 w) m' := by
  intro d j q hq
  obtain ⟨k, l⟩ := q
  obtain ⟨_, hd, hn⟩ := phi_own hq (z := 1 - z) (by omega) hz (by omega)
  rw [hm k l (phi_rlv hq hz) (by omega), ← h d j _ hq, uI_g2, uI_g2, hc (B + d) (by omega) (by omega)]
theorem Rel_blind {c m c' m' : St} (h : Rel c m) (hT : TA c' m') (hc : ∀ k, 10 ≤ k → c'.1 k = c.1 k) (h05 : c'.1 0 5 = c.1 0 5) (h08 : c'.1 0 8 = c.1 0 8) (h2 : ∀ q, q = 0 ∨ q = 1 ∨ q = 4 → c'.2.2 q = c.2.2 q) (hmk : ∀ k, 3 ≤ k → m'.1 k = m.1 k) (hm0 : ∀ j, j = 14 ∨ j = 16 ∨ j = 19 ∨ j = 28 ∨ j = 29 ∨ j = 55 ∨ j = 56 ∨ (61 ≤ j ∧ j ≤ 64) ∨ j = 68 ∨ j = 73 → m'.1 0 j = m.1 0 j) (hP3 : ∀ k, 0 < k → k < 3 → True) : Rel c' m' := by
  obtain ⟨_, sp, b, w0, w1, ⟨hs, h73, h8, hb, h14, h28, hP, hR0, hR1, hs0, hs1⟩, hL⟩ := h
  have hrl : ∀ z k j, rlv z k j → ¬ (k = 0 ∧ j = 69) → m'.1 k j = m.1 k j := by
    intro z k j hr hn
    unfold rlv at hr
    by_cases k0 : k = 0
    · subst k0; exact hm0 j (by omega)
    · rw [hmk k (by omega)]
  refine ⟨hT, sp, b, w0, w1, ⟨hs, ?_, by rw [h08]; exact h8, hb, ?_, ?_, ?_, R1_blind (by omega) hR0 (fun k h1 _ => hc k (by omega)) (hrl 0), R1_blind (by omega) hR1 (fun k h1 _ => hc k (by omega)) (hrl 1), by rw [hc _ (by omega)]; exact hs0, by rw [hc _ (by omega)]; exact hs1⟩, ?_⟩
  · rw [hm0 73 (by omega)]; exact h73
  · rw [hm0 14 (by omega)]; exact h14
  · rw [hm0 28 (by omega)]; exact h28
  · unfold PT; rw [h2 0 (by omega), h2 1 (by omega)]; exact hP
  rcases hL with ⟨l1, l2, l3, l4⟩ | ⟨l1, l2, N, n, stp, hW, hB, hn, hst, h12, h29⟩
  · exact .inl ⟨by rw [h05]; exact l1, by rw [hm0 19 (by omega)]; exact l2, by rw [hm0 61 (by omega)]; exact l3, by rw [hm0 56 (by omega)]; exact l4⟩
  · right
    refine ⟨by rw [h05]; exact l1, by rw [hm0 19 (by omega)]; exact l2, N, n, stp, ?_, ?_, hn, hst, by rw [hc 20 (by omega)]; exact h12, by rw [hm0 29 (by omega)]; exact h29⟩
    · rw [h2 0 (by omega)]
      obtain ⟨p1, p2, p3, p4, p5, p6, p7, ⟨I, i1, i2, i3, i4⟩, p9⟩ := hW
      have hl : 10 ≤ c.2.2 0 ∧ c.2.2 0 < 16 := by rcases p1 with e | e <;> omega
      have q4 : c'.2.2 (mq 20) = c.2.2 (mq 20) := h2 4 (by omega)
      refine ⟨p1, q4.trans p2, p3, (hm0 14 (by omega)).trans p4, p5, by rw [hc _ (by omega)]; exact p6, (hm0 16 (by omega)).trans p7, ⟨I, i1, by rw [hc _ (by omega)]; exact i2, (hm0 55 (by omega)).trans i3, fun j hj => by rw [hc _ (by omega), hmk 36 (by omega)]; exact i4 j hj⟩, fun i hi => ?_⟩
      obtain ⟨o, p1, p2, p3, p4, p5, p6, p7, p8, p9, p10, p11, p12, p13⟩ := p9 i hi
      refine ⟨o, p1, q4.trans p2, p3, (hm0 14 (by omega)).trans p4, p5, p6, by rw [hc _ (by omega)]; exact p7, (hm0 16 (by omega)).trans p8, by rw [hc _ (by omega)]; exact p9, by rw [hmk 3 (by omega)]; exact p10, p11, by rw [hm0 29 (by omega)]; exact p12, fun j hj => ?_⟩
      have := p13 j hj
      unfold kO kE kR kN kL at this ⊢
      rw [hc (c.2.2 0 + 2) (by omega), hc (c.2.2 0 + 3) (by omega), hmk 4 (by omega), hmk 5 (by omega)]
      exact this
    · exact BS_rebase3 hB (fun k j h1 h2 _ => by rw [hc k (by omega)]) (hrl 0) (by rw [hm0 28 (by omega)]; exact h28)
theorem sim_end : Sim_end Rel := by
  intro c m h x1
  have h' := h
  obtain ⟨⟨⟨tl, t1, t2, t3, t4⟩, t5, t6, t7, t8⟩, _⟩ := h
  unfold f_SB_end f_Mo_end
  rw [t2, t3]
  by_cases g0 : x1 < 0
  · rw [if_pos g0, if_pos g0]; exact ⟨-1, c, m, rfl, rfl, h'⟩
  rw [if_neg g0, if_neg g0]
  by_cases g1 : x1 ≤ nI tl
  · rw [if_pos g1, if_pos g1]
    obtain ⟨u, hu, rfl⟩ : ∃ u, u ≤ tl ∧ x1 = nI u := nI_rngL (by omega) (Int32.not_lt.mp g0) g1
    refine ⟨nI u, _, _, rfl, rfl, ?_⟩
    refine Rel_blind h' ⟨⟨u, by omega, uI_v, uI_v, fun i hi => ?_⟩, ?_, ?_, ?_, t8⟩ (fun k hk => uI_n (by omega)) (uI_o (by omega)) (uI_o (by omega)) (fun q hq => rfl) (fun k hk => uI_n (by omega)) (fun j hj => uI_o (by omega)) (fun _ _ _ => trivial)
    · rw [uI_n (by omega), uI_n (by omega)]; exact t4 i (by omega)
    · rw [uI_n (by omega), uI_o (by omega)]; exact t5
    · rw [uI_n (by omega), uI_o (by omega)]; exact t6
    · rw [uI_n (by omega), uI_o (by omega)]; exact t7
  · rw [if_neg g1, if_neg g1]; exact ⟨-1, c, m, rfl, rfl, h'⟩
