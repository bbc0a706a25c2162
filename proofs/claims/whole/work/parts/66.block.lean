/-! ===== block ===== -/
set_option maxHeartbeats 4000000 in
theorem phi_lost {z d j k i : Nat} (h : phi z d j = some (k, i)) : d ≠ 14 ∧ d ≠ 15 ∧ d ≠ 16 ∧ k ≠ 48 ∧ d < 38 := by
  unfold phi at h
  grind (splits := 40)
theorem R1_lost {z B : Nat} {c m t u : St} {w : Int32} (hB : B = 20 ∨ B = 58) (h : R1 z B (uI c B 10 w) m) (hC : CE c t) (hM : ME m u) : R1 z B (uI t B 10 w) u := by
  intro d j q hq
  obtain ⟨k, i⟩ := q
  obtain ⟨h1, h2, h3, h4, h5⟩ := phi_lost hq
  have e := h d j _ hq
  show _ = u.1 k i
  rw [hM.1 k h4, ← e, uI_g2, uI_g2, hC.1 (B + d) (by omega) (by omega) (by omega)]
theorem BS_lost {n N : Nat} {t : Int32} {c m c' m' : St} (h : BS 0 20 n N t c m c m) (hC : CE c c') (hM : ME m m') : BS 0 20 n N t c' m' c' m' := by
  obtain ⟨i, hiN, hi, hS⟩ := h
  obtain ⟨h1, h2, h3, h4, h5, h6, h7⟩ := hS
  have hck : ∀ k, k ≠ 34 → k ≠ 35 → k ≠ 36 → (uI c' 20 10 (nI i)).1 k = (uI c 20 10 (nI i)).1 k := fun k a b d => by
    rw [uI_g, uI_g, hC.1 20 (by omega) (by omega) (by omega), hC.1 k a b d]
  have hmk : ∀ k, k ≠ 48 → (uI m' 0 69 (nI i)).1 k = (uI m 0 69 (nI i)).1 k := fun k a => by
    rw [uI_g, uI_g, hM.1 0 (by omega), hM.1 k a]
  have m28 : m'.1 0 28 = nI 0 := by
    have := RB_z h1
    rw [uI_o (by omega)] at this
    rw [hM.1 0 (by omega)]; exact this
  refine ⟨i, hiN, fun h => hi (by rw [hC.1 20 (by omega) (by omega) (by omega)] at h; exact h), ?_⟩
  refine ⟨⟨?_, ⟨fun k hk => uI_n (by omega), rfl⟩, ⟨fun k j ho => uI_o (fun e => ho (by rw [e.1, e.2]; unfold own; omega)), rfl⟩, .inl ⟨rfl, rfl⟩, m28⟩, LG_of h2 (Nat.le_refl _) (hck _ (by omega) (by omega) (by omega)) (by rw [hmk 0 (by omega)]), IM_of h3 (hck _ (by omega) (by omega) (by omega)) (hck _ (by omega) (by omega) (by omega)) (hck _ (by omega) (by omega) (by omega)), IS_of h4 (by rw [hck _ (by omega) (by omega) (by omega)]) (hck _ (by omega) (by omega) (by omega)) (hck _ (by omega) (by omega) (by omega)), IR_of h5 (fun k _ _ => hck k (by omega) (by omega) (by omega)), HI_of h6 (fun k _ _ => hck k (by omega) (by omega) (by omega)) (hmk _ (by omega)) (hmk _ (by omega)), ?_⟩
  · intro d j q hq
    obtain ⟨k, l⟩ := q
    obtain ⟨a1, a2, a3, a4, a5⟩ := phi_lost hq
    have e := h1.1 d j _ hq
    show (uI c' 20 10 (nI i)).1 (20 + d) j = (uI m' 0 69 (nI i)).1 k l
    rw [hck (20 + d) (by omega) (by omega) (by omega), hmk k a4]; exact e
  · obtain ⟨a1, a2, a3, a4, a5, a6, a7, a8, a9, a10⟩ := h7
    unfold IX
    rw [hck 20 (by omega) (by omega) (by omega), hck (20 + 36) (by omega) (by omega) (by omega), hmk 0 (by omega), hmk 22 (by omega), hM.1 0 (by omega), hC.1 20 (by omega) (by omega) (by omega)]
    exact ⟨a1, a2, a3, a4, a5, a6, a7, a8, a9, a10⟩
theorem Rel_lost {c m t u : St} (h : Rel c m) (hC : CE c t) (hM : ME m u) : Rel t u := by
  obtain ⟨hT, sp, b, w0, w1, ⟨hs, h73, h8, hb, h14, h28, hP, hR0, hR1, hs0, hs1⟩, hL⟩ := h
  have ck : ∀ k, k ≠ 34 → k ≠ 35 → k ≠ 36 → t.1 k = c.1 k := hC.1
  have m0 : u.1 0 = m.1 0 := hM.1 0 (by omega)
  have mk : ∀ k, k ≠ 48 → u.1 k = m.1 k := hM.1
  refine ⟨TA_of hT (by rw [ck 0 (by omega) (by omega) (by omega)]) (ck 1 (by omega) (by omega) (by omega)) (ck 2 (by omega) (by omega) (by omega)) (mk 1 (by omega)) (fun j _ => by rw [m0]) (by rw [hC.2.2]), sp, b, w0, w1, ⟨hs, by rw [m0]; exact h73, by rw [ck 0 (by omega) (by omega) (by omega)]; exact h8, hb, by rw [m0]; exact h14, by rw [m0]; exact h28, by unfold PT; rw [hC.2.2]; exact hP, R1_lost (.inl rfl) hR0 hC hM, R1_lost (.inr rfl) hR1 hC hM, by rw [ck _ (by omega) (by omega) (by omega)]; exact hs0, by rw [ck _ (by omega) (by omega) (by omega)]; exact hs1⟩, ?_⟩
  rcases hL with ⟨l1, l2, l3, l4⟩ | ⟨l1, l2, N, n, stp, hW, hB, hn, hst, h12, h29⟩
  · exact .inl ⟨by rw [ck 0 (by omega) (by omega) (by omega)]; exact l1, by rw [m0]; exact l2, by rw [m0]; exact l3, by rw [m0]; exact l4⟩
  · refine .inr ⟨by rw [ck 0 (by omega) (by omega) (by omega)]; exact l1, by rw [m0]; exact l2, N, n, stp, ?_, BS_lost hB hC hM, hn, hst, by rw [ck 20 (by omega) (by omega) (by omega)]; exact h12, by rw [m0]; exact h29⟩
    rw [hC.2.2]
    exact WP_of hW (by omega) (fun k h1 h2 => ck k (by omega) (by omega) (by omega)) (by rw [hC.2.2]) (fun k h1 h2 => mk k (by omega)) (mk 36 (by omega)) (by rw [m0]) (by rw [m0]) (by rw [m0]) (by rw [m0]; exact h29)
theorem Rel_LK {c m : St} (h : Rel c m) (h5 : c.1 0 5 = 1) : ∃ k F S C, LK k F S C c m := by
  rcases Rel_ld h with ⟨l1, _⟩ | ⟨l1, l2, N, n, t, hn, hB, _⟩
  · rw [h5] at l1; exact absurd l1 (by decide)
  obtain ⟨i, _, _, hS⟩ := hB
  have hH : HI 0 20 c m := HI_of hS.2.2.2.2.2.1 (fun k h1 h2 => (uI_n (by omega)).symm) (uI_n (by omega)).symm (uI_n (by omega)).symm
  obtain ⟨k, qs, qe, F, S, C, W, Q, hH⟩ := hH
  have hk := hH.2.1
  have q : ∀ {d j k i}, phi 0 d j = some (k, i) → ¬ (d = 0 ∧ j = 10) → c.1 (20 + d) j = m.1 k i := fun hq hn => Rel_R1 h hq hn
  refine ⟨k, F, S, C, hk, hH.1, (q (show phi 0 6 5 = some (34, 0) from rfl) (by omega)).symm.trans hH.1, fun j j1 jk => ?_, he_leads hH, fun a ha => ?_, fun r hr => ?_⟩
  · obtain ⟨e1, e2, e3, e4, e5, e6⟩ := hH.2.2.1 j j1 jk
    have b : ∀ d, 7 ≤ d → d < 12 → c.1 (20 + d) j = m.1 (21 + d) j := fun d d1 d2 => by
      have := q (phi_blk (z := 0) d1 d2 (show j < 101 by omega)) (by omega)
      rw [Nat.mul_zero, Nat.zero_add] at this; exact this
    exact ⟨e1, e2, e3, (b 7 (by omega) (by omega)).symm.trans e1, (b 8 (by omega) (by omega)).symm.trans e2, (b 9 (by omega) (by omega)).symm.trans e3, e4, e5, e6⟩
  · have b : ∀ d, 2 ≤ d → d < 6 → c.1 (20 + d) a = m.1 (14 + d) a := fun d d1 d2 => by
      have := q (phi_mem (z := 0) d1 d2 ha) (by omega)
      rw [Nat.mul_zero, Nat.zero_add] at this; exact this
    exact ⟨b 2 (by omega) (by omega), b 3 (by omega) (by omega), b 5 (by omega) (by omega)⟩
  · have b : ∀ j, j < 3 → c.1 (20 + 26 + r) j = m.1 (13 + j) r := fun j hj => by
      have := q (phi_reg (z := 0) (r := r) (j := j) hr hj) (by omega)
      rw [Nat.mul_zero, Nat.zero_add] at this; rw [Nat.add_assoc]; exact this
    exact ⟨b 0 (by omega), b 1 (by omega)⟩
theorem sim_block : Sim_block Rel := by
  intro c m h x1 x2
  unfold f_SB_block f_Mo_block
  rcases Rel_ld h with ⟨l1, l2, _, _⟩ | ⟨l1, l2, _⟩
  · rw [if_pos l1, if_pos l2]; exact ⟨-1, c, m, rfl, rfl, h⟩
  obtain ⟨k, F, S, C, hK⟩ := Rel_LK h l1
  have hk := hK.1
  have k34 : m.1 34 (0 : Int32).toNatClampNeg = nI k := by rw [cl0]; exact hK.2.2.1
  rw [if_neg (show ¬ c.1 0 5 = 0 by rw [l1]; decide), if_neg (show ¬ m.1 0 19 = 0 by rw [l2]; decide), gd02, k34]
  unfold f_Ma_tellBlock f_He_isInUse f_He_tell
  rw [hK.2.1]
  by_cases g1 : x1 < 1
  · rw [if_pos g1, if_pos g1, if_pos g1]
    refine ⟨-1, c, m, ?_, rfl, h⟩
    by_cases g5 : x2 = 5
    · rw [if_pos g5]; rfl
    · rw [if_neg g5]; rfl
  rw [if_neg g1, if_neg g1, if_neg g1]
  by_cases g2 : x1 ≤ nI k
  · rw [if_pos g2, if_pos g2, if_neg (Int32.not_lt.mpr g2)]
    obtain ⟨n, hn, rfl⟩ : ∃ n, n ≤ k ∧ x1 = nI n := nI_rngL (by omega) (Int32.le_trans (by decide) (Int32.not_lt.mp g1)) g2
    have n1 : 1 ≤ n := (nI_leI (a := 1) (by decide) (by omega)).mp (Int32.not_lt.mp g1)
    have b : ∀ d, 7 ≤ d → d < 12 → c.1 (20 + d) n = m.1 (21 + d) n := fun d d1 d2 => by
      have := Rel_R1 h (phi_blk (z := 0) d1 d2 (show n < 101 by omega)) (by omega)
      rw [Nat.mul_zero, Nat.zero_add] at this; exact this
    simp only [gd_nI (show n < 101 by omega) (show 101 < 2 ^ 31 by omega), gd_nI (show n < 202 by omega) (show 202 < 2 ^ 31 by omega), nI_clamp (show n < 2 ^ 31 by omega)]
    obtain ⟨_, _, e9, _, _, _, _, _, c2'⟩ := hK.2.2.2.1 n n1 hn
    by_cases g5 : x2 = 5
    · subst g5
      rw [if_pos rfl, if_neg (show ¬ (5 : Int32) = 0 by decide), if_neg (show ¬ (5 : Int32) = 1 by decide), if_neg (show ¬ (5 : Int32) = 2 by decide), if_neg (show ¬ (5 : Int32) = 3 by decide), if_neg (show ¬ (5 : Int32) = 4 by decide), if_pos (show (5 : Int32) = 5 from rfl)]
      obtain ⟨u, u1, u2, u3⟩ := mo_lost hK
      rw [u1, Option.bind_some, e9]
      by_cases hc : C n = 2
      · obtain ⟨t, t1, t2, t3⟩ := le_verdict hK (b := n) (by omega)
        rw [hc, if_pos (show nI 2 = 2 from rfl), Option.bind_some, if_neg (by decide), t1, Option.bind_some, Option.bind_some]
        exact ⟨_, t, u, rfl, by rw [VR_eq (t3 n ⟨n1, hn, hc⟩) ((u3 n n1 hn).2 hc)], Rel_lost h t2 u2⟩
      · rw [if_neg (show ¬ nI (C n) = 2 from ne_l (k := 2) (by omega) (by omega) hc), Option.bind_some, if_pos rfl, Option.bind_some]
        exact ⟨-1, c, u, rfl, by rw [(u3 n n1 hn).1 hc], Rel_lost h CE_rf u2⟩
    · rw [if_neg g5, b 7 (by omega) (by omega), b 8 (by omega) (by omega), b 9 (by omega) (by omega), b 10 (by omega) (by omega), b 11 (by omega) (by omega)]
      by_cases y0 : x2 = 0
      · rw [if_pos y0, if_pos y0]; exact ⟨_, c, m, rfl, rfl, h⟩
      rw [if_neg y0, if_neg y0]
      by_cases y1 : x2 = 1
      · rw [if_pos y1, if_pos y1]; exact ⟨_, c, m, rfl, rfl, h⟩
      rw [if_neg y1, if_neg y1]
      by_cases y2 : x2 = 2
      · rw [if_pos y2, if_pos y2]; exact ⟨_, c, m, rfl, rfl, h⟩
      rw [if_neg y2, if_neg y2]
      by_cases y3 : x2 = 3
      · rw [if_pos y3, if_pos y3]; exact ⟨_, c, m, rfl, rfl, h⟩
      rw [if_neg y3, if_neg y3]
      by_cases y4 : x2 = 4
      · rw [if_pos y4, if_pos y4]; exact ⟨_, c, m, rfl, rfl, h⟩
      rw [if_neg y4, if_neg y4, if_neg g5]; exact ⟨_, c, m, rfl, rfl, h⟩
  · rw [if_neg g2, if_neg g2, if_pos (Int32.not_le.mp g2)]
    refine ⟨-1, c, m, ?_, rfl, h⟩
    by_cases g5 : x2 = 5
    · rw [if_pos g5]; rfl
    · rw [if_neg g5]; rfl
