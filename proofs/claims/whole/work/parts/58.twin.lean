/-! ===== twin ===== -/
theorem WP_chg {B B' P b N : Nat} {c0 m0 c m : St} (h : WP B P b N c0 m0) (hc : ∀ k, 10 ≤ k → k < 20 → c.1 k = c0.1 k) (h2 : c.2.2 (mq B') = P) (hm : ∀ k, 0 < k → k < 13 → m.1 k = m0.1 k) (h36 : m.1 36 = m0.1 36) (h14 : m.1 0 14 = m0.1 0 14) (h16 : m.1 0 16 = m0.1 0 16) (h55 : m.1 0 55 = m0.1 0 55) (h29 : m.1 0 29 = 0 ∨ m.1 0 29 = 1) : WP B' P b N c m := by
  obtain ⟨p1, p2, p3, p4, p5, p6, p7, ⟨I, i1, i2, i3, i4⟩, p9⟩ := h
  have hl : 10 ≤ P ∧ P < 16 := by rcases p1 with rfl | rfl <;> omega
  refine ⟨p1, h2, p3, h14.trans p4, p5, by rw [hc P (by omega) (by omega)]; exact p6, h16.trans p7, ⟨I, i1, by rw [hc P (by omega) (by omega)]; exact i2, h55.trans i3, fun j hj => by rw [hc _ (by omega) (by omega), h36]; exact i4 j hj⟩, fun i hi => ?_⟩
  obtain ⟨o, q1, q2, q3, q4, q5, q6, q7, q8, q9, q10, q11, q12, q13⟩ := p9 i hi
  refine ⟨o, q1, h2, q3, h14.trans q4, q5, q6, by rw [hc P (by omega) (by omega)]; exact q7, h16.trans q8, by rw [hc _ (by omega) (by omega)]; exact q9, by rw [hm 3 (by omega) (by omega)]; exact q10, q11, h29, fun j hj => ?_⟩
  have := q13 j hj
  unfold kO kE kR kN kL at this ⊢
  rw [hc (P + 2) (by omega) (by omega), hc (P + 3) (by omega) (by omega), hm 4 (by omega) (by omega), hm 5 (by omega) (by omega)]
  exact this
theorem sim_twin : Sim_twin Rel := by
  intro c m h x1
  have h' := h
  obtain ⟨hT, sp, b, w0, w1, ⟨hs, h73, h8, hb, h14, h28, hP, hR0, hR1, hs0, hs1⟩, hL⟩ := h
  unfold f_SB_twin f_Mo_twin
  rcases hL with ⟨l1, l2, _, _⟩ | ⟨l1, l2, N, n, stp, hW, hB, hn, hst, h12, h29⟩
  · rw [if_pos l1, if_pos l2]; exact ⟨-1, c, m, rfl, rfl, h'⟩
  rw [if_neg (show ¬ c.1 0 5 = 0 by rw [l1]; decide), if_neg (show ¬ m.1 0 19 = 0 by rw [l2]; decide)]
  have hW' := hW
  obtain ⟨p1, p2, p3, p4, p5, p6, p7, _, _⟩ := hW
  have hf := BS_fr hB
  have e8 : c.1 20 8 = m.1 0 29 := hf.2.2.2.2.2.2.2.symm
  have m22 : m.1 22 0 = nI stp := hf.2.2.2.2.2.2.1
  obtain ⟨c1, m1, e1, e2, e3, f1, f2, f3, f4, f5, f6, f7, f8⟩ := S_fresh (z := 1) (B := 58) (sd := x1) (f := m.1 0 29) (.inr ⟨rfl, rfl⟩) p1 h29 p5 p6 p7 hR1 hs1 (fun _ => rfl)
  have q5 : mq 58 = 5 := rfl
  have c22 : ∀ q, q ≠ 5 → c1.2.2 q = c.2.2 q := fun q hq => by rw [f2]; show (uR c (mq 58) (c.2.2 0)).2.2 q = _; rw [uR_22, if_neg (by rw [q5]; exact hq)]
  have c25 : c1.2.2 (mq 58) = c.2.2 0 := by rw [f2]; show (uR c (mq 58) (c.2.2 0)).2.2 (mq 58) = _; rw [uR_22, if_pos rfl]
  have mown : ∀ k j, ¬ own 1 k j → ¬ (k = 0 ∧ j = 28) → m1.1 k j = m.1 k j := fun k j h1 h2 => f3 k j h1 (by omega)
  have hW1 : WP 58 (c.2.2 0) b N c1 m1 := WP_chg hW' (fun k h1 h2 => f1 k (by omega)) c25 (fun k h1 h2 => funext fun j => mown k j (by unfold own; omega) (by omega)) (funext fun j => mown 36 j (by unfold own; omega) (by omega)) (mown 0 14 (by unfold own; omega) (by omega)) (mown 0 16 (by unfold own; omega) (by omega)) (mown 0 55 (by unfold own; omega) (by omega)) (by rw [f6]; exact h29)
  obtain ⟨V, hV⟩ : ∃ V, V = min (200000 - sp) stp := ⟨_, rfl⟩
  obtain ⟨v, c2, m2, hv, g1, g2, g3⟩ := S_advance hW1 (V := V) (n := 0) (by omega) (by omega) e3
  obtain ⟨k1, k2, k3, k4, k5, k6, k7, k8⟩ := BS_fr g3
  have a8 : c1.1 0 8 = nI (200000 - sp) := by rw [f1 0 (by omega)]; exact h8
  have a12 : c1.1 20 12 = nI stp := by rw [f1 20 (by omega)]; exact h12
  have b73 : m1.1 0 73 = nI sp := (mown 0 73 (by unfold own; omega) (by omega)).trans h73
  have b73' : m2.1 0 73 = nI sp := (k3 0 73 (by unfold own; omega)).trans b73
  rw [gP_e p1, e8, e1, Option.bind_some, a8, a12, lt_eq, min_eq hs (by omega) hV, g1, Option.bind_some, lt_eq]
  dsimp only
  rw [nI_sub (show v ≤ 200000 - sp by omega)]
  have gd0 : ∀ {β : Type} (q : Option β), gd 0 2 q = q := fun q => gd_nI (n := 0) (by omega) (by omega)
  have gd1 : ∀ {β : Type} (q : Option β), gd 1 2 q = q := fun q => gd_nI (n := 1) (by omega) (by omega)
  rw [gd0, show (0 : Int32).toNatClampNeg = 0 by decide, m22, lt_eq, show (1 : Int32) = nI 1 from rfl, e2, Option.bind_some, spend_eq hs (by omega) b73 rfl hV]
  unfold f_Mo_spend_J25
  rw [g2, Option.bind_some, lt_eq]
  dsimp only
  rw [b73', nI_add, lt_eq, Option.bind_some, lt_eq]
  dsimp only
  rw [lt_eq]
  obtain ⟨w, hRw⟩ := BS_R1 g3
  have r13 : c2.1 58 13 = m2.1 23 1 := by
    have := hRw 0 13 (23, 1) rfl
    rw [show 58 + 0 = 58 from rfl, uI_o (by omega)] at this; exact this
  obtain ⟨c3, hc3⟩ : ∃ c3, c3 = uI (uI c2 58 12 (c1.1 58 12 + nI v)) 0 8 (nI (200000 - sp - v)) := ⟨_, rfl⟩
  obtain ⟨m3, hm3⟩ : ∃ m3, m3 = uI (uI m2 0 73 (nI (sp + v))) 0 28 0 := ⟨_, rfl⟩
  rw [← hc3, ← hm3]
  have ck : ∀ k, k ≠ 0 → k < 58 → c3.1 k = c.1 k := fun k h1 h2 => by rw [hc3, uI_n h1, uI_n (by omega), k1 k (by omega), f1 k (by omega)]
  have c0 : ∀ j, j ≠ 8 → c3.1 0 j = c.1 0 j := fun j hj => by rw [hc3, uI_o (by omega), uI_n (by omega), k1 0 (by omega), f1 0 (by omega)]
  have mo : ∀ k j, ¬ own 1 k j → ¬ (k = 0 ∧ (j = 28 ∨ j = 73)) → m3.1 k j = m.1 k j := fun k j h1 h2 => by rw [hm3, uI_o (by omega), uI_o (by omega), k3 k j h1]; exact mown k j h1 (by omega)
  have hrl : ∀ k j, rlv 0 k j → ¬ (k = 0 ∧ j = 69) → m3.1 k j = m.1 k j := by
    intro k j hr hn
    unfold rlv at hr
    rcases hr with hr | hr
    · exact mo k j hr.2.2 (by omega)
    · exact mo k j (by unfold own; omega) (by omega)
  have kk2 : ∀ q, q ≠ 5 → c3.2.2 q = c.2.2 q := fun q hq => by rw [hc3, uI_2, uI_2, k2]; exact c22 q hq
  have m328 : m3.1 0 28 = 0 := by rw [hm3, uI_v]
  have hR1' : R1 1 58 (uI c3 58 10 w) m3 := by
    intro d j q hq
    obtain ⟨k, l⟩ := q
    have hk := phi1_k hq
    have hh := hRw d j _ hq
    have e1 : m3.1 k l = m2.1 k l := by rw [hm3, uI_n (by omega), uI_n (by omega)]
    show _ = m3.1 k l
    rw [e1, ← hh, uI_g2, uI_g2, hc3, uI_n (show 58 + d ≠ 0 by omega)]
    by_cases e : 58 + d = 58 ∧ j = 12
    · have hd0 : d = 0 := by omega
      rw [hd0, e.2] at hq
      exact absurd hq (by simp [phi])
    · rw [uI_o e]
  refine ⟨c2.1 58 13, c3, m3, ?_, ?_, ?_⟩
  · rw [show c3.1 58 13 = c2.1 58 13 by rw [hc3, uI_n (by omega), uI_o (by omega)]]
  · rw [show (nI 1 : Int32) = 1 from rfl, gd1, show (1 : Int32).toNatClampNeg = 1 by decide, r13, show m3.1 23 1 = m2.1 23 1 by rw [hm3, uI_n (by omega), uI_n (by omega)]]
  · have hWn := WP_of (c := c3) (m := m3) hW' (by omega) (fun k h1 h2 => ck k (by omega) (by omega)) (kk2 4 (by omega)) (fun k h1 h2 => funext fun j => mo k j (by unfold own; omega) (by omega)) (funext fun j => mo 36 j (by unfold own; omega) (by omega)) (mo 0 14 (by unfold own; omega) (by omega)) (mo 0 16 (by unfold own; omega) (by omega)) (mo 0 55 (by unfold own; omega) (by omega)) (by rw [mo 0 29 (by unfold own; omega) (by omega)]; exact h29)
    refine ⟨TA_of hT (c0 1 (by omega)) (ck 1 (by omega) (by omega)) (ck 2 (by omega) (by omega)) (funext fun j => mo 1 j (by unfold own; omega) (by omega)) (fun j hj => mo 0 j (by unfold own; omega) (by omega)) (by rw [hc3, uI_2, uI_2, k2, f2]; rfl), sp + v, b, w0, w, ⟨by omega, ?_, ?_, hb, (mo 0 14 (by unfold own; omega) (by omega)).trans h14, m328, ?_, R1_blind (by omega) hR0 (fun k h1 h2 => ck k (by omega) (by omega)) hrl, hR1', ?_, ?_⟩, .inr ⟨(c0 5 (by omega)).trans l1, (mo 0 19 (by unfold own; omega) (by omega)).trans l2, N, n, stp, ?_, ?_, by omega, by omega, ?_, by rw [mo 0 29 (by unfold own; omega) (by omega)]; exact h29⟩⟩
    · rw [hm3, uI_o (by omega), uI_v]
    · rw [hc3, uI_v]; congr 1; omega
    · unfold PT; rw [kk2 0 (by omega), kk2 1 (by omega)]; exact hP
    · rw [ck _ (by omega) (by omega)]; exact hs0
    · have := BS_sup g3
      rw [hc3, uI_n (by omega), uI_n (by omega)]; exact this
    · rw [kk2 0 (by omega)]; exact hWn
    · exact BS_rebase3 hB (fun k j h1 h2 _ => by rw [ck k (by omega) (by omega)]) hrl (by rw [m328]; rfl)
    · rw [ck 20 (by omega) (by omega)]; exact h12
