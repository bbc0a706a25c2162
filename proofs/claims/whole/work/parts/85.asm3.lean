/-! ===== assemble: a right text ===== -/
theorem asm_good {c m c5 m5 : St} (h : Rel c m) {b P N nl nu TL : Nat} {ui sg : Nat → Nat} (hPe : c.2.2 1 = P) (hbm : m.1 0 14 = nI b) (hb2 : b < 2)
    (hRS : RS TL sg P (1 - b) N nl nu ui N c5 m5)
    (ck : ∀ k, 20 ≤ k → c5.1 k = c.1 k) (c0' : ∀ j, j ≠ 1 → c5.1 0 j = c.1 0 j) (c01 : c5.1 0 1 = 0) (c21 : c5.2.1 4 = c.2.1 4) (c22 : ∀ q, q ≠ 2 → q ≠ 3 → c5.2.2 q = c.2.2 q)
    (mk : ∀ k, 13 ≤ k → m5.1 k = m.1 k) (m0' : ∀ j, j = 28 ∨ j = 29 ∨ j = 56 ∨ (61 ≤ j ∧ j ≤ 64) ∨ j = 68 ∨ j = 73 → m5.1 0 j = m.1 0 j) (m01 : m5.1 0 1 = 0) (m14 : m5.1 0 14 = nI (1 - b)) :
    ∃ r c' m', (gP (c5.2.2 0) fun p8 => gP (c5.2.2 1) fun p10 => lt (uR c5 0 p10) fun s12 => lt (uR s12 1 p8) fun s13 => lt (uI s13 0 5 1) fun s14 => (f_Lg_dropSuppressions 20 s14).bind fun q15 => gP (q15.2.2 0) fun p17 => (f_Ma_restart 20 p17 0 0 q15).bind fun q19 => gP (q19.2.2 0) fun p21 => some ((q19.1 p21 3), q19)) = some (r, c')
      ∧ (lt (uI m5 0 16 (m5.1 0 15)) fun s37 => lt (uI s37 0 19 1) fun s38 => lt (uI s38 0 55 0) fun s39 => lt (uI s39 0 68 0) fun s40 => (f_Mo_start 0 0 0 s40).bind fun q41 => some ((q41.1 0 16), q41)) = some (r, m') ∧ Rel c' m' := by
  obtain ⟨⟨_, _, _, _, t8⟩, sp, b', w0, w1, ⟨hs, h73, h8, hb, h14, h28, hP, hR0, hR1, hs0, hs1⟩, hL⟩ := h
  have hRS' := hRS
  obtain ⟨hT, hPi, hb', hN, r2, r3, r5, r15, r20, hF, hPI, hLL, hUU, hD⟩ := hRS
  obtain ⟨p0, hp0⟩ : ∃ p0, c.2.2 0 = p0 := ⟨_, rfl⟩
  have hPP : (p0 = 10 ∧ P = 15) ∨ (p0 = 15 ∧ P = 10) := by
    have : (c.2.2 0 = 10 ∧ c.2.2 1 = 15) ∨ (c.2.2 0 = 15 ∧ c.2.2 1 = 10) := hP
    rw [hp0, hPe] at this; exact this
  have hi0 : isP p0 := by rcases hPP with ⟨e, _⟩ | ⟨e, _⟩ <;> rw [e] <;> decide
  have q0 : c5.2.2 0 = p0 := (c22 0 (by omega) (by omega)).trans hp0
  have q1 : c5.2.2 1 = P := (c22 1 (by omega) (by omega)).trans hPe
  obtain ⟨cx, hcx⟩ : ∃ cx, cx = uI (uR (uR c5 0 P) 1 p0) 0 5 1 := ⟨_, rfl⟩
  obtain ⟨mx, hmx⟩ : ∃ mx, mx = uI (uI (uI m5 0 16 (nI N)) 0 19 1) 0 55 0 := ⟨_, rfl⟩
  have cxk : ∀ k, k ≠ 0 → cx.1 k = c5.1 k := fun k hk => by rw [hcx, uI_n hk, uR_1, uR_1]
  have cx0 : ∀ j, j ≠ 5 → cx.1 0 j = c5.1 0 j := fun j hj => by rw [hcx, uI_o (by omega), uR_1, uR_1]
  have cx21 : cx.2.1 = c5.2.1 := by rw [hcx]; rfl
  have cx22 : ∀ q, cx.2.2 q = if q = 1 then p0 else if q = 0 then P else c5.2.2 q := fun q => by
    rw [hcx]
    show (uR (uR c5 0 P) 1 p0).2.2 q = _
    rw [uR_22, uR_22]
  have mxk : ∀ k, k ≠ 0 → mx.1 k = m5.1 k := fun k hk => by rw [hmx, uI_n hk, uI_n hk, uI_n hk]
  have mx0 : ∀ j, j ≠ 16 → j ≠ 19 → j ≠ 55 → mx.1 0 j = m5.1 0 j := fun j x y z => by rw [hmx, uI_o (by omega), uI_o (by omega), uI_o (by omega)]
  have hrl : ∀ z k j, rlv z k j → ¬ (k = 0 ∧ j = 69) → mx.1 k j = m.1 k j := by
    intro z k j hr hn
    unfold rlv at hr
    by_cases k0 : k = 0
    · subst k0; rw [mx0 j (by omega) (by omega) (by omega)]; exact m0' j (by omega)
    · rw [mxk k k0, mk k (by omega)]
  have hRx : R1 0 20 (uI cx 20 10 w0) mx := R1_blind (by omega) hR0 (fun k h1 _ => (cxk k (by omega)).trans (ck k h1)) (hrl 0)
  obtain ⟨c6, hc6⟩ : ∃ c6, c6 = uI cx (20 + 17) 10 0 := ⟨_, rfl⟩
  obtain ⟨m6, hm6⟩ : ∃ m6, m6 = uI mx 0 68 0 := ⟨_, rfl⟩
  have hR6 : R1 0 20 (uI c6 20 10 w0) m6 := by
    have := R1_set (d := 17) (v := 0) hRx (show phi 0 17 10 = some (0, 68) from rfl)
    rw [hc6, hm6, uI_comm (k := 20 + 17) (by omega)]; exact this
  have c6k : ∀ k, k ≠ 0 → k ≠ 37 → c6.1 k = c5.1 k := fun k x y => by rw [hc6, uI_n y, cxk k x]
  have c60 : c6.1 0 = cx.1 0 := by rw [hc6, uI_n (by omega)]
  have m60 : ∀ j, j ≠ 68 → m6.1 0 j = mx.1 0 j := fun j hj => by rw [hm6, uI_o (by omega)]
  have m6k : ∀ k, k ≠ 0 → m6.1 k = m5.1 k := fun k hk => by rw [hm6, uI_n hk, mxk k hk]
  have c6P : c6.1 P = c5.1 P := c6k P (by omega) (by omega)
  have m616 : m6.1 0 16 = nI N := by rw [m60 16 (by omega), hmx, uI_o (by omega), uI_o (by omega), uI_v]
  obtain ⟨c7, m7, e1, e2, e3, f1, f2, f3, f4, f5, f6, f7, f8⟩ := S_fresh (z := 0) (B := 20) (p := P) (sd := 0) (f := 0) (N := N) (.inl ⟨rfl, rfl⟩) hPi (.inl rfl) hN (by rw [c6P]; exact r3) m616 hR6 ⟨0, by omega, by rw [hc6, uI_v]; rfl⟩ (fun h => absurd h (by decide))
  have c722 : ∀ q, c7.2.2 q = if q = 4 then P else cx.2.2 q := fun q => by
    rw [f2]
    show (uR c6 (mq 20) P).2.2 q = _
    rw [uR_22, hc6]; rfl
  have c721 : c7.2.1 = c5.2.1 := by
    rw [f2]
    show c6.2.1 = _
    rw [hc6]; exact cx21
  have c7P3 : c7.1 P 3 = nI N := by rw [f1 P (by omega), c6P]; exact r3
  have c70 : c7.1 0 = cx.1 0 := by rw [f1 0 (by omega), c60]
  have c7k : ∀ k, k ≠ 0 → k < 20 → c7.1 k = c5.1 k := fun k x y => by rw [f1 k (by omega), c6k k x (by omega)]
  have m70 : ∀ j, j = 1 ∨ j = 14 ∨ j = 16 ∨ j = 19 ∨ (20 ≤ j ∧ j ≤ 22) ∨ j = 55 ∨ j = 73 → m7.1 0 j = m6.1 0 j := fun j hj => f3 0 j (by unfold own; omega) (by omega)
  have m7k : ∀ k, 0 < k → k < 13 → m7.1 k = m5.1 k := fun k x y => by
    rw [← m6k k (by omega)]
    exact funext fun j => f3 k j (by unfold own; omega) (by omega)
  have m714 : m7.1 0 14 = nI (1 - b) := by rw [m70 14 (by omega), m60 14 (by omega), mx0 14 (by omega) (by omega) (by omega)]; exact m14
  have m716 : m7.1 0 16 = nI N := by rw [m70 16 (by omega)]; exact m616
  have m719 : m7.1 0 19 = 1 := by rw [m70 19 (by omega), m60 19 (by omega), hmx, uI_o (by omega), uI_v]
  have m755 : m7.1 0 55 = 0 := by rw [m70 55 (by omega), m60 55 (by omega), hmx, uI_v]
  have mm : ∀ j, j = 1 ∨ (20 ≤ j ∧ j ≤ 22) ∨ j = 73 → m7.1 0 j = m5.1 0 j := fun j hj => by rw [m70 j (by omega), m60 j (by omega), mx0 j (by omega) (by omega) (by omega)]
  have hisP0 : isP (c7.2.2 0) := by rw [c722, if_neg (by omega), cx22, if_neg (by omega), if_pos rfl]; exact hPi
  have c7q0 : c7.2.2 0 = P := by rw [c722, if_neg (by omega), cx22, if_neg (by omega), if_pos rfl]
  have c7q1 : c7.2.2 1 = p0 := by rw [c722, if_neg (by omega), cx22, if_pos rfl]
  refine ⟨nI N, c7, m7, ?_, ?_, ?_⟩
  · unfold f_Lg_dropSuppressions
    rw [gP_e (by rw [q0]; exact hi0), gP_e (by rw [q1]; exact hPi), q0, q1, lt_eq, lt_eq, lt_eq, lt_eq, Option.bind_some, ← hcx, ← hc6]
    have c6q0 : c6.2.2 0 = P := by rw [hc6]; show cx.2.2 0 = P; rw [cx22, if_neg (by omega), if_pos rfl]
    rw [gP_e (by rw [c6q0]; exact hPi), c6q0, e1, Option.bind_some, gP_e hisP0, c7q0, c7P3]
  · rw [r15, lt_eq, lt_eq, lt_eq, lt_eq, ← hmx, ← hm6]
    rw [nI_0] at e2
    rw [e2, Option.bind_some, m716]
  · have hR1' : R1 1 58 (uI c7 58 10 w1) m7 := by
      refine R1_oth (z := 0) (B := 20) (c0 := c6) (m0 := m6) (.inl ⟨rfl, rfl⟩) (.inr ⟨rfl, rfl⟩) (by omega) (fun k h1 h2 => f1 k h1) (fun k j h1 h2 => f3 k j h1 (by omega)) ?_
      intro d j q hq
      obtain ⟨k, l⟩ := q
      have hk := phi1_k hq
      have hh := hR1 d j _ hq
      show _ = m6.1 k l
      rw [m6k k (by omega), mk k (by omega), ← hh, uI_g2, uI_g2, c6k (58 + d) (by omega) (by omega), ck (58 + d) (by omega)]
    obtain ⟨w0', hR0'⟩ := BS_R1 e3
    refine ⟨⟨⟨0, by omega, ?_, ?_, fun i hi => absurd hi (by omega)⟩, ?_, ?_, ?_, ?_⟩, sp, 1 - b, w0', w1, ⟨hs, ?_, ?_, by omega, m714, f5, ?_, hR0', hR1', BS_sup e3, ?_⟩, .inr ⟨?_, m719, N, 0, 0, ?_, ?_, by omega, by omega, f7, .inl f6⟩⟩
    · rw [c70, cx0 1 (by omega)]; exact c01
    · rw [mm 1 (by omega)]; exact m01
    · rw [c7k 2 (by omega) (by omega), mm 20 (by omega)]; exact hF.1
    · rw [c7k 2 (by omega) (by omega), mm 21 (by omega)]; exact hF.2.1
    · rw [c7k 2 (by omega) (by omega), mm 22 (by omega)]; exact hF.2.2
    · intro k hk
      rw [c721, c21]; exact t8 k hk
    · rw [mm 73 (by omega), m0' 73 (by omega)]; exact h73
    · rw [c70, cx0 8 (by omega), c0' 8 (by omega)]; exact h8
    · unfold PT; rw [c7q0, c7q1]; omega
    · rw [f1 _ (by omega), c6k _ (by omega) (by omega), ck _ (by omega)]; exact hs1
    · rw [c70, hcx, uI_v]
    · rw [c7q0]
      have q4 : c7.2.2 (mq 20) = P := by rw [c722]; exact if_pos rfl
      exact ⟨hPi, q4, by omega, m714, hN, c7P3, m716, ⟨0, by omega, by rw [c7k P (by omega) (by omega)]; exact r5, m755, fun j hj => absurd hj (by omega)⟩, fun i hi => PX_done hRS' q4 (fun k x y => c7k k (by omega) y) m7k m714 m716 (.inl f6) hi⟩
    · rw [nI_0]; exact e3
