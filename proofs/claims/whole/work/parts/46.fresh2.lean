/-! ===== a fresh start, both sides ===== -/
theorem ma_restart' {K L B p N : Nat} {sd f : Int32} {c : St} (hK : K = 4096) (hL : L = 256) (hB : 20 ≤ B) (hp : isP p) (hf : f = 0 ∨ f = 1) (hN : N ≤ 200) (h3 : c.1 p 3 = nI N) : f_Ma_restart B p sd f c = some (a7C K L B p N sd f c) := by
  subst hK hL; exact ma_restart hB hp hf hN h3
theorem mo_start' {K z N : Nat} {sd f : Int32} {m : St} (hK : K = 4096) (hz : z < 2) (hN : N ≤ 200) (h16 : m.1 0 16 = nI N) : f_Mo_start (nI z) sd f m = some (b7M K z sd f (if N = 0 then 1 else 0) m) := by
  subst hK; exact mo_start hz hN h16
theorem R1_fresh {K L z B p N : Nat} {sd f w : Int32} {c m : St} (hK : K = 4096) (hz : z < 2) (hR : R1 z B (uI c B 10 w) m) : R1 z B (uI (a7C K L B p N sd f c) B 10 0) (b7M K z sd f (if N = 0 then 1 else 0) m) := by
  obtain ⟨B8, B9, B11, B12, B13, B14, B16, B18⟩ := a7_B (K := K) (L := L) (B := B) (p := p) (N := N) (sd := sd) (f := f) (c := c)
  obtain ⟨v24, v20, v21, v22, v23, v26, v27, v34, v35⟩ := b4_v (z := z) (sd := sd) (f := f) (st := if N = 0 then 1 else 0) (m := m)
  generalize hst : (if N = 0 then (1 : Int32) else 0) = st at *
  obtain ⟨s5, s4, s4'⟩ := a7_5 (K := K) (L := L) (B := B) (p := p) (N := N) (sd := sd) (f := f) (c := c)
  obtain ⟨H5, _, _, _, _⟩ := a7_heap (K := K) (L := L) (B := B) (p := p) (N := N) (sd := sd) (f := f) (c := c)
  obtain ⟨G4, G5, G6, Go⟩ := a7_led (K := K) (L := L) (B := B) (p := p) (N := N) (sd := sd) (f := f) (c := c)
  obtain ⟨Rr, R70, R71, R72⟩ := a7_reg (K := K) (L := L) (B := B) (p := p) (N := N) (sd := sd) (f := f) (c := c)
  have sq := rg_eq (z := z) (B := B) (c := a4C K L B p sd f c) (m := b4M z sd f st m) (s4.trans v24.symm) 7 (by omega)
  have old : ∀ d j q, d ≠ 0 → phi z d j = some q → c.1 (B + d) j = m.1 q.1 q.2 := by
    intro d j q hd hq
    have := hR d j q hq
    rw [uI_n (by omega)] at this; exact this
  -- what the reference leaves
  have fr : ∀ q j, q ≠ 0 → ¬ (13 ≤ q ∧ q < 25) → ¬ ((q = 26 ∨ q = 27 ∨ q = 34 ∨ q = 35) ∧ j = z) → (b7M K z sd f st m).1 q j = m.1 q j := by
    intro q j h1 h2 h3
    rw [b7_o (by omega), b6_o (by omega) (by omega), b4_o (by omega), bM_n h1]
  have f4 : ∀ q, q < 16 ∨ 19 < q → ¬ (13 ≤ q ∧ q < 16) → q ≠ 24 → (b7M K z sd f st m).1 q z = (b4M z sd f st m).1 q z := by
    intro q h1 h2 h3
    rw [b7_o (by omega), b6_o (by omega) (by omega)]
  intro d j q h
  by_cases d0 : d = 0
  · subst d0
    rw [Nat.add_zero]
    unfold phi at h
    rw [if_pos rfl] at h
    by_cases j10 : j = 10
    · subst j10; rw [if_pos rfl] at h; cases h; rw [uI_v, f4 20 (by omega) (by omega) (by omega), v20]
    rw [if_neg j10] at h
    rw [uI_o (by omega)]
    by_cases j11 : j = 11
    · subst j11; rw [if_pos rfl] at h; cases h; rw [B11, f4 21 (by omega) (by omega) (by omega), v21]
    rw [if_neg j11] at h
    by_cases j13 : j = 13
    · subst j13; rw [if_pos rfl] at h; cases h; rw [B13, f4 23 (by omega) (by omega) (by omega), v23]
    rw [if_neg j13] at h
    by_cases j14 : j = 14
    · subst j14; rw [if_pos rfl] at h; cases h; rw [B14, f4 27 (by omega) (by omega) (by omega), v27]
    rw [if_neg j14] at h
    by_cases j16 : j = 16
    · subst j16; rw [if_pos rfl] at h; cases h; rw [B16, f4 26 (by omega) (by omega) (by omega), v26]
    rw [if_neg j16] at h
    by_cases j18 : j = 18 ∧ z = 0
    · rw [if_pos j18] at h; cases h
      obtain ⟨rfl, rfl⟩ := j18
      rw [B18, b7_o (by omega), b6_o (by omega) (by omega), b4_o (by omega), bM_0.2.2.2.2.1]
    · rw [if_neg j18] at h; cases h
  rw [uI_n (by omega)]
  have hold := fun hq => old d j q d0 hq
  unfold phi at h hold
  rw [if_neg d0] at h hold
  by_cases d1 : d = 1
  · subst d1
    rw [if_pos rfl] at h
    by_cases j4 : j = 4
    · subst j4; rw [if_pos rfl] at h; cases h
      rw [s4', b7_o (by omega)]
      unfold b6M
      rw [uI_n (by omega), uI_n (by omega), uI_n (by omega)]
      exact sq.1
    · rw [if_neg j4] at h; cases h
  rw [if_neg d1] at h hold
  by_cases d6 : d < 6
  · rw [if_pos d6] at h
    by_cases hj : j < 4096
    · rw [if_pos hj] at h; cases h
      obtain ⟨x2, x3, x4, x5⟩ := a7_mem (K := K) (L := L) (B := B) (p := p) (N := N) (sd := sd) (f := f) (c := c) (y := j) (by omega)
      obtain ⟨y2, y3, y4, y5⟩ := clM_at (z := z) (m := b6M z sd f st m) (y := j) K (by omega)
      have hc : d = 2 ∨ d = 3 ∨ d = 4 ∨ d = 5 := by omega
      unfold b7M
      rcases hc with rfl | rfl | rfl | rfl
      · exact x2.trans y2.symm
      · exact x3.trans y3.symm
      · exact x4.trans y4.symm
      · exact x5.trans y5.symm
    · rw [if_neg hj] at h; cases h
  rw [if_neg d6] at h hold
  by_cases d6' : d = 6
  · subst d6'
    rw [if_pos rfl] at h
    by_cases j5 : j = 5
    · subst j5; rw [if_pos rfl] at h; cases h; rw [H5, f4 34 (by omega) (by omega) (by omega), v34]
    · rw [if_neg j5] at h; cases h
  rw [if_neg d6'] at h hold
  by_cases d12 : d < 12
  · rw [if_pos d12] at h hold
    by_cases hj : j < 101
    · rw [if_pos hj] at h hold; cases h
      rw [a7_o (by omega), hold rfl, fr _ _ (by omega) (by omega) (by omega)]
    · rw [if_neg hj] at h; cases h
  rw [if_neg d12] at h hold
  by_cases d17 : d = 17
  · subst d17
    rw [if_pos rfl] at h hold
    by_cases z0 : z = 0
    · subst z0
      rw [if_pos rfl] at h hold
      by_cases j4 : j = 4
      · subst j4; rw [if_pos rfl] at h; cases h; rw [G4, b7_o (by omega), b6_o (by omega) (by omega), b4_o (by omega), bM_0.2.1]
      rw [if_neg j4] at h hold
      by_cases j5 : j = 5
      · subst j5; rw [if_pos rfl] at h; cases h; rw [G5, b7_o (by omega), b6_o (by omega) (by omega), b4_o (by omega), bM_0.2.2.1]
      rw [if_neg j5] at h hold
      by_cases j6 : j = 6
      · subst j6; rw [if_pos rfl] at h; cases h; rw [G6, b7_o (by omega), b6_o (by omega) (by omega), b4_o (by omega), bM_0.2.2.2.1]
      rw [if_neg j6] at h hold
      by_cases j10 : j = 10
      · subst j10; rw [if_pos rfl] at h hold; cases h; rw [Go 10 (by omega) (by omega) (by omega), b7_o (by omega), b6_o (by omega) (by omega), b4_o (by omega), bM_o (by omega) (.inr (by omega))]; exact hold rfl
      · rw [if_neg j10] at h; cases h
    · rw [if_neg z0] at h; cases h
  rw [if_neg d17] at h hold
  by_cases d22 : 18 ≤ d ∧ d < 22
  · rw [if_pos d22] at h hold
    by_cases hj : z = 0 ∧ j < 60
    · rw [if_pos hj] at h hold; cases h
      rw [a7_o (by omega), hold rfl, fr _ _ (by omega) (by omega) (by omega)]
    · rw [if_neg hj] at h; cases h
  rw [if_neg d22] at h hold
  by_cases d25 : 22 ≤ d ∧ d < 25
  · rw [if_pos d25] at h hold
    by_cases hj : z = 0 ∧ j < 20
    · rw [if_pos hj] at h hold; cases h
      rw [a7_o (by omega), hold rfl, fr _ _ (by omega) (by omega) (by omega)]
    · rw [if_neg hj] at h; cases h
  rw [if_neg d25] at h hold
  by_cases d34 : 26 ≤ d ∧ d < 34
  · rw [if_pos d34] at h
    by_cases hj : j < 3
    · rw [if_pos hj] at h; cases h
      rw [b7_o (by omega)]
      obtain ⟨r, hr⟩ : ∃ r, d = 26 + r := ⟨d - 26, by omega⟩
      subst hr
      rw [show 26 + r - 26 = r by omega, ← Nat.add_assoc]
      have hjc : j = 0 ∨ j = 1 ∨ j = 2 := by omega
      by_cases r7 : r = 7
      · subst r7
        unfold b6M
        rcases hjc with rfl | rfl | rfl
        · refine R70.trans ?_; rw [uI_n (by omega), uI_n (by omega), uI_v]
        · refine R71.trans ?_; rw [uI_n (by omega), uI_v]
        · refine R72.trans ?_; rw [uI_v]
      · rw [Rr r (by omega)]
        obtain ⟨q1, q2, q3, q4, q5⟩ := sq.2 r (by omega)
        unfold b6M
        rw [uI_o (by omega), uI_o (by omega), uI_o (by omega)]
        rcases hjc with rfl | rfl | rfl
        · exact q1
        · exact q2.trans q3.symm
        · exact q4.trans q5.symm
    · rw [if_neg hj] at h; cases h
  rw [if_neg d34] at h hold
  by_cases d36 : d = 36
  · rw [if_pos d36] at h hold
    by_cases hj : j < 32
    · rw [if_pos hj] at h hold; cases h
      rw [a7_o (by omega), hold rfl, fr _ _ (by omega) (by omega) (by omega)]
    · rw [if_neg hj] at h; cases h
  rw [if_neg d36] at h hold
  by_cases d37 : d = 37
  · rw [if_pos d37] at h hold
    by_cases hj : z = 0 ∧ j < 100
    · rw [if_pos hj] at h hold; cases h
      rw [a7_o (by omega), hold rfl, fr _ _ (by omega) (by omega) (by omega)]
    · rw [if_neg hj] at h; cases h
  rw [if_neg d37] at h; cases h
theorem S_fresh {z B p N : Nat} {sd f w : Int32} {c m : St} (hzb : ZB z B) (hp : isP p) (hf : f = 0 ∨ f = 1) (hN : N ≤ 200) (h3 : c.1 p 3 = nI N) (h16 : m.1 0 16 = nI N) (hR : R1 z B (uI c B 10 w) m) (hsup : ∃ s, s ≤ 20 ∧ c.1 (B + 17) 10 = nI s) (hf29 : z = 1 → m.1 0 29 = f) :
    ∃ c' m', f_Ma_restart B p sd f c = some c' ∧ f_Mo_start (nI z) sd f m = some m' ∧ BS z B 0 N 0 c' m' c' m' ∧ (∀ q, q < B ∨ B + 38 ≤ q → c'.1 q = c.1 q) ∧ c'.2 = (uR c (mq B) p).2 ∧ (∀ k i, ¬ own z k i → ¬ (k = 0 ∧ (i = 28 ∨ (i = 29 ∧ z = 0))) → m'.1 k i = m.1 k i) ∧ m'.2 = m.2
      ∧ m'.1 0 28 = nI z ∧ m'.1 0 29 = f ∧ c'.1 B 12 = 0 ∧ m'.1 22 z = 0 := by
  obtain ⟨K, hK⟩ : ∃ K, K = 4096 := ⟨_, rfl⟩
  obtain ⟨L, hL⟩ : ∃ L, L = 256 := ⟨_, rfl⟩
  have hz : z < 2 := by unfold ZB at hzb; omega
  have hB : 20 ≤ B := by unfold ZB at hzb; omega
  have e1 := ma_restart' (sd := sd) hK hL hB hp hf hN h3
  have e2 := mo_start' (sd := sd) (f := f) hK hz hN h16
  have r1 := R1_fresh (L := L) (p := p) (N := N) (sd := sd) (f := f) hK hz hR
  obtain ⟨B8, B9, B11, B12, B13, B14, B16, B18⟩ := a7_B (K := K) (L := L) (B := B) (p := p) (N := N) (sd := sd) (f := f) (c := c)
  obtain ⟨s5, _, _⟩ := a7_5 (K := K) (L := L) (B := B) (p := p) (N := N) (sd := sd) (f := f) (c := c)
  obtain ⟨H5, H8, H9, H10, H12⟩ := a7_heap (K := K) (L := L) (B := B) (p := p) (N := N) (sd := sd) (f := f) (c := c)
  obtain ⟨G4, G5, G6, Go⟩ := a7_led (K := K) (L := L) (B := B) (p := p) (N := N) (sd := sd) (f := f) (c := c)
  obtain ⟨Rr, R70, R71, R72⟩ := a7_reg (K := K) (L := L) (B := B) (p := p) (N := N) (sd := sd) (f := f) (c := c)
  have hmem := fun y (hy : y < 4096) => a7_mem (K := K) (L := L) (B := B) (p := p) (N := N) (sd := sd) (f := f) (c := c) (y := y) (by omega)
  have hr1 : ∀ r, r < 7 → (a7C K L B p N sd f c).1 (B + 26 + r) 1 = -1 := by
    intro r hr
    rw [Rr r hr]
    exact ((rg_eq (z := 0) (B := B) (c := a4C K L B p sd f c) (m := uI c 24 0 ((a4C K L B p sd f c).1 (B + 1) 4)) uI_v.symm 7 (by omega)).2 r hr).2.1
  have hout : ∀ q, q < B ∨ B + 38 ≤ q → (a7C K L B p N sd f c).1 q = c.1 q := fun q hq => a7_o (by omega)
  have h72 := a7_2 (K := K) (L := L) (B := B) (p := p) (N := N) (sd := sd) (f := f) (c := c)
  obtain ⟨st, hst⟩ : ∃ st, st = if N = 0 then (1 : Int32) else 0 := ⟨_, rfl⟩
  rw [← hst] at e2 r1 B11
  obtain ⟨v24, v20, v21, v22, v23, v26, v27, v34, v35⟩ := b4_v (z := z) (sd := sd) (f := f) (st := st) (m := m)
  have m28 : (b7M K z sd f st m).1 0 28 = nI z := by rw [b7_o (by omega), b6_o (by omega) (by omega), b4_o (by omega)]; exact bM_28
  have m29 : (b7M K z sd f st m).1 0 29 = f := by
    rw [b7_o (by omega), b6_o (by omega) (by omega), b4_o (by omega)]
    by_cases h : z = 0
    · subst h; exact bM_0.1
    · rw [bM_o (by omega) (.inl h)]; exact hf29 (by omega)
  have m64 : z = 0 → (b7M K z sd f st m).1 0 64 = 1 := by
    intro h; subst h
    rw [b7_o (by omega), b6_o (by omega) (by omega), b4_o (by omega)]; exact bM_0.2.2.2.2.2
  have m22 : (b7M K z sd f st m).1 22 z = 0 := by rw [b7_o (by omega), b6_o (by omega) (by omega)]; exact v22
  have m35 : (b7M K z sd f st m).1 35 z = 0 := by rw [b7_o (by omega), b6_o (by omega) (by omega)]; exact v35
  have mfr : ∀ k i, ¬ own z k i → ¬ (k = 0 ∧ (i = 28 ∨ (i = 29 ∧ z = 0))) → (b7M K z sd f st m).1 k i = m.1 k i := by
    intro k i ho hn
    unfold own at ho
    rw [b7_o (by omega), b6_o (by omega) (by omega), b4_o (by omega)]
    by_cases k0 : k = 0
    · subst k0; exact bM_o (by omega) (by omega)
    · rw [bM_n k0]
  have h2m := b7_2 (K := K) (z := z) (sd := sd) (f := f) (st := st) (m := m)
  generalize a7C K L B p N sd f c = c' at *
  generalize b7M K z sd f st m = m' at *
  refine ⟨c', m', e1, e2, ?_, hout, h72, mfr, h2m, m28, m29, B12, m22⟩
  have st01 : c'.1 B 11 = 0 ∨ 0 < c'.1 B 11 := by
    rw [B11, hst]
    by_cases h : N = 0
    · rw [if_pos h]; exact .inr (by decide)
    · rw [if_neg h]; exact .inl rfl
  have hRB : RB z B c' m' (uI c' B 10 0) (uI m' 0 69 0) := by
    have hRB0 : RB z B c' m' (uI c' B 10 0) m' := ⟨r1, ⟨fun k hk => uI_n (by omega), rfl⟩, ⟨fun _ _ _ => rfl, rfl⟩, hzb, m28⟩
    exact RB_m hRB0 phi_69 (by unfold own; omega)
  have cn : ∀ q, q ≠ B → (uI c' B 10 0).1 q = c'.1 q := fun q hq => uI_n hq
  refine ⟨0, by omega, fun h => ?_, ?_⟩
  · apply Classical.byContradiction; intro hn
    rw [B11, hst, if_pos (by omega)] at h; exact absurd h (by decide)
  · show SI z B 0 0 N 0 c' m' (uI c' B 10 0) (uI m' 0 69 0)
    obtain ⟨su, hsu1, hsu2⟩ := hsup
    refine ⟨hRB, ⟨0, 0, 0, su, ?_, by omega, ?_, ?_, by omega, ?_, hsu1, fun hz0 => ?_⟩, ?_, ?_, ?_, ?_, ?_⟩
    · rw [cn _ (by omega)]; exact G4
    · rw [cn _ (by omega)]; exact G5
    · rw [cn _ (by omega)]; exact G6
    · rw [cn _ (by omega), Go 10 (by omega) (by omega) (by omega)]; exact hsu2
    · rw [uI_o (by omega), m64 hz0]; rfl
    · intro y hy
      obtain ⟨x2, x3, x4, x5⟩ := hmem y hy
      rw [cn _ (by omega), cn _ (by omega), cn _ (by omega), x2, x4]
      exact ⟨by decide, fun _ => rfl⟩
    · refine ⟨?_, 4096, by omega, by omega, ?_, fun _ a h1 h2 => ?_⟩
      · rw [cn _ (by omega)]; exact R71
      · rw [cn _ (by omega)]; exact R70
      · rw [cn _ (by omega), (hmem a h2).2.2.2]
        unfold gO
        rw [if_neg (by omega)]
        exact ⟨fun h => absurd rfl h, fun h => by omega⟩
    · intro r hr h1
      rw [cn _ (by omega)] at h1 ⊢
      by_cases r7 : r = 7
      · subst r7; exact R72
      · rw [hr1 r (by omega)] at h1; exact absurd h1 (by decide)
    · refine ⟨0, 0, 0, fun _ => 0, fun _ => 0, fun _ => 0, fun _ => 0, fun _ => 0, ?_⟩
      unfold HX
      refine ⟨?_, by omega, fun j h1 h2 => by omega, fun u hu => ⟨?_, Nat.le_refl 0, fun h => absurd rfl h⟩, fun j h1 h2 => by omega, ?_, ?_, by omega, rfl, ?_, ?_, fun j h1 h2 => by omega, fun j h1 h2 => by omega⟩
      · rw [cn _ (by omega)]; exact H5
      · rw [cn _ (by omega), H12 u (by omega)]; rfl
      · rw [cn _ (by omega)]; exact H8
      · rw [cn _ (by omega)]; exact H9
      · rw [uI_n (by omega)]; exact m35
      · rw [cn _ (by omega)]; exact H10
    · unfold IX
      have q : ∀ j, j ≠ 10 → (uI c' B 10 0).1 B j = c'.1 B j := fun j hj => uI_o (by omega)
      rw [q 9 (by omega), q 8 (by omega), q 12 (by omega), q 11 (by omega), q 16 (by omega), q 14 (by omega), q 18 (by omega), uI_v, uI_n (show B + 36 ≠ B by omega), uI_v, uI_n (show (22 : Nat) ≠ 0 by omega)]
      exact ⟨B9, rfl, B8.trans m29.symm, rfl, m22, st01, ⟨0, by omega, rfl⟩, ⟨0, by omega, B16, fun j hj => by omega⟩, ⟨0, by omega, B14⟩, ⟨0, by omega, B18⟩⟩
