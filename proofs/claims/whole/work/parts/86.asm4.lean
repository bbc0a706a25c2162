/-! ===== assemble ===== -/
theorem one_sub {b : Nat} (hb : b < 2) : (1 : Int32) - nI b = nI (1 - b) := by
  rw [show (1 : Int32) = nI 1 from rfl, nI_sub (by omega)]
theorem sim_assemble : Sim_assemble Rel := by
  intro c m h
  have h' := h
  obtain ⟨⟨⟨TL, t1, t2, t3, t4⟩, t5, t6, t7, t8⟩, sp, b, w0, w1, ⟨hs, h73, h8, hb, h14, h28, hP, hR0, hR1, hs0, hs1⟩, hL⟩ := h
  obtain ⟨P, hPe⟩ : ∃ P, c.2.2 1 = P := ⟨_, rfl⟩
  have hPP : (c.2.2 0 = 10 ∧ P = 15) ∨ (c.2.2 0 = 15 ∧ P = 10) := by
    have : (c.2.2 0 = 10 ∧ c.2.2 1 = 15) ∨ (c.2.2 0 = 15 ∧ c.2.2 1 = 10) := hP
    rw [hPe] at this; exact this
  have hPi : isP P := by rcases hPP with ⟨_, e⟩ | ⟨_, e⟩ <;> rw [e] <;> decide
  obtain ⟨sg, s1, s2, s3⟩ : ∃ sg : Nat → Nat, (∀ i, i < TL → c.1 1 i = nI (sg i)) ∧ (∀ i, TL ≤ i → sg i = 10) ∧ (∀ i, sg i < 256) := by
    refine ⟨fun i => if i < TL then (c.1 1 i).toNatClampNeg else 10, fun i hi => ?_, fun i hi => if_neg (by omega), fun i => ?_⟩
    · obtain ⟨k, k1, k2⟩ := and255_nat (m.1 1 i)
      have e := (t4 i hi).1.trans k2
      show c.1 1 i = nI (if i < TL then (c.1 1 i).toNatClampNeg else 10)
      rw [if_pos hi, e, nI_clamp (by omega)]
    · show (if i < TL then (c.1 1 i).toNatClampNeg else 10) < 256
      by_cases hi : i < TL
      · obtain ⟨k, k1, k2⟩ := and255_nat (m.1 1 i)
        rw [if_pos hi, (t4 i hi).1.trans k2, nI_clamp (by omega)]; exact k1
      · rw [if_neg hi]; omega
  have mt : ∀ i, i < TL → (m.1 1 i = 10 ↔ sg i = 10) := fun i hi => by
    have hx := s3 i
    rw [byte10 (t4 i hi).2, ← (t4 i hi).1, s1 i hi]
    exact nI_eq (b := 10) (by omega) (by decide)
  -- the class, up to the text's first look
  obtain ⟨c2, hc2⟩ : ∃ c2, c2 = uI (uI (uR (uI (uI (uI (uI (uI (uI c 0 1 0) 2 10 0) 2 11 (-1)) 2 12 (-1)) 2 4 0) 2 8 0) 2 P) P 3 0) P 5 0 := ⟨_, rfl⟩
  have k2 : ∀ k, k ≠ 0 → k ≠ 2 → k ≠ P → c2.1 k = c.1 k := fun k x0 x2 xP => by
    rw [hc2, uI_n xP, uI_n xP, uR_1, uI_n x2, uI_n x2, uI_n x2, uI_n x2, uI_n x2, uI_n x0]
  have k20 : ∀ j, j ≠ 1 → c2.1 0 j = c.1 0 j := fun j hj => by
    rw [hc2, uI_n (by omega), uI_n (by omega), uR_1, uI_n (by omega), uI_n (by omega), uI_n (by omega), uI_n (by omega), uI_n (by omega), uI_o (by omega)]
  have k201 : c2.1 0 1 = 0 := by
    rw [hc2, uI_n (by omega), uI_n (by omega), uR_1, uI_n (by omega), uI_n (by omega), uI_n (by omega), uI_n (by omega), uI_n (by omega), uI_v]
  have kP3 : c2.1 P 3 = 0 := by rw [hc2, uI_o (by omega), uI_v]
  have kP5 : c2.1 P 5 = 0 := by rw [hc2, uI_v]
  have k28 : c2.1 2 8 = 0 := by rw [hc2, uI_n (by omega), uI_n (by omega), uR_1, uI_v]
  have k24 : c2.1 2 4 = 0 := by rw [hc2, uI_n (by omega), uI_n (by omega), uR_1, uI_o (by omega), uI_v]
  have k212 : c2.1 2 12 = -1 := by rw [hc2, uI_n (by omega), uI_n (by omega), uR_1, uI_o (by omega), uI_o (by omega), uI_v]
  have k211 : c2.1 2 11 = -1 := by rw [hc2, uI_n (by omega), uI_n (by omega), uR_1, uI_o (by omega), uI_o (by omega), uI_o (by omega), uI_v]
  have k210 : c2.1 2 10 = 0 := by rw [hc2, uI_n (by omega), uI_n (by omega), uR_1, uI_o (by omega), uI_o (by omega), uI_o (by omega), uI_o (by omega), uI_v]
  have kJ : c2.2.1 = c.2.1 := by rw [hc2]; rfl
  have kR : ∀ q, c2.2.2 q = if q = 2 then P else c.2.2 q := fun q => by
    rw [hc2]
    show (uR (uI (uI (uI (uI (uI (uI c 0 1 0) 2 10 0) 2 11 (-1)) 2 12 (-1)) 2 4 0) 2 8 0) 2 P).2.2 q = _
    rw [uR_22]; rfl
  have nm2 : NM c2 := fun k hk => by rw [kJ]; exact t8 k hk
  have eC : f_SB_assemble c = ((f_As_isTooLong (nI TL) c2).bind fun q11 => if q11.1 = 0 then ((wh (fun a : (Int32 × St) => f_As_translate_L51 (nI TL) a.1 a.2) (0, q11.2)).bind (Sum.elim (fun b25 => (f_As_resolveLabels (b25.2)).bind fun q26 => some ((bN (q26.1)), q26.2)) some)) else some (0, q11.2)).bind fun q5 => if q5.1 = 0 then some ((-1), q5.2) else gP (q5.2.2.2 0) fun p8 => gP (q5.2.2.2 1) fun p10 => lt (uR (q5.2) 0 p10) fun s12 => lt (uR s12 1 p8) fun s13 => lt (uI s13 0 5 1) fun s14 => (f_Lg_dropSuppressions 20 s14).bind fun q15 => gP (q15.2.2 0) fun p17 => (f_Ma_restart 20 p17 0 0 q15).bind fun q19 => gP (q19.2.2 0) fun p21 => some ((q19.1 p21 3), q19) := by
    unfold f_SB_assemble f_As_translate f_Pr_clear
    rw [t2, lt_eq, lt_eq, gP_e (show isP ((uI c 0 1 0).2.2 1) by show isP (c.2.2 1); rw [hPe]; exact hPi), show (uI c 0 1 0).2.2 1 = P from hPe]
    rw [lt_eq, lt_eq, lt_eq, lt_eq, lt_eq, lt_eq]
    rw [show (uR (uI (uI (uI (uI (uI (uI c 0 1 0) 2 10 0) 2 11 (-1)) 2 12 (-1)) 2 4 0) 2 8 0) 2 P).2.2 2 = P by rw [uR_22, if_pos rfl]]
    rw [gP_e hPi, lt_eq, lt_eq, Option.bind_some, ← hc2]
  -- the reference
  obtain ⟨s3m, hs3⟩ : ∃ s3m, s3m = uI (uI (uI m 0 20 0) 0 21 (-1)) 0 22 (-1) := ⟨_, rfl⟩
  have z0 : ∀ j, j ≠ 20 → j ≠ 21 → j ≠ 22 → s3m.1 0 j = m.1 0 j := fun j x y z => by rw [hs3, uI_o (by omega), uI_o (by omega), uI_o (by omega)]
  have zk : ∀ k, k ≠ 0 → s3m.1 k = m.1 k := fun k hk => by rw [hs3, uI_n hk, uI_n hk, uI_n hk]
  have z20 : s3m.1 0 20 = 0 := by rw [hs3, uI_o (by omega), uI_o (by omega), uI_v]
  have z21 : s3m.1 0 21 = -1 := by rw [hs3, uI_o (by omega), uI_v]
  have z22 : s3m.1 0 22 = -1 := by rw [hs3, uI_v]
  have z1 : s3m.1 0 1 = nI TL := (z0 1 (by omega) (by omega) (by omega)).trans t3
  have zmt : ∀ i, i < TL → (s3m.1 1 i = 10 ↔ sg i = 10) := fun i hi => by rw [zk 1 (by omega)]; exact mt i hi
  have zt : ∀ i, i < TL → c2.1 1 i = nI (sg i) := fun i hi => by rw [k2 1 (by omega) (by omega) (by omega)]; exact s1 i hi
  obtain ⟨K, _, K1, K2, K3⟩ := run_len (Q := fun i => i < TL ∧ nlc sg i ≤ 199 ∧ i ≠ 3000) (e := TL) (fun h => absurd h.1 (by omega)) TL 0 (by omega)
  have hg : ∀ i, i < K → nlc sg i ≤ 199 ∧ i ≠ 3000 := fun i hi => (K2 i (by omega) hi).2
  obtain ⟨a1, a2⟩ := as_long t1 zt s3 K1 hg
  obtain ⟨b1, b2⟩ := mo_long t1 z1 zmt K1 hg
  have bad : ∀ c' m', AFc P c2 c' → FLT c' m' → (∀ k, 13 ≤ k → m'.1 k = m.1 k) → m'.1 0 1 = 0 → (∀ i, i < 200 * (1 - b) ∨ 200 * (1 - b) + 200 ≤ i → m'.1 3 i = m.1 3 i) → (∀ i, i < 600 * (1 - b) ∨ 600 * (1 - b) + 600 ≤ i → m'.1 4 i = m.1 4 i ∧ m'.1 5 i = m.1 5 i) → (∀ j, j = 14 ∨ j = 16 ∨ j = 19 ∨ j = 28 ∨ j = 29 ∨ j = 55 ∨ j = 56 ∨ (61 ≤ j ∧ j ≤ 64) ∨ j = 68 ∨ j = 73 → m'.1 0 j = m.1 0 j) → Rel c' m' := by
    intro c' m' hA hF q1 q2 q3 q4 q5
    have cc0 : c'.1 0 = c2.1 0 := hA.1 0 (by omega) (by omega) (by omega) (by omega) (by omega) (by omega) (by omega) (by omega) (by omega)
    refine Rel_fail h' h14 hb ⟨⟨0, by omega, by rw [cc0]; exact k201, q2, fun i hi => absurd hi (by omega)⟩, hF.1, hF.2.1, hF.2.2, fun k hk => by rw [hA.2.1]; exact nm2 k hk⟩ (fun k x y0 y1 y2 y3 => ?_) ?_ ?_ (fun q hq => ?_) q1 q3 q4 q5
    · rw [hPe] at y0 y1 y2 y3
      rw [hA.1 k (by omega) (by omega) (by omega) (by omega) (by omega) y0 y1 y2 y3]
      exact k2 k (by omega) (by omega) y0
    · rw [cc0]; exact k20 5 (by omega)
    · rw [cc0]; exact k20 8 (by omega)
    · rw [hA.2.2 q (by omega), kR, if_neg (by omega)]
  by_cases hK : K < TL
  · have hKb : 200 ≤ nlc sg K ∨ K = 3000 := by
      by_cases hn : 200 ≤ nlc sg K
      · exact .inl hn
      · by_cases h3 : K = 3000
        · exact .inr h3
        · exact absurd ⟨hK, by omega, h3⟩ K3
    have hKle := nlc_le (sg := sg) K
    rw [a2 hK hKb, Option.bind_some, if_neg (show ¬ (1 : Int32) = 0 by decide), Option.bind_some, if_pos rfl] at eC
    obtain ⟨mf, hmf⟩ : ∃ mf, mf = uI (uI (uI (uI (uI (uI s3m 0 23 1) 0 23 (nI (1 + nlc sg K))) 0 20 5) 0 21 (nI K)) 0 22 (nI (1 + nlc sg K))) 0 1 0 := ⟨_, rfl⟩
    have eM : f_Mo_assemble m = some (-1, mf) := by
      unfold f_Mo_assemble f_Mo_fails
      rw [lt_eq, lt_eq, lt_eq, ← hs3, b2 hK hKb, Option.bind_some, if_neg (nI_pos (by omega)), lt_eq, mo_lineOf (TL := TL) (sg := sg) (m := uI s3m 0 23 1) (fun i hi => by rw [uI_n (by omega)]; exact zmt i hi) t1 K1 uI_v, Option.bind_some]
      dsimp only
      rw [uI_o (show ¬ ((0 : Nat) = 0 ∧ 20 = 23) by omega), uI_o (show ¬ ((0 : Nat) = 0 ∧ 20 = 23) by omega), if_pos z20, lt_eq, lt_eq, lt_eq, Option.bind_some, lt_eq, uI_o (show ¬ ((0 : Nat) = 0 ∧ 23 = 21) by omega), uI_o (show ¬ ((0 : Nat) = 0 ∧ 23 = 20) by omega), uI_v, hmf]
    have mfk : ∀ k, k ≠ 0 → mf.1 k = m.1 k := fun k hk => by rw [hmf, uI_n hk, uI_n hk, uI_n hk, uI_n hk, uI_n hk, uI_n hk, zk k hk]
    refine ⟨-1, _, mf, eC, eM, bad _ mf ⟨fun k x2 _ _ _ _ _ _ _ _ => by rw [uI_n x2, uI_n x2, uI_n x2], rfl, fun _ _ => rfl⟩ ⟨?_, ?_, ?_⟩ (fun k hk => mfk k (by omega)) (by rw [hmf, uI_v]) (fun i _ => by rw [mfk 3 (by omega)]) (fun i _ => by rw [mfk 4 (by omega), mfk 5 (by omega)]; exact ⟨rfl, rfl⟩) (fun j hj => ?_)⟩
    · rw [uI_o (by omega), uI_o (by omega), uI_v, hmf, uI_o (by omega), uI_o (by omega), uI_o (by omega), uI_v]
    · rw [uI_o (by omega), uI_v, hmf, uI_o (by omega), uI_o (by omega), uI_v]
    · rw [uI_v, hmf, uI_o (by omega), uI_v]
    · rw [hmf, uI_o (by omega), uI_o (by omega), uI_o (by omega), uI_o (by omega), uI_o (by omega), uI_o (by omega)]; exact z0 j (by omega) (by omega) (by omega)
  · have hKT : K = TL := by omega
    have hnl : ∀ i, i < TL → nlc sg i ≤ 199 := fun i hi => (hg i (by omega)).1
    have hTL3 : TL ≤ 3000 := Classical.byContradiction fun hh => (hg 3000 (by omega)).2 rfl
    rw [a1 hKT, Option.bind_some, if_pos rfl] at eC
    obtain ⟨m8, hm8⟩ : ∃ m8, m8 = uI (uI s3m 0 3 (nI TL)) 0 1 0 := ⟨_, rfl⟩
    have m803 : m8.1 0 3 = nI TL := by rw [hm8, uI_o (by omega), uI_v]
    obtain ⟨m11, x1, x2, x3, x4⟩ := mo_copy (m := m8) hTL3 m803
    have m8k : ∀ k, k ≠ 0 → m8.1 k = m.1 k := fun k hk => by rw [hm8, uI_n hk, uI_n hk, zk k hk]
    have m80 : ∀ j, j ≠ 1 → j ≠ 3 → m8.1 0 j = s3m.1 0 j := fun j x y => by rw [hm8, uI_o (by omega), uI_o (by omega)]
    obtain ⟨m2, hm2⟩ : ∃ m2, m2 = uI (uI (uI (uI (uI (uI m11 0 14 (nI (1 - b))) 0 15 0) 0 17 0) 0 18 0) 0 26 0) 0 23 1 := ⟨_, rfl⟩
    have m110 : m11.1 0 = m8.1 0 := x2 0 (by omega)
    have m2k : ∀ k, k ≠ 0 → m2.1 k = m11.1 k := fun k hk => by rw [hm2, uI_n hk, uI_n hk, uI_n hk, uI_n hk, uI_n hk, uI_n hk]
    have m20 : ∀ j, j ≠ 14 → j ≠ 15 → j ≠ 17 → j ≠ 18 → j ≠ 26 → j ≠ 23 → m2.1 0 j = m8.1 0 j := fun j y1 y2 y3 y4 y5 y6 => by
      rw [hm2, uI_o (by omega), uI_o (by omega), uI_o (by omega), uI_o (by omega), uI_o (by omega), uI_o (by omega), m110]
    have m214 : m2.1 0 14 = nI (1 - b) := by rw [hm2, uI_o (by omega), uI_o (by omega), uI_o (by omega), uI_o (by omega), uI_o (by omega), uI_v]
    have mall : ∀ j, j ≠ 1 → j ≠ 3 → j ≠ 14 → j ≠ 15 → j ≠ 17 → j ≠ 18 → ¬ (20 ≤ j ∧ j ≤ 27) → m2.1 0 j = m.1 0 j := fun j y1 y3 y14 y15 y17 y18 y20 => by
      rw [m20 j y14 y15 y17 y18 (by omega) (by omega), m80 j y1 y3]; exact z0 j (by omega) (by omega) (by omega)
    have mkk : ∀ k, k ≠ 0 → k ≠ 2 → m2.1 k = m.1 k := fun k x y => by rw [m2k k x, x2 k y, m8k k x]
    have hTX : TXM TL sg m2 := by
      refine ⟨hTL3, by rw [m20 3 (by omega) (by omega) (by omega) (by omega) (by omega) (by omega)]; exact m803, fun i hi => ?_, s2, s3⟩
      rw [m2k 2 (by omega), x4 i hi, b8_255, m8k 1 (by omega), ← (t4 i hi).1]; exact s1 i hi
    have hF2 : FLT c2 m2 := by
      unfold FLT
      rw [k210, k211, k212, m20 20 (by omega) (by omega) (by omega) (by omega) (by omega) (by omega), m20 21 (by omega) (by omega) (by omega) (by omega) (by omega) (by omega), m20 22 (by omega) (by omega) (by omega) (by omega) (by omega) (by omega), m80 20 (by omega) (by omega), m80 21 (by omega) (by omega), m80 22 (by omega) (by omega), z20, z21, z22]
      exact ⟨rfl, rfl, rfl⟩
    have hLH : LH TL sg P (1 - b) 0 0 0 0 c2 m2 := by
      refine LH_0 hPi (by omega) (by rw [kR, if_pos rfl]) m214 ⟨hTL3, zt⟩ hTX nm2 kP3 kP5 ?_ ?_ ?_ ?_ hF2 (by rw [hm2, uI_v]) ?_ k24 k28
      · rw [hm2, uI_o (by omega), uI_o (by omega), uI_o (by omega), uI_o (by omega), uI_v]
      · rw [hm2, uI_o (by omega), uI_o (by omega), uI_o (by omega), uI_v]
      · rw [hm2, uI_o (by omega), uI_o (by omega), uI_v]
      · rw [m20 20 (by omega) (by omega) (by omega) (by omega) (by omega) (by omega), m80 20 (by omega) (by omega)]; exact z20
      · rw [hm2, uI_o (by omega), uI_v]
    have eM : f_Mo_assemble m = (wh (fun a : St => f_Mo_assemble_L157 a) m2).bind (fun b25 => (wh (fun a : (Int32 × St) => f_Mo_assemble_L215 a.1 a.2) (0, b25)).bind (fun b35 => if (b35.2.1 0 20) ≤ 0 then (lt (uI (b35.2) 0 16 (b35.2.1 0 15)) fun s37 => lt (uI s37 0 19 1) fun s38 => lt (uI s38 0 55 0) fun s39 => lt (uI s39 0 68 0) fun s40 => (f_Mo_start 0 0 0 s40).bind fun q41 => some ((q41.1 0 16), q41)) else lt (uI (b35.2) 0 14 (1 - (b35.2.1 0 14))) fun s43 => some ((-1), s43))) := by
      unfold f_Mo_assemble
      rw [lt_eq, lt_eq, lt_eq, ← hs3, b1 hKT, Option.bind_some, if_pos (show (-1 : Int32) < 0 by decide), z1, lt_eq, lt_eq, ← hm8, x1, Option.bind_some]
      dsimp only
      rw [m110, m80 14 (by omega) (by omega), z0 14 (by omega) (by omega) (by omega), h14, one_sub hb, lt_eq, lt_eq, lt_eq, lt_eq, lt_eq, lt_eq, ← hm2]
    -- frames of a later state
    have mfin : ∀ m', AFw (1 - b) m2 m' → (∀ k, 13 ≤ k → m'.1 k = m.1 k) ∧ m'.1 0 1 = 0 ∧ m'.1 0 14 = nI (1 - b) ∧ (∀ i, i < 200 * (1 - b) ∨ 200 * (1 - b) + 200 ≤ i → m'.1 3 i = m.1 3 i) ∧ (∀ i, i < 600 * (1 - b) ∨ 600 * (1 - b) + 600 ≤ i → m'.1 4 i = m.1 4 i ∧ m'.1 5 i = m.1 5 i) ∧ (∀ j, j = 16 ∨ j = 19 ∨ j = 28 ∨ j = 29 ∨ j = 55 ∨ j = 56 ∨ (61 ≤ j ∧ j ≤ 64) ∨ j = 68 ∨ j = 73 → m'.1 0 j = m.1 0 j) := by
      intro m' hA
      obtain ⟨y1, y2, y3, y4, y5, y6, y7⟩ := hA
      refine ⟨fun k hk => (y1 k hk).trans (mkk k (by omega) (by omega)), ?_, ?_, fun i hi => (y4 i hi).trans (by rw [mkk 3 (by omega) (by omega)]), fun i hi => ⟨(y5 i hi).1.trans (by rw [mkk 4 (by omega) (by omega)]), (y5 i hi).2.trans (by rw [mkk 5 (by omega) (by omega)])⟩, fun j hj => (y6 j (by omega) (by omega) (by omega) (by omega)).trans (mall j (by omega) (by omega) (by omega) (by omega) (by omega) (by omega) (by omega))⟩
      · rw [y6 1 (by omega) (by omega) (by omega) (by omega), m20 1 (by omega) (by omega) (by omega) (by omega) (by omega) (by omega), hm8, uI_v]
      · exact (y6 14 (by omega) (by omega) (by omega) (by omega)).trans m214
    have lose : ∀ c' m', AFc P c2 c' → AFw (1 - b) m2 m' → FLT c' m' → 0 < m'.1 0 20 → f_SB_assemble c = some (-1, c') → f_Mo_assemble m = (if m'.1 0 20 ≤ 0 then (lt (uI m' 0 16 (m'.1 0 15)) fun s37 => lt (uI s37 0 19 1) fun s38 => lt (uI s38 0 55 0) fun s39 => lt (uI s39 0 68 0) fun s40 => (f_Mo_start 0 0 0 s40).bind fun q41 => some ((q41.1 0 16), q41)) else lt (uI m' 0 14 (1 - (m'.1 0 14))) fun s43 => some ((-1), s43)) → ∃ r c' m', f_SB_assemble c = some (r, c') ∧ f_Mo_assemble m = some (r, m') ∧ Rel c' m' := by
      intro c' m' hA hW hF hp e1 e2
      obtain ⟨y1, y2, y3, y4, y5, y6⟩ := mfin m' hW
      rw [if_neg (pos_nle hp), y3, one_sub (by omega), lt_eq, show 1 - (1 - b) = b by omega] at e2
      refine ⟨-1, c', _, e1, e2, bad c' _ hA ?_ (fun k hk => by rw [uI_n (by omega)]; exact y1 k hk) (by rw [uI_o (by omega)]; exact y2) (fun i hi => by rw [uI_n (by omega)]; exact y4 i hi) (fun i hi => by rw [uI_n (by omega), uI_n (by omega)]; exact y5 i hi) (fun j hj => ?_)⟩
      · unfold FLT at hF ⊢; rw [uI_o (by omega), uI_o (by omega), uI_o (by omega)]; exact hF
      · by_cases j14 : j = 14
        · rw [j14, uI_v]; exact h14.symm
        · rw [uI_o (by omega)]; exact y6 j (by omega)
    have hl := rd_lines (c00 := c2) (m00 := m2) hnl (TL + 1) 0 0 0 0 c2 m2 (by omega) hLH AFc_rf AFw_rf
    rw [nI_0] at hl
    rcases hl with ⟨x, c3, m3, f', d', N, nl, y1, y2, y3, y4, y5⟩ | ⟨c3, m3, y1, y2, y3, y4, y5, y6⟩
    · obtain ⟨g1, g2, g3, g4, g5, g6, g7, g8, g9⟩ := y3
      obtain ⟨nu, ui, hRS⟩ := RS_of g1 (show N ≤ 200 by omega)
      rw [y1, Option.bind_some] at eC
      rw [y2, Option.bind_some] at eM
      have hr := rs_all (c00 := c2) (m00 := m2) N 0 0 c3 m3 (by omega) hRS (by omega) (fun v hv => absurd hv (by omega)) (fun v _ _ => by omega) y4 y5
      rw [nI_0] at hr
      rcases hr with ⟨x', y', c5, m5, z1, z2, z3, z4, z5⟩ | ⟨y', c5, m5, z1, z2, z3, z4, z5, z6⟩
      · obtain ⟨v1, v2, v3, v4, v5, v6⟩ := mfin m5 z5
        have eC5 : (f_As_resolveLabels c3).bind (fun q26 => some ((bN (q26.1)), q26.2)) = some (1, c5) := by
          unfold f_As_resolveLabels
          rw [z1, Option.bind_some]
          show ((some ((1 : Int32), c5)).bind fun q26 => some ((bN (q26.1)), q26.2)) = _
          rw [Option.bind_some, bN_1]
        have cc0 : c5.1 0 = c2.1 0 := z4.1 0 (by omega) (by omega) (by omega) (by omega) (by omega) (by omega) (by omega) (by omega) (by omega)
        have r20 : m5.1 0 20 = 0 := z3.2.2.2.2.2.2.2.2.1
        obtain ⟨r, c', m', w1', w2', w3'⟩ := asm_good h' hPe h14 hb z3 (fun k hk => (z4.1 k (by omega) (by omega) (by omega) (by omega) (by omega) (by omega) (by omega) (by omega) (by omega)).trans (k2 k (by omega) (by omega) (by omega))) (fun j hj => by rw [cc0]; exact k20 j hj) (by rw [cc0]; exact k201) (by rw [z4.2.1, kJ]) (fun q q2 q3 => by rw [z4.2.2 q q3, kR, if_neg q2]) v1 (fun j hj => v6 j (by omega)) v2 v3
        refine ⟨r, c', m', ?_, ?_, w3'⟩
        · rw [eC]
          show ((f_As_resolveLabels c3).bind (fun q26 => some ((bN (q26.1)), q26.2))).bind _ = _
          rw [eC5, Option.bind_some, if_neg (show ¬ (1 : Int32) = 0 by decide)]
          exact w1'
        · rw [eM, z2, Option.bind_some]
          show (if m5.1 0 20 ≤ 0 then _ else _) = _
          rw [r20, if_pos (by decide)]
          exact w2'
      · refine lose c5 m5 z5 z6 z3 z4 ?_ ?_
        · rw [eC]
          have eC5 : (f_As_resolveLabels c3).bind (fun q26 => some ((bN (q26.1)), q26.2)) = some (0, c5) := by
            unfold f_As_resolveLabels
            rw [z1, Option.bind_some]
            show ((some ((0 : Int32), c5)).bind fun q26 => some ((bN (q26.1)), q26.2)) = _
            rw [Option.bind_some, bN_0]
          show ((f_As_resolveLabels c3).bind (fun q26 => some ((bN (q26.1)), q26.2))).bind _ = _
          rw [eC5, Option.bind_some, if_pos rfl]
        · rw [eM, z2, Option.bind_some]
    · have n20 : ¬ m3.1 0 20 = 0 := fun hh => by rw [hh] at y4; exact absurd y4 (by decide)
      have eL : wh (fun a : (Int32 × St) => f_Mo_assemble_L215 a.1 a.2) (0, m3) = some (0, m3) := by
        refine wh_inr ?_
        show f_Mo_assemble_L215 0 m3 = _
        unfold f_Mo_assemble_L215
        rw [if_neg n20, ite_self]
      refine lose c3 m3 y5 y6 y3 y4 ?_ ?_
      · rw [eC, y1, Option.bind_some]
        show (some ((0 : Int32), c3)).bind _ = _
        rw [Option.bind_some, if_pos rfl]
      · rw [eM, y2, Option.bind_some, eL, Option.bind_some]
