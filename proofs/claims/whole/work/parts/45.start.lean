/-! ===== the reference's start ===== -/
noncomputable def bM (z : Nat) (f : Int32) (m : St) : St := if z = 0 then uI (uI (uI (uI (uI (uI (uI m 0 28 (nI z)) 0 29 f) 0 61 0) 0 62 0) 0 63 0) 0 56 0) 0 64 1 else uI m 0 28 (nI z)
noncomputable def b4M (z : Nat) (sd f st : Int32) (m : St) : St := uI (uI (uI (uI (uI (uI (uI (uI (uI (bM z f m) 24 z sd) 20 z 0) 21 z st) 22 z 0) 23 z 7) 26 z 0) 27 z 0) 34 z 0) 35 z 0
noncomputable def b6M (z : Nat) (sd f st : Int32) (m : St) : St := uI (uI (uI (itN (rgM z) (b4M z sd f st m) 0 7) 13 (8 * z + 7) 4096) 14 (8 * z + 7) 0) 15 (8 * z + 7) 0
noncomputable def b7M (K z : Nat) (sd f st : Int32) (m : St) : St := itN (clM z) (b6M z sd f st m) 0 K
theorem bM_n {z : Nat} {f : Int32} {m : St} {q : Nat} (h : q ≠ 0) : (bM z f m).1 q = m.1 q := by
  unfold bM
  split
  · rw [uI_n h, uI_n h, uI_n h, uI_n h, uI_n h, uI_n h, uI_n h]
  · rw [uI_n h]
theorem bM_o {z : Nat} {f : Int32} {m : St} {j : Nat} (h : j ≠ 28) (h2 : z ≠ 0 ∨ (j ≠ 29 ∧ j ≠ 61 ∧ j ≠ 62 ∧ j ≠ 63 ∧ j ≠ 56 ∧ j ≠ 64)) : (bM z f m).1 0 j = m.1 0 j := by
  unfold bM
  split
  · next e =>
    obtain h2 := h2.resolve_left (fun g => g e)
    rw [uI_o (by omega), uI_o (by omega), uI_o (by omega), uI_o (by omega), uI_o (by omega), uI_o (by omega), uI_o (by omega)]
  · rw [uI_o (by omega)]
theorem bM_28 {z : Nat} {f : Int32} {m : St} : (bM z f m).1 0 28 = nI z := by
  unfold bM; split <;> simp [uI_g2]
theorem bM_0 {f : Int32} {m : St} : (bM 0 f m).1 0 29 = f ∧ (bM 0 f m).1 0 61 = 0 ∧ (bM 0 f m).1 0 62 = 0 ∧ (bM 0 f m).1 0 63 = 0 ∧ (bM 0 f m).1 0 56 = 0 ∧ (bM 0 f m).1 0 64 = 1 := by
  unfold bM; simp [uI_g2]
theorem b4_o {z : Nat} {sd f st : Int32} {m : St} {q j : Nat} (h : ¬ ((q = 24 ∨ q = 20 ∨ q = 21 ∨ q = 22 ∨ q = 23 ∨ q = 26 ∨ q = 27 ∨ q = 34 ∨ q = 35) ∧ j = z)) : (b4M z sd f st m).1 q j = (bM z f m).1 q j := by
  unfold b4M
  rw [uI_o (by omega), uI_o (by omega), uI_o (by omega), uI_o (by omega), uI_o (by omega), uI_o (by omega), uI_o (by omega), uI_o (by omega), uI_o (by omega)]
theorem b4_v {z : Nat} {sd f st : Int32} {m : St} : (b4M z sd f st m).1 24 z = sd ∧ (b4M z sd f st m).1 20 z = 0 ∧ (b4M z sd f st m).1 21 z = st ∧ (b4M z sd f st m).1 22 z = 0 ∧ (b4M z sd f st m).1 23 z = 7 ∧ (b4M z sd f st m).1 26 z = 0 ∧ (b4M z sd f st m).1 27 z = 0 ∧ (b4M z sd f st m).1 34 z = 0 ∧ (b4M z sd f st m).1 35 z = 0 := by
  unfold b4M; simp [uI_g2]
theorem b6_o {z : Nat} {sd f st : Int32} {m : St} {q j : Nat} (h : ¬ (q = 24 ∧ j = z)) (h2 : ¬ (13 ≤ q ∧ q < 16 ∧ 8 * z ≤ j ∧ j < 8 * z + 8)) : (b6M z sd f st m).1 q j = (b4M z sd f st m).1 q j := by
  unfold b6M
  rw [uI_o (by omega), uI_o (by omega), uI_o (by omega), rgM_o 7 ⟨h, by omega⟩]
theorem b7_o {K z : Nat} {sd f st : Int32} {m : St} {q j : Nat} (h : q < 16 ∨ 19 < q ∨ ¬ (4096 * z ≤ j ∧ j < 4096 * z + K)) : (b7M K z sd f st m).1 q j = (b6M z sd f st m).1 q j := by
  unfold b7M
  by_cases e : q < 16 ∨ 19 < q
  · rw [itN_keep K (fun t x => clM_n e)]
  · exact clM_o K (by omega)
theorem b6_2 {z : Nat} {sd f st : Int32} {m : St} : (b6M z sd f st m).2 = m.2 := by
  unfold b6M b4M bM
  rw [uI_2, uI_2, uI_2, itN_2 (f := rgM z) 7 (fun t x => by unfold rgM; rw [uI_2, uI_2, uI_2, uI_2]), uI_2, uI_2, uI_2, uI_2, uI_2, uI_2, uI_2, uI_2, uI_2]
  split
  · rw [uI_2, uI_2, uI_2, uI_2, uI_2, uI_2, uI_2]
  · rw [uI_2]
theorem b7_2 {K z : Nat} {sd f st : Int32} {m : St} : (b7M K z sd f st m).2 = m.2 := by
  unfold b7M
  rw [itN_2 (f := clM z) K (fun t x => by unfold clM; rw [uI_2, uI_2, uI_2, uI_2])]; exact b6_2
theorem mo_start {z N : Nat} {sd f : Int32} {m : St} (hz : z < 2) (hN : N ≤ 200) (h16 : m.1 0 16 = nI N) : f_Mo_start (nI z) sd f m = some (b7M 4096 z sd f (if N = 0 then 1 else 0) m) := by
  have gz2 : ∀ {β : Type} (q : Option β), gd (nI z) 2 q = q := fun q => gd_nI hz (by omega)
  have kz : (nI z).toNatClampNeg = z := nI_clamp (by omega)
  have e0 : f_Mo_start (nI z) sd f m = f_Mo_start_J42 sd (bM z f m) := by
    unfold f_Mo_start bM
    rw [lt_eq, uI_v]
    have hc : z = 0 ∨ z = 1 := by omega
    rcases hc with rfl | rfl
    · rw [if_pos (show nI 0 = 0 from rfl), if_pos rfl, lt_eq, lt_eq, lt_eq, lt_eq, lt_eq, lt_eq]
    · rw [if_neg (show ¬ nI 1 = 0 by decide), if_neg (by omega)]
  have h28 := bM_28 (z := z) (f := f) (m := m)
  have hs : (bM z f m).1 0 16 = nI N := by rw [bM_o (by omega) (by omega)]; exact h16
  have eJ : f_Mo_start_J42 sd (bM z f m) = f_Mo_start_J82 (if N = 0 then 1 else 0) (nI z) (uI (uI (bM z f m) 24 z sd) 20 z 0) := by
    unfold f_Mo_start_J42
    rw [h28, gz2, kz, lt_eq, uI_n (show (0 : Nat) ≠ 24 by omega), h28, gz2, kz, lt_eq, uI_n (show (0 : Nat) ≠ 20 by omega), uI_n (show (0 : Nat) ≠ 24 by omega), hs, h28]
    by_cases h : N = 0
    · rw [if_pos (show nI N = 0 by rw [h]; rfl), if_pos h]
    · rw [if_neg (nI_ne0 (by omega) (by omega)), if_neg h]
  rw [e0, eJ]
  generalize (if N = 0 then (1 : Int32) else 0) = st
  have q28 : (b4M z sd f st m).1 0 28 = nI z := by rw [b4_o (by omega)]; exact h28
  unfold f_Mo_start_J82
  rw [gz2, kz, lt_eq, uI_n (show (0 : Nat) ≠ 21 by omega), uI_n (show (0 : Nat) ≠ 20 by omega), uI_n (show (0 : Nat) ≠ 24 by omega), h28, gz2, kz, lt_eq]
  rw [uI_n (show (0 : Nat) ≠ 22 by omega), uI_n (show (0 : Nat) ≠ 21 by omega), uI_n (show (0 : Nat) ≠ 20 by omega), uI_n (show (0 : Nat) ≠ 24 by omega), h28, gz2, kz, lt_eq]
  rw [uI_n (show (0 : Nat) ≠ 23 by omega), uI_n (show (0 : Nat) ≠ 22 by omega), uI_n (show (0 : Nat) ≠ 21 by omega), uI_n (show (0 : Nat) ≠ 20 by omega), uI_n (show (0 : Nat) ≠ 24 by omega), h28, gz2, kz, lt_eq]
  rw [uI_n (show (0 : Nat) ≠ 26 by omega), uI_n (show (0 : Nat) ≠ 23 by omega), uI_n (show (0 : Nat) ≠ 22 by omega), uI_n (show (0 : Nat) ≠ 21 by omega), uI_n (show (0 : Nat) ≠ 20 by omega), uI_n (show (0 : Nat) ≠ 24 by omega), h28, gz2, kz, lt_eq]
  rw [uI_n (show (0 : Nat) ≠ 27 by omega), uI_n (show (0 : Nat) ≠ 26 by omega), uI_n (show (0 : Nat) ≠ 23 by omega), uI_n (show (0 : Nat) ≠ 22 by omega), uI_n (show (0 : Nat) ≠ 21 by omega), uI_n (show (0 : Nat) ≠ 20 by omega), uI_n (show (0 : Nat) ≠ 24 by omega), h28, gz2, kz, lt_eq]
  rw [uI_n (show (0 : Nat) ≠ 34 by omega), uI_n (show (0 : Nat) ≠ 27 by omega), uI_n (show (0 : Nat) ≠ 26 by omega), uI_n (show (0 : Nat) ≠ 23 by omega), uI_n (show (0 : Nat) ≠ 22 by omega), uI_n (show (0 : Nat) ≠ 21 by omega), uI_n (show (0 : Nat) ≠ 20 by omega), uI_n (show (0 : Nat) ≠ 24 by omega), h28, gz2, kz, lt_eq]
  show (wh (fun a : (Int32 × St) => f_Mo_start_L147 a.1 a.2) (0, b4M z sd f st m)).bind _ = _
  rw [mo_regL q28 hz, Option.bind_some]
  dsimp only
  have r28 : (itN (rgM z) (b4M z sd f st m) 0 7).1 0 28 = nI z := by rw [rgM_o 7 (by omega)]; exact q28
  have g7 : ∀ {β : Type} (q : Option β), gd (nI (8 * z + 7)) 16 q = q := fun q => gd_nI (by omega) (by omega)
  have k7 : (nI (8 * z + 7)).toNatClampNeg = 8 * z + 7 := nI_clamp (by omega)
  have i7 : (8 : Int32) * nI z + 7 = nI (8 * z + 7) := ix8 z 7
  rw [r28, i7, g7, k7, lt_eq, uI_n (show (0 : Nat) ≠ 13 by omega), r28, i7, g7, k7, lt_eq, uI_n (show (0 : Nat) ≠ 14 by omega), uI_n (show (0 : Nat) ≠ 13 by omega), r28, i7, g7, k7, lt_eq]
  show (wh (fun a : (Int32 × St) => f_Mo_start_L267 a.1 a.2) (0, b6M z sd f st m)).bind _ = _
  rw [mo_clearL (z := z) (by rw [b6_o (by omega) (by omega)]; exact q28) hz, Option.bind_some]
  rfl
