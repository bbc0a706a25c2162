/-! ===== restart, start: the states after ===== -/
noncomputable def a2C (K B p : Nat) (sd f : Int32) (c : St) : St := itN (clC B) (uI (uI (uI (uR c (mq B) p) B 8 f) (B + 1) 4 sd) (B + 1) 5 0) 0 K
noncomputable def a3C (K L B p : Nat) (sd f : Int32) (c : St) : St := itN (owC B 0) (uI (uI (uI (uI (a2C K B p sd f c) (B + 6) 5 0) (B + 6) 8 0) (B + 6) 9 0) (B + 6) 10 0) 0 L
noncomputable def a4C (K L B p : Nat) (sd f : Int32) (c : St) : St := uI (uI (uI (a3C K L B p sd f c) (B + 17) 4 0) (B + 17) 5 0) (B + 17) 6 0
noncomputable def a5C (K L B p : Nat) (sd f : Int32) (c : St) : St := dP (itN (rgC B) (a4C K L B p sd f c) 0 7) (B + 33) 4096 0 0
noncomputable def a6C (K L B p : Nat) (sd f : Int32) (c : St) : St := uI (uI (uI (uI (uI (uI (uI (a5C K L B p sd f c) B 12 0) B 13 7) B 14 0) B 16 0) B 18 0) B 11 0) B 9 0
noncomputable def a7C (K L B p N : Nat) (sd f : Int32) (c : St) : St := if N = 0 then uI (a6C K L B p sd f c) B 11 1 else a6C K L B p sd f c
theorem he_clearL {B : Nat} {c : St} : wh (fun a : (Int32 × St) => f_He_clear_L22 B a.1 a.2) (0, c) = some (256, itN (owC B 0) c 0 256) := by
  have hw := wh_it (L := fun a : (Int32 × St) => f_He_clear_L22 B a.1 a.2) (f := owC B 0) (s := c) (a := 0) 0 256 (fun _ => True) trivial
    (fun t i hi _ => ⟨by
      dsimp only
      rw [Nat.zero_add]
      unfold f_He_clear_L22 owC
      rw [if_neg (show ¬ 256 ≤ nI i from nI_ge (b := 256) hi (by omega)), gd_nI (by omega) (by omega), nI_clamp (by omega), nI_1]; rfl, trivial⟩)
    (fun t _ => by
      dsimp only
      unfold f_He_clear_L22
      rw [if_pos (by decide)])
  exact hw.1
theorem a2_n {K B p : Nat} {sd f : Int32} {c : St} {q : Nat} (h : q < B ∨ B + 5 < q) : (a2C K B p sd f c).1 q = c.1 q := by
  unfold a2C; rw [itN_keep K (fun t x => clC_n (by omega)), uI_n (by omega), uI_n (by omega), uI_n (by omega)]; rfl
theorem a3_n {K L B p : Nat} {sd f : Int32} {c : St} {q : Nat} (h : q ≠ B + 6 ∧ q ≠ B + 12) : (a3C K L B p sd f c).1 q = (a2C K B p sd f c).1 q := by
  unfold a3C; funext j; rw [ow_at, if_neg (fun e => h.2 e.1), uI_n h.1, uI_n h.1, uI_n h.1, uI_n h.1]
theorem a4_n {K L B p : Nat} {sd f : Int32} {c : St} {q : Nat} (h : q ≠ B + 17) : (a4C K L B p sd f c).1 q = (a3C K L B p sd f c).1 q := by
  unfold a4C; rw [uI_n h, uI_n h, uI_n h]
theorem a5_n {K L B p : Nat} {sd f : Int32} {c : St} {q : Nat} (h : q ≠ B + 1 ∧ (q < B + 26 ∨ B + 33 < q)) : (a5C K L B p sd f c).1 q = (a4C K L B p sd f c).1 q := by
  unfold a5C; rw [dP_n (by omega), rgC_n 7 (by omega) (by omega)]
theorem a6_n {K L B p : Nat} {sd f : Int32} {c : St} {q : Nat} (h : q ≠ B) : (a6C K L B p sd f c).1 q = (a5C K L B p sd f c).1 q := by
  unfold a6C; rw [uI_n h, uI_n h, uI_n h, uI_n h, uI_n h, uI_n h, uI_n h]
theorem a7_n {K L B p N : Nat} {sd f : Int32} {c : St} {q : Nat} (h : q ≠ B) : (a7C K L B p N sd f c).1 q = (a5C K L B p sd f c).1 q := by
  unfold a7C
  split
  · rw [uI_n h, a6_n h]
  · exact a6_n h
/-- what a restart leaves as it was -/
theorem a7_o {K L B p N : Nat} {sd f : Int32} {c : St} {q : Nat} (h : q < B ∨ (B + 7 ≤ q ∧ q < B + 12) ∨ (B + 13 ≤ q ∧ q < B + 17) ∨ (B + 18 ≤ q ∧ q < B + 26) ∨ B + 34 ≤ q) : (a7C K L B p N sd f c).1 q = c.1 q := by
  rw [a7_n (by omega), a5_n (by omega), a4_n (by omega), a3_n (by omega), a2_n (by omega)]
theorem dP_s {c : St} {k : Nat} {v s o : Int32} : (dP c k v s o).2 = c.2 := by unfold dP; rw [uI_2, uI_2, uI_2]
theorem a6_2 {K L B p : Nat} {sd f : Int32} {c : St} : (a6C K L B p sd f c).2 = (uR c (mq B) p).2 := by
  have h2 : (a2C K B p sd f c).2 = (uR c (mq B) p).2 := by
    unfold a2C
    rw [itN_2 (f := clC B) K (fun t x => by unfold clC; rw [uI_2, uI_2, uI_2, uI_2]), uI_2, uI_2, uI_2]
  have h3 : (a3C K L B p sd f c).2 = (a2C K B p sd f c).2 := by
    unfold a3C
    rw [itN_2 (f := owC B 0) L (fun t x => by unfold owC; rw [uI_2]), uI_2, uI_2, uI_2, uI_2]
  have h4 : (a4C K L B p sd f c).2 = (a3C K L B p sd f c).2 := by
    unfold a4C; rw [uI_2, uI_2, uI_2]
  have h5 : (a5C K L B p sd f c).2 = (a4C K L B p sd f c).2 := by
    unfold a5C
    rw [dP_s, itN_2 (f := rgC B) 7 (fun t x => by unfold rgC; rw [dP_s, uI_2])]
  have h6 : (a6C K L B p sd f c).2 = (a5C K L B p sd f c).2 := by
    unfold a6C; rw [uI_2, uI_2, uI_2, uI_2, uI_2, uI_2, uI_2]
  rw [h6, h5, h4, h3, h2]
theorem a7_2 {K L B p N : Nat} {sd f : Int32} {c : St} : (a7C K L B p N sd f c).2 = (uR c (mq B) p).2 := by
  unfold a7C
  split
  · rw [uI_2, a6_2]
  · exact a6_2
theorem a7_B {K L B p N : Nat} {sd f : Int32} {c : St} : (a7C K L B p N sd f c).1 B 8 = f ∧ (a7C K L B p N sd f c).1 B 9 = 0 ∧ (a7C K L B p N sd f c).1 B 11 = (if N = 0 then 1 else 0) ∧ (a7C K L B p N sd f c).1 B 12 = 0 ∧ (a7C K L B p N sd f c).1 B 13 = 7 ∧ (a7C K L B p N sd f c).1 B 14 = 0 ∧ (a7C K L B p N sd f c).1 B 16 = 0 ∧ (a7C K L B p N sd f c).1 B 18 = 0 := by
  have h5 : (a5C K L B p sd f c).1 B 8 = f := by
    rw [a5_n (by omega), a4_n (by omega), a3_n (by omega)]
    unfold a2C; rw [itN_keep K (fun t x => clC_n (by omega)), uI_n (by omega), uI_n (by omega), uI_v]
  have h6 : (a6C K L B p sd f c).1 B 8 = f ∧ (a6C K L B p sd f c).1 B 9 = 0 ∧ (a6C K L B p sd f c).1 B 11 = 0 ∧ (a6C K L B p sd f c).1 B 12 = 0 ∧ (a6C K L B p sd f c).1 B 13 = 7 ∧ (a6C K L B p sd f c).1 B 14 = 0 ∧ (a6C K L B p sd f c).1 B 16 = 0 ∧ (a6C K L B p sd f c).1 B 18 = 0 := by
    unfold a6C
    simp [uI_g2, h5]
  obtain ⟨b1, b2, b3, b4, b5, b6, b7, b8⟩ := h6
  unfold a7C
  by_cases h : N = 0
  · rw [if_pos h, if_pos h, uI_o (by omega), uI_o (by omega), uI_v, uI_o (by omega), uI_o (by omega), uI_o (by omega), uI_o (by omega), uI_o (by omega)]
    exact ⟨b1, b2, rfl, b4, b5, b6, b7, b8⟩
  · rw [if_neg h, if_neg h]; exact ⟨b1, b2, b3, b4, b5, b6, b7, b8⟩
theorem a7_mem {K L B p N : Nat} {sd f : Int32} {c : St} {y : Nat} (hy : y < K) : (a7C K L B p N sd f c).1 (B + 2) y = 0 ∧ (a7C K L B p N sd f c).1 (B + 3) y = gS y ∧ (a7C K L B p N sd f c).1 (B + 4) y = 0 ∧ (a7C K L B p N sd f c).1 (B + 5) y = gO y := by
  rw [a7_n (by omega), a5_n (by omega), a4_n (by omega), a3_n (by omega), a7_n (by omega), a5_n (by omega), a4_n (by omega), a3_n (by omega), a7_n (by omega), a5_n (by omega), a4_n (by omega), a3_n (by omega), a7_n (by omega), a5_n (by omega), a4_n (by omega), a3_n (by omega)]
  exact clC_at K hy
theorem a7_heap {K L B p N : Nat} {sd f : Int32} {c : St} : (a7C K L B p N sd f c).1 (B + 6) 5 = 0 ∧ (a7C K L B p N sd f c).1 (B + 6) 8 = 0 ∧ (a7C K L B p N sd f c).1 (B + 6) 9 = 0 ∧ (a7C K L B p N sd f c).1 (B + 6) 10 = 0 ∧ ∀ u, u < L → (a7C K L B p N sd f c).1 (B + 12) u = 0 := by
  rw [a7_n (by omega), a5_n (by omega), a4_n (by omega), a7_n (by omega), a5_n (by omega), a4_n (by omega)]
  unfold a3C
  refine ⟨?_, ?_, ?_, ?_, fun u hu => ?_⟩
  · rw [ow_at, if_neg (by omega)]; simp [uI_g2]
  · rw [ow_at, if_neg (by omega)]; simp [uI_g2]
  · rw [ow_at, if_neg (by omega)]; simp [uI_g2]
  · rw [ow_at, if_neg (by omega)]; simp [uI_g2]
  · rw [ow_at, if_pos ⟨rfl, by omega, by omega⟩]
theorem a7_led {K L B p N : Nat} {sd f : Int32} {c : St} : (a7C K L B p N sd f c).1 (B + 17) 4 = 0 ∧ (a7C K L B p N sd f c).1 (B + 17) 5 = 0 ∧ (a7C K L B p N sd f c).1 (B + 17) 6 = 0 ∧ ∀ j, j ≠ 4 → j ≠ 5 → j ≠ 6 → (a7C K L B p N sd f c).1 (B + 17) j = c.1 (B + 17) j := by
  rw [a7_n (by omega), a5_n (by omega)]
  unfold a4C
  refine ⟨?_, ?_, ?_, fun j h1 h2 h3 => ?_⟩
  · simp [uI_g2]
  · simp [uI_g2]
  · simp [uI_g2]
  · rw [uI_o (by omega), uI_o (by omega), uI_o (by omega), a3_n (by omega), a2_n (by omega)]
theorem a7_5 {K L B p N : Nat} {sd f : Int32} {c : St} : (a7C K L B p N sd f c).1 (B + 1) 5 = 0 ∧ (a4C K L B p sd f c).1 (B + 1) 4 = sd ∧ (a7C K L B p N sd f c).1 (B + 1) 4 = (itN (rgC B) (a4C K L B p sd f c) 0 7).1 (B + 1) 4 := by
  rw [a7_n (by omega)]
  refine ⟨?_, ?_, ?_⟩
  · unfold a5C; rw [dP_n (by omega), rgC_5, a4_n (by omega), a3_n (by omega)]
    unfold a2C; rw [itN_keep K (fun t x => clC_n (by omega)), uI_v]
  · rw [a4_n (by omega), a3_n (by omega)]
    unfold a2C; rw [itN_keep K (fun t x => clC_n (by omega)), uI_o (by omega), uI_v]
  · unfold a5C; rw [dP_n (by omega)]
theorem a7_reg {K L B p N : Nat} {sd f : Int32} {c : St} : (∀ r, r < 7 → (a7C K L B p N sd f c).1 (B + 26 + r) = (itN (rgC B) (a4C K L B p sd f c) 0 7).1 (B + 26 + r)) ∧ (a7C K L B p N sd f c).1 (B + 33) 0 = 4096 ∧ (a7C K L B p N sd f c).1 (B + 33) 1 = 0 ∧ (a7C K L B p N sd f c).1 (B + 33) 2 = 0 := by
  refine ⟨fun r hr => ?_, ?_, ?_, ?_⟩
  · rw [a7_n (by omega)]; unfold a5C; rw [dP_n (by omega)]
  · rw [a7_n (by omega)]; unfold a5C; rw [dP_0]
  · rw [a7_n (by omega)]; unfold a5C; rw [dP_1]
  · rw [a7_n (by omega)]; unfold a5C; rw [dP_2]; rfl
theorem ma_restart {B p N : Nat} {sd f : Int32} {c : St} (hB : 20 ≤ B) (hp : isP p) (hf : f = 0 ∨ f = 1) (hN : N ≤ 200) (h3 : c.1 p 3 = nI N) : f_Ma_restart B p sd f c = some (a7C 4096 256 B p N sd f c) := by
  have hl := isP_lt hp
  have e6 : (a6C 4096 256 B p sd f c).1 p 3 = nI N := by rw [a6_n (by omega), a5_n (by omega), a4_n (by omega), a3_n (by omega), a2_n (by omega)]; exact h3
  have h6 : (a6C 4096 256 B p sd f c).2.2 (mq B) = p := by
    rw [a6_2]; show (uR c (mq B) p).2.2 (mq B) = p; rw [uR_22, if_pos rfl]
  unfold f_Ma_restart
  rw [lt_eq]
  unfold gz
  rw [if_pos hf, lt_eq]
  unfold f_Me_clear
  rw [lt_eq, lt_eq, me_clearL, Option.bind_some, Option.bind_some]
  show (f_He_clear B (a2C 4096 B p sd f c)).bind _ = _
  unfold f_He_clear
  rw [lt_eq, lt_eq, lt_eq, lt_eq, he_clearL, Option.bind_some, Option.bind_some]
  show (f_Lg_clear B (a3C 4096 256 B p sd f c)).bind _ = _
  unfold f_Lg_clear
  rw [lt_eq, lt_eq, lt_eq, Option.bind_some]
  show (wh (fun a : (Int32 × St) => f_Ma_restart_L35 B a.1 a.2) (0, a4C 4096 256 B p sd f c)).bind _ = _
  rw [ma_regL, Option.bind_some, show (7 : Int32) = nI 7 from rfl, gd_nI (by omega) (by omega), nI_clamp (by omega)]
  unfold f_Da_putSet
  dsimp only
  rw [da_put, Option.bind_some, Option.bind_some, lt_eq, lt_eq, lt_eq, lt_eq, lt_eq, lt_eq]
  unfold f_Ma_goTo
  rw [lt_eq]
  show ((gP ((a6C 4096 256 B p sd f c).2.2 (mq B)) fun p2 => if (a6C 4096 256 B p sd f c).1 B 9 < (a6C 4096 256 B p sd f c).1 p2 3 then some (a6C 4096 256 B p sd f c) else lt (uI (a6C 4096 256 B p sd f c) B 11 1) fun s5 => some s5).bind fun q26 => some q26) = _
  rw [bind_rt, h6, gP_e hp, e6, show (a6C 4096 256 B p sd f c).1 B 9 = 0 from uI_v]
  unfold a7C
  by_cases h : N = 0
  · subst h; rw [if_neg (by decide), if_pos rfl, lt_eq]
  · rw [if_pos (show 0 < nI N from nI_lt (a := 0) (by omega) (by omega)), if_neg h]
