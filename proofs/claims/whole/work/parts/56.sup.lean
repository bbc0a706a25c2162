/-! ===== suppress ===== -/
set_option maxHeartbeats 4000000 in
theorem phi1_k {d j k i : Nat} (h : phi 1 d j = some (k, i)) : 13 ≤ k ∧ k < 36 := by
  unfold phi at h
  grind (splits := 40)
def spC (c : St) (s : Nat) (v1 v2 v3 : Int32) : St := uI (uI (uI (uI c (20 + 22) s v1) (20 + 23) s v2) (20 + 24) s v3) (20 + 17) 10 (nI (s + 1))
def spM (m : St) (s : Nat) (v1 v2 v3 : Int32) : St := uI (uI (uI (uI m 42 s v1) 43 s v2) 44 s v3) 0 68 (nI (s + 1))
theorem spC_n {c : St} {s q : Nat} {v1 v2 v3 : Int32} (h : q ≠ 37 ∧ q ≠ 42 ∧ q ≠ 43 ∧ q ≠ 44) : (spC c s v1 v2 v3).1 q = c.1 q := by
  unfold spC; rw [uI_n (by omega), uI_n (by omega), uI_n (by omega), uI_n (by omega)]
theorem spC_37 {c : St} {s j : Nat} {v1 v2 v3 : Int32} (h : j ≠ 10) : (spC c s v1 v2 v3).1 37 j = c.1 37 j := by
  unfold spC; rw [uI_o (by omega), uI_n (by omega), uI_n (by omega), uI_n (by omega)]
theorem spM_n {m : St} {s q : Nat} {v1 v2 v3 : Int32} (h : q ≠ 0 ∧ q ≠ 42 ∧ q ≠ 43 ∧ q ≠ 44) : (spM m s v1 v2 v3).1 q = m.1 q := by
  unfold spM; rw [uI_n (by omega), uI_n (by omega), uI_n (by omega), uI_n (by omega)]
theorem spM_0 {m : St} {s j : Nat} {v1 v2 v3 : Int32} (h : j ≠ 68) : (spM m s v1 v2 v3).1 0 j = m.1 0 j := by
  unfold spM; rw [uI_o (by omega), uI_n (by omega), uI_n (by omega), uI_n (by omega)]
theorem R1_sp {c m : St} {s : Nat} {v1 v2 v3 : Int32} (hs : s < 20) (h : R1 0 20 c m) : R1 0 20 (spC c s v1 v2 v3) (spM m s v1 v2 v3) :=
  R1_set (d := 17) (R1_set (d := 24) (R1_set (d := 23) (R1_set (d := 22) h (phi_sup (by omega) (by omega) hs)) (phi_sup (by omega) (by omega) hs)) (phi_sup (by omega) (by omega) hs)) rfl
theorem spC_10 {c : St} {s : Nat} {v1 v2 v3 w : Int32} : uI (spC c s v1 v2 v3) 20 10 w = spC (uI c 20 10 w) s v1 v2 v3 := by
  unfold spC
  rw [uI_comm (k := 20 + 17) (by omega), uI_comm (k := 20 + 24) (by omega), uI_comm (k := 20 + 23) (by omega), uI_comm (k := 20 + 22) (by omega)]
theorem spM_69 {m : St} {s : Nat} {v1 v2 v3 w : Int32} : uI (spM m s v1 v2 v3) 0 69 w = spM (uI m 0 69 w) s v1 v2 v3 := by
  unfold spM
  rw [uI_comm (k := 0) (by omega), uI_comm (k := 44) (by omega), uI_comm (k := 43) (by omega), uI_comm (k := 42) (by omega)]
theorem BS_sp {n N : Nat} {t : Int32} {c m : St} {s : Nat} {v1 v2 v3 : Int32} (hs : s < 20) (h : BS 0 20 n N t c m c m) : BS 0 20 n N t (spC c s v1 v2 v3) (spM m s v1 v2 v3) (spC c s v1 v2 v3) (spM m s v1 v2 v3) := by
  obtain ⟨i, hiN, hi, hS⟩ := h
  refine ⟨i, hiN, fun h => hi (by rw [spC_n (by omega)] at h; exact h), ?_⟩
  rw [spC_10, spM_69]
  obtain ⟨h1, h2, h3, h4, h5, h6, h7⟩ := hS
  have h28 : m.1 0 28 = nI 0 := by have := RB_z h1; rw [uI_o (by omega)] at this; exact this
  have hRB : RB 0 20 (spC c s v1 v2 v3) (spM m s v1 v2 v3) (spC (uI c 20 10 (nI i)) s v1 v2 v3) (spM (uI m 0 69 (nI i)) s v1 v2 v3) := by
    refine ⟨R1_sp hs h1.1, ⟨fun k hk => ?_, rfl⟩, ⟨fun k j ho => ?_, rfl⟩, .inl ⟨rfl, rfl⟩, (spM_0 (by omega)).trans h28⟩
    · rw [← spC_10, uI_n (by omega)]
    · rw [← spM_69, uI_o (fun e => ho (by rw [e.1, e.2]; unfold own; omega))]
  refine ⟨hRB, ?_, IM_of h3 (spC_n (by omega)) (spC_n (by omega)) (spC_n (by omega)), IS_of h4 (by rw [spC_n (by omega)]) (spC_n (by omega)) (spC_n (by omega)), IR_of h5 (fun k _ _ => spC_n (by omega)), HI_of h6 (fun k _ _ => spC_n (by omega)) (spM_n (by omega)) (spM_n (by omega)), ?_⟩
  · obtain ⟨kept, rep, sup, supp, hk, h60, hr, hsu, hn, hsp, h20, hq⟩ := h2
    exact ⟨kept, rep, sup, s + 1, (spC_37 (by omega)).trans hk, h60, (spC_37 (by omega)).trans hr, (spC_37 (by omega)).trans hsu, hn, uI_v, by omega, fun hz => (spM_0 (by omega)).trans (hq hz)⟩
  · obtain ⟨a1, a2, a3, a4, a5, a6, a7, a8, a9, a10⟩ := h7
    unfold IX
    rw [spC_n (show 20 ≠ 37 ∧ 20 ≠ 42 ∧ 20 ≠ 43 ∧ 20 ≠ 44 by omega), spC_n (show 20 + 36 ≠ 37 ∧ 20 + 36 ≠ 42 ∧ 20 + 36 ≠ 43 ∧ 20 + 36 ≠ 44 by omega), spM_0 (by omega), spM_n (show 22 ≠ 0 ∧ 22 ≠ 42 ∧ 22 ≠ 43 ∧ 22 ≠ 44 by omega), spM_0 (by omega), spC_n (show 20 ≠ 37 ∧ 20 ≠ 42 ∧ 20 ≠ 43 ∧ 20 ≠ 44 by omega)]
    exact ⟨a1, a2, a3, a4, a5, a6, a7, a8, a9, a10⟩
