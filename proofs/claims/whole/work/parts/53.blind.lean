/-! ===== changes that a machine doesn't see ===== -/
def rlv (z k i : Nat) : Prop := (13 ≤ k ∧ k ≠ 36 ∧ ¬ own (1 - z) k i) ∨ (k = 0 ∧ (i = 29 ∨ i = 56 ∨ (61 ≤ i ∧ i ≤ 64) ∨ i = 68 ∨ i = 69))
set_option maxHeartbeats 4000000 in
theorem phi_rlv {z d j k i : Nat} (h : phi z d j = some (k, i)) (hz : z < 2) : rlv z k i := by
  have h1 := (phi_own h (z := 1 - z) (by omega) hz (by omega)).1
  have h2 : (13 ≤ k ∧ k ≠ 36) ∨ (k = 0 ∧ (i = 56 ∨ (61 ≤ i ∧ i ≤ 64) ∨ i = 68)) := by
    clear h1
    unfold phi at h
    grind (splits := 40)
  unfold rlv
  rcases h2 with h2 | h2
  · exact .inl ⟨h2.1, h2.2, h1⟩
  · exact .inr ⟨h2.1, by omega⟩
theorem SI_rebase3 {z B n i N : Nat} {t : Int32} {c0 m0 c m c1 m1 c' m' : St} (h : SI z B n i N t c0 m0 c m) (hc : ∀ k j, B ≤ k → k < B + 38 → ¬ (k = B ∧ j = 12) → c'.1 k j = c.1 k j) (hm : ∀ k j, rlv z k j → m'.1 k j = m.1 k j) (hF : Fc B c1 c') (hFm : Fm z m1 m') (h28 : m1.1 0 28 = nI z) (h29 : m1.1 0 29 = m0.1 0 29) (h12 : c'.1 B 12 = c1.1 B 12) : SI z B n i N t c1 m1 c' m' := by
  have hck : ∀ k, B < k → k < B + 38 → c'.1 k = c.1 k := fun k h1 h2 => funext fun j => hc k j (by omega) h2 (by omega)
  obtain ⟨h1, h2, h3, h4, h5, h6, h7⟩ := h
  have hzb := h1.2.2.2.1
  have hz' : z < 2 := RB_zb h1
  have hR : R1 z B c' m' := by
    intro d j q hq
    obtain ⟨k, l⟩ := q
    have hd := (phi_own hq (z := 1 - z) (by omega) hz' (by omega)).2.1
    rw [hm k l (phi_rlv hq hz'), hc (B + d) j (by omega) (by omega) ?_]
    · exact h1.1 d j _ hq
    · rintro ⟨e1, e2⟩
      have : d = 0 := by omega
      subst this; subst e2
      exact absurd hq (by simp [phi])
  have hRB : RB z B c1 m1 c' m' := ⟨hR, hF, hFm, hzb, h28⟩
  refine ⟨hRB, LG_of h2 (Nat.le_refl _) (hck _ (by omega) (by omega)) (hm _ _ (by unfold rlv; omega)), IM_of h3 (hck _ (by omega) (by omega)) (hck _ (by omega) (by omega)) (hck _ (by omega) (by omega)), IS_of h4 (by rw [hck _ (by omega) (by omega)]) (hck _ (by omega) (by omega)) (hck _ (by omega) (by omega)), IR_of h5 (fun k _ _ => hck k (by omega) (by omega)), ?_, ?_⟩
  · obtain ⟨k, qs, qe, F, S, C, W, Q, g1, g2, g3, g4, g5, g6, g7, g8, g9, g10, g11, g12, g13⟩ := h6
    refine ⟨k, qs, qe, F, S, C, W, Q, ?_⟩
    unfold HX
    rw [hck (B + 6) (by omega) (by omega), hck (B + 7) (by omega) (by omega), hck (B + 8) (by omega) (by omega), hck (B + 9) (by omega) (by omega), hck (B + 12) (by omega) (by omega), hck (B + 13) (by omega) (by omega), hm 35 z (by unfold rlv own; omega)]
    refine ⟨g1, g2, g3, g4, g5, g6, g7, g8, g9, g10, g11, fun i' hi1 hi2 => ?_, g13⟩
    obtain ⟨q1, q2, q3, q4, q5⟩ := g12 i' hi1 hi2
    refine ⟨q1, q2, q3, q4, ?_⟩
    rw [hm 33 (101 * z + Q i') (by unfold rlv own; omega)]; exact q5
  · obtain ⟨a1, a2, a3, a4, a5, a6, a7, a8, a9, a10⟩ := h7
    have q : ∀ j, j ≠ 12 → c'.1 B j = c.1 B j := fun j hj => hc B j (Nat.le_refl _) (by omega) (by omega)
    unfold IX
    rw [q 9 (by omega), q 8 (by omega), q 11 (by omega), q 10 (by omega), q 16 (by omega), q 14 (by omega), q 18 (by omega), hck (B + 36) (by omega) (by omega), hm 0 69 (by unfold rlv; omega), hm 22 z (by unfold rlv own; omega), h29]
    exact ⟨a1, a2, a3, h12, a5, a6, a7, a8, a9, a10⟩
theorem BS_rebase3 {z B n N : Nat} {t : Int32} {c0 m0 c m c' m' : St} (h : BS z B n N t c0 m0 c m) (hc : ∀ k j, B ≤ k → k < B + 38 → ¬ (k = B ∧ j = 12) → c'.1 k j = c.1 k j) (hm : ∀ k j, rlv z k j → ¬ (k = 0 ∧ j = 69) → m'.1 k j = m.1 k j) (h28 : m'.1 0 28 = nI z) : BS z B n N t c' m' c' m' := by
  obtain ⟨i, hiN, hi, hS⟩ := h
  have h29 : m'.1 0 29 = m0.1 0 29 := by
    have := SI_29 hS
    rw [uI_o (by omega)] at this
    rw [hm 0 29 (by unfold rlv; omega) (by omega)]; exact this
  refine ⟨i, hiN, fun h => hi (by rw [← hc B 11 (Nat.le_refl _) (by omega) (by omega)]; exact h), ?_⟩
  refine SI_rebase3 hS (fun k j h1 h2 h3 => ?_) (fun k j hn => ?_) ⟨fun k hk => uI_n (by omega), rfl⟩ ⟨fun k j ho => uI_o (fun e => ho (by rw [e.1, e.2]; unfold own; omega)), rfl⟩ h28 h29 (by rw [uI_o (by omega)])
  · rw [uI_g2, uI_g2]
    by_cases e : k = B ∧ j = 10
    · rw [if_pos e, if_pos e]
    · rw [if_neg e, if_neg e]; exact hc k j h1 h2 h3
  · rw [uI_g2, uI_g2]
    by_cases e : k = 0 ∧ j = 69
    · rw [if_pos e, if_pos e]
    · rw [if_neg e, if_neg e]; exact hm k j hn e
