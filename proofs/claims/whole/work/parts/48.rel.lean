/-! ===== the relation between the calls ===== -/
def NM (c : St) : Prop := ∀ k, k < 51 → c.2.1 4 k = f_Mo_name (nI k)
def TA (c m : St) : Prop := (∃ tl, tl ≤ 4000 ∧ c.1 0 1 = nI tl ∧ m.1 0 1 = nI tl ∧ ∀ i, i < tl → c.1 1 i = m.1 1 i &&& 255 ∧ (m.1 1 i).toInt8.toInt32 = m.1 1 i) ∧ c.1 2 10 = m.1 0 20 ∧ c.1 2 11 = m.1 0 21 ∧ c.1 2 12 = m.1 0 22 ∧ NM c
def PT (c : St) : Prop := (c.2.2 0 = 10 ∧ c.2.2 1 = 15) ∨ (c.2.2 0 = 15 ∧ c.2.2 1 = 10)
def LDd (sp b : Nat) (c m : St) : Prop := c.1 0 5 = 1 ∧ m.1 0 19 = 1 ∧ ∃ N n stp, WP 20 (c.2.2 0) b N c m ∧ BS 0 20 n N (nI stp) c m c m ∧ n ≤ 4 * sp ∧ stp ≤ sp ∧ c.1 20 12 = nI stp ∧ (m.1 0 29 = 0 ∨ m.1 0 29 = 1)
def CRr (sp b : Nat) (w0 w1 : Int32) (c m : St) : Prop := sp ≤ 200000 ∧ m.1 0 73 = nI sp ∧ c.1 0 8 = nI (200000 - sp) ∧ b < 2 ∧ m.1 0 14 = nI b ∧ m.1 0 28 = 0 ∧ PT c ∧ R1 0 20 (uI c 20 10 w0) m ∧ R1 1 58 (uI c 58 10 w1) m ∧ (∃ s, s ≤ 20 ∧ c.1 (20 + 17) 10 = nI s) ∧ (∃ s, s ≤ 20 ∧ c.1 (58 + 17) 10 = nI s)
def Rel (c m : St) : Prop := TA c m ∧ ∃ sp b w0 w1, CRr sp b w0 w1 c m ∧ ((c.1 0 5 = 0 ∧ m.1 0 19 = 0 ∧ m.1 0 61 = 0 ∧ m.1 0 56 = 0) ∨ LDd sp b c m)
theorem TA_of {c m c' m' : St} (h : TA c m) (h1 : c'.1 0 1 = c.1 0 1) (h2 : c'.1 1 = c.1 1) (h3 : c'.1 2 = c.1 2) (h4 : m'.1 1 = m.1 1) (h5 : ∀ j, j = 1 ∨ j = 20 ∨ j = 21 ∨ j = 22 → m'.1 0 j = m.1 0 j) (h6 : c'.2.1 4 = c.2.1 4) : TA c' m' := by
  unfold TA NM
  rw [h6, h1, h2, h3, h4, h5 1 (by omega), h5 20 (by omega), h5 21 (by omega), h5 22 (by omega)]
  exact h
theorem R1_69 {z B : Nat} {c m : St} {v : Int32} (hz : z < 2) (h : R1 z B c (uI m 0 69 v)) : R1 z B c m := by
  intro d j q hq
  obtain ⟨k, i⟩ := q
  have hn := (phi_own hq (z := 1 - z) (by omega) hz (by omega)).2.2
  have := h d j _ hq
  rw [uI_o (by omega)] at this; exact this
theorem BS_R1 {z B n N : Nat} {t : Int32} {c0 m0 c m : St} (h : BS z B n N t c0 m0 c m) : ∃ w, R1 z B (uI c B 10 w) m := by
  obtain ⟨i, _, _, hS⟩ := h
  exact ⟨nI i, R1_69 (RB_zb hS.1) hS.1.1⟩
theorem BS_sup {z B n N : Nat} {t : Int32} {c0 m0 c m : St} (h : BS z B n N t c0 m0 c m) : ∃ s, s ≤ 20 ∧ c.1 (B + 17) 10 = nI s := by
  obtain ⟨i, _, _, hS⟩ := h
  obtain ⟨_, _, _, s, _, _, _, _, _, h1, h2, _⟩ := hS.2.1
  rw [uI_n (by omega)] at h1
  exact ⟨s, h2, h1⟩
/-- what a machine's steps leave: both sides, from the base -/
theorem BS_fr {z B n N : Nat} {t : Int32} {c0 m0 c m : St} (h : BS z B n N t c0 m0 c m) : (∀ k, k < B ∨ B + 38 ≤ k → c.1 k = c0.1 k) ∧ c.2 = c0.2 ∧ (∀ k i, ¬ own z k i → m.1 k i = m0.1 k i) ∧ m.2 = m0.2 ∧ m.1 0 28 = nI z ∧ c.1 B 12 = c0.1 B 12 ∧ m.1 22 z = t ∧ (m.1 0 29 = c.1 B 8) := by
  obtain ⟨i, _, _, hS⟩ := h
  obtain ⟨h1, h2, h3, h4, h5, h6, h7⟩ := hS
  refine ⟨fun k hk => ?_, h1.2.1.2, fun k j ho => ?_, h1.2.2.1.2, ?_, ?_, ?_, ?_⟩
  · have := h1.2.1.1 k hk; rw [uI_n (by omega)] at this; exact this
  · have := h1.2.2.1.1 k j ho; rw [uI_o (fun e => ho (by rw [e.1, e.2]; unfold own; omega))] at this; exact this
  · have := RB_z h1; rw [uI_o (by omega)] at this; exact this
  · have := h7.2.2.2.1; rw [uI_o (by omega)] at this; exact this
  · have := h7.2.2.2.2.1; rw [uI_n (by omega)] at this; exact this
  · have e1 := h7.2.2.1
    rw [uI_o (by omega)] at e1
    have e2 : (uI m 0 69 (nI i)).1 0 29 = m0.1 0 29 := RB_0 h1 (by unfold own; omega)
    rw [uI_o (by omega)] at e2
    rw [e1, e2]
theorem WP_29 {B P b N : Nat} {c m : St} {z n : Nat} {t : Int32} (hW : WP B P b N c m) (h : c.1 B 8 = 0 ∨ c.1 B 8 = 1) (hB : BS z B n N t c m c m) : m.1 0 29 = 0 ∨ m.1 0 29 = 1 := by
  rw [(BS_fr hB).2.2.2.2.2.2.2]; exact h
