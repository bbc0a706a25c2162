/-! ===== between the calls ===== -/
set_option maxHeartbeats 4000000 in
theorem phi_own {z z' d j k i : Nat} (h : phi z' d j = some (k, i)) (hz : z < 2) (hz' : z' < 2) (hne : z ≠ z') : ¬ own z k i ∧ d < 38 ∧ ¬ (k = 0 ∧ (i = 28 ∨ i = 29 ∨ i = 69 ∨ i = 73)) := by
  have hc : (z = 0 ∧ z' = 1) ∨ (z = 1 ∧ z' = 0) := by omega
  unfold phi at h
  unfold own
  rcases hc with ⟨rfl, rfl⟩ | ⟨rfl, rfl⟩
  · grind (splits := 40)
  · grind (splits := 40)
theorem R1_oth {z B z' B' : Nat} {c0 m0 c m : St} {w : Int32} (hzb : ZB z B) (hzb' : ZB z' B') (hne : z ≠ z') (hc : ∀ k, k < B ∨ B + 38 ≤ k → 20 ≤ k → c.1 k = c0.1 k) (hm : ∀ k i, ¬ own z k i → ¬ (k = 0 ∧ (i = 28 ∨ i = 29 ∨ i = 69 ∨ i = 73)) → m.1 k i = m0.1 k i) (h : R1 z' B' (uI c0 B' 10 w) m0) : R1 z' B' (uI c B' 10 w) m := by
  intro d j q hq
  obtain ⟨k, i⟩ := q
  obtain ⟨ho, hd, hn⟩ := phi_own hq (z := z) (by unfold ZB at hzb; omega) (by unfold ZB at hzb'; omega) hne
  have h1 := h d j _ hq
  rw [hm k i ho hn]
  rw [← h1]
  have e : c.1 (B' + d) = c0.1 (B' + d) := hc _ (by unfold ZB at hzb hzb'; omega) (by unfold ZB at hzb'; omega)
  rw [uI_g2, uI_g2, e]
theorem SI_rebase {z B n i N : Nat} {t : Int32} {c0 m0 c m c1 m1 c' m' : St} (h : SI z B n i N t c0 m0 c m) (hc : ∀ k j, B ≤ k → k < B + 38 → ¬ (k = B ∧ j = 12) → c'.1 k j = c.1 k j) (hm : ∀ k j, ¬ (k = 0 ∧ (j = 28 ∨ j = 73)) → m'.1 k j = m.1 k j) (hF : Fc B c1 c') (hFm : Fm z m1 m') (h28 : m1.1 0 28 = nI z) (h29 : m1.1 0 29 = m0.1 0 29) (h12 : c'.1 B 12 = c1.1 B 12) : SI z B n i N t c1 m1 c' m' := by
  have hck : ∀ k, B < k → k < B + 38 → c'.1 k = c.1 k := fun k h1 h2 => funext fun j => hc k j (by omega) h2 (by omega)
  have hmk : ∀ k, k ≠ 0 → m'.1 k = m.1 k := fun k h1 => funext fun j => hm k j (by omega)
  obtain ⟨h1, h2, h3, h4, h5, h6, h7⟩ := h
  have hzb := h1.2.2.2.1
  have hR : R1 z B c' m' := by
    intro d j q hq
    obtain ⟨k, l⟩ := q
    have hz' : z < 2 := RB_zb h1
    obtain ⟨_, hd, hn⟩ := phi_own hq (z := 1 - z) (by omega) hz' (by omega)
    rw [hm k l (by omega), hc (B + d) j (by omega) (by omega) ?_]
    · exact h1.1 d j _ hq
    · rintro ⟨e1, e2⟩
      have : d = 0 := by omega
      subst this; subst e2
      exact absurd hq (by simp [phi])
  have hRB : RB z B c1 m1 c' m' := ⟨hR, hF, hFm, hzb, h28⟩
  refine ⟨hRB, LG_of h2 (Nat.le_refl _) (hck _ (by omega) (by omega)) (hm _ _ (by omega)), IM_of h3 (hck _ (by omega) (by omega)) (hck _ (by omega) (by omega)) (hck _ (by omega) (by omega)), IS_of h4 (by rw [hck _ (by omega) (by omega)]) (hck _ (by omega) (by omega)) (hck _ (by omega) (by omega)), IR_of h5 (fun k _ _ => hck k (by omega) (by omega)), HI_of h6 (fun k _ _ => hck k (by omega) (by omega)) (hmk _ (by omega)) (hmk _ (by omega)), ?_⟩
  obtain ⟨a1, a2, a3, a4, a5, a6, a7, a8, a9, a10⟩ := h7
  have q : ∀ j, j ≠ 12 → c'.1 B j = c.1 B j := fun j hj => hc B j (Nat.le_refl _) (by omega) (by omega)
  unfold IX
  rw [q 9 (by omega), q 8 (by omega), q 11 (by omega), q 10 (by omega), q 16 (by omega), q 14 (by omega), q 18 (by omega), hck (B + 36) (by omega) (by omega), hm 0 69 (by omega), hmk 22 (by omega), h29]
  exact ⟨a1, a2, a3, h12, a5, a6, a7, a8, a9, a10⟩
theorem BS_rebase {z B n N : Nat} {t : Int32} {c0 m0 c m c' m' : St} (h : BS z B n N t c0 m0 c m) (hc : ∀ k j, B ≤ k → k < B + 38 → ¬ (k = B ∧ j = 12) → c'.1 k j = c.1 k j) (hm : ∀ k j, ¬ (k = 0 ∧ (j = 28 ∨ j = 73)) → m'.1 k j = m.1 k j) (h28 : m'.1 0 28 = nI z) : BS z B n N t c' m' c' m' := by
  obtain ⟨i, hiN, hi, hS⟩ := h
  have h29 : m'.1 0 29 = m0.1 0 29 := by
    have := SI_29 hS
    rw [uI_o (by omega)] at this
    rw [hm 0 29 (by omega)]; exact this
  refine ⟨i, hiN, fun h => hi (by rw [← hc B 11 (Nat.le_refl _) (by omega) (by omega)]; exact h), ?_⟩
  refine SI_rebase hS (fun k j h1 h2 h3 => ?_) (fun k j hn => ?_) ⟨fun k hk => uI_n (by omega), rfl⟩ ⟨fun k j ho => uI_o (fun e => ho (by rw [e.1, e.2]; unfold own; omega)), rfl⟩ h28 h29 (by rw [uI_o (by omega)])
  · rw [uI_g2, uI_g2]
    by_cases e : k = B ∧ j = 10
    · rw [if_pos e, if_pos e]
    · rw [if_neg e, if_neg e]; exact hc k j h1 h2 h3
  · rw [uI_g2, uI_g2]
    by_cases e : k = 0 ∧ j = 69
    · rw [if_pos e, if_pos e]
    · rw [if_neg e, if_neg e]; exact hm k j hn
theorem PX_of {B P b i N o : Nat} {c0 m0 c m : St} (h : PX B P b i N o c0 m0) (hB : 20 ≤ B) (hc : ∀ k, 10 ≤ k → k < 20 → c.1 k = c0.1 k) (h2 : c.2.2 (mq B) = c0.2.2 (mq B)) (hm : ∀ k, 0 < k → k < 13 → m.1 k = m0.1 k) (h14 : m.1 0 14 = m0.1 0 14) (h16 : m.1 0 16 = m0.1 0 16) (h29 : m.1 0 29 = 0 ∨ m.1 0 29 = 1) : PX B P b i N o c m := by
  obtain ⟨p1, p2, p3, p4, p5, p6, p7, p8, p9, p10, p11, p12, p13⟩ := h
  have hl : 10 ≤ P ∧ P < 16 := by rcases p1 with rfl | rfl <;> omega
  refine ⟨p1, h2.trans p2, p3, h14.trans p4, p5, p6, by rw [hc P (by omega) (by omega)]; exact p7, h16.trans p8, by rw [hc _ (by omega) (by omega)]; exact p9, by rw [hm 3 (by omega) (by omega)]; exact p10, p11, h29, fun j hj => ?_⟩
  have := p13 j hj
  unfold kO kE kR kN kL at this ⊢
  rw [hc (P + 2) (by omega) (by omega), hc (P + 3) (by omega) (by omega), hm 4 (by omega) (by omega), hm 5 (by omega) (by omega)]
  exact this
theorem WP_of {B P b N : Nat} {c0 m0 c m : St} (h : WP B P b N c0 m0) (hB : 20 ≤ B) (hc : ∀ k, 10 ≤ k → k < 20 → c.1 k = c0.1 k) (h2 : c.2.2 (mq B) = c0.2.2 (mq B)) (hm : ∀ k, 0 < k → k < 13 → m.1 k = m0.1 k) (h36 : m.1 36 = m0.1 36) (h14 : m.1 0 14 = m0.1 0 14) (h16 : m.1 0 16 = m0.1 0 16) (h55 : m.1 0 55 = m0.1 0 55) (h29 : m.1 0 29 = 0 ∨ m.1 0 29 = 1) : WP B P b N c m := by
  obtain ⟨p1, p2, p3, p4, p5, p6, p7, ⟨I, i1, i2, i3, i4⟩, p9⟩ := h
  have hl : 10 ≤ P ∧ P < 16 := by rcases p1 with rfl | rfl <;> omega
  refine ⟨p1, h2.trans p2, p3, h14.trans p4, p5, by rw [hc P (by omega) (by omega)]; exact p6, h16.trans p7, ⟨I, i1, by rw [hc P (by omega) (by omega)]; exact i2, h55.trans i3, fun j hj => by rw [hc _ (by omega) (by omega), h36]; exact i4 j hj⟩, fun i hi => ?_⟩
  obtain ⟨o, ho⟩ := p9 i hi
  exact ⟨o, PX_of ho hB hc h2 hm h14 h16 h29⟩
/-- an advance as a whole -/
theorem S_advance {z B N P b n V : Nat} {t0 : Int32} {c m : St} (hW : WP B P b N c m) (hV : V ≤ 1000000) (hn : n + 4 * V < 2 ^ 30) (h : BS z B n N t0 c m c m) :
    ∃ v c' m', v ≤ V ∧ f_Ma_advance B (nI V) c = some (nI v, uI c' B 12 (c.1 B 12 + nI v)) ∧ f_Mo_go (nI V) m = some (nI v, m') ∧ BS z B (n + 4 * v) N (t0 + nI v) c m c' m' := by
  have h' := h
  obtain ⟨i, hiN, hi, hS⟩ := h
  have hz := RB_zb hS.1
  have m28 : m.1 0 28 = nI z := by have := RB_z hS.1; rw [uI_o (by omega)] at this; exact this
  have m22 : m.1 22 z = t0 := by have := hS.2.2.2.2.2.2.2.2.2.2.1; rw [uI_n (by omega)] at this; exact this
  have hz0 : t0 + nI 0 = t0 := by rw [nI_0, Int32.add_zero]
  obtain ⟨v, c', m', h0, h1, h2, h3, h4⟩ := S_adv hW hV V 0 n t0 c m (by omega) hn (by rw [hz0]; exact h')
  have h4' := h4
  obtain ⟨i', _, _, hS'⟩ := h4
  have m28' : m'.1 0 28 = nI z := by have := RB_z hS'.1; rw [uI_o (by omega)] at this; exact this
  have m22' : m'.1 22 z = t0 + nI v := by have := hS'.2.2.2.2.2.2.2.2.2.2.1; rw [uI_n (by omega)] at this; exact this
  have c12 : c'.1 B 12 = c.1 B 12 := by have := hS'.2.2.2.2.2.2.2.2.2.1; rw [uI_o (by omega)] at this; exact this
  refine ⟨v, c', m', h1, ?_, ?_, h4'⟩
  · unfold f_Ma_advance
    rw [← nI_0, h2, Option.bind_some, lt_eq]
    dsimp only
    rw [c12]
  · unfold f_Mo_go
    rw [m28, gd_nI hz (by omega), nI_clamp (by omega), m22, lt_eq, h3, Option.bind_some, m28', gd_nI hz (by omega), nI_clamp (by omega), m22', Int32.add_comm t0, Int32.add_sub_cancel]
