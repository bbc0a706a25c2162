/-! ===== assemble: what a refused text leaves, what a right one gives ===== -/
theorem Rel_fail {c m c' m' : St} {b : Nat} (h : Rel c m) (hbm : m.1 0 14 = nI b) (hb2 : b < 2) (hT : TA c' m') (hc : ∀ k, 10 ≤ k → k ≠ c.2.2 1 → k ≠ c.2.2 1 + 1 → k ≠ c.2.2 1 + 2 → k ≠ c.2.2 1 + 3 → c'.1 k = c.1 k) (h05 : c'.1 0 5 = c.1 0 5) (h08 : c'.1 0 8 = c.1 0 8) (h2 : ∀ q, q = 0 ∨ q = 1 ∨ q = 4 → c'.2.2 q = c.2.2 q) (hmk : ∀ k, 13 ≤ k → m'.1 k = m.1 k) (hm3 : ∀ i, i < 200 * (1 - b) ∨ 200 * (1 - b) + 200 ≤ i → m'.1 3 i = m.1 3 i) (hm45 : ∀ i, i < 600 * (1 - b) ∨ 600 * (1 - b) + 600 ≤ i → m'.1 4 i = m.1 4 i ∧ m'.1 5 i = m.1 5 i) (hm0 : ∀ j, j = 14 ∨ j = 16 ∨ j = 19 ∨ j = 28 ∨ j = 29 ∨ j = 55 ∨ j = 56 ∨ (61 ≤ j ∧ j ≤ 64) ∨ j = 68 ∨ j = 73 → m'.1 0 j = m.1 0 j) : Rel c' m' := by
  obtain ⟨_, sp, b', w0, w1, ⟨hs, h73, h8, hb, h14, h28, hP, hR0, hR1, hs0, hs1⟩, hL⟩ := h
  have hbb : b' = b := by
    rw [h14] at hbm
    exact (nI_eq (by omega) (by omega)).mp hbm
  subst hbb
  have hPP : (c.2.2 0 = 10 ∧ c.2.2 1 = 15) ∨ (c.2.2 0 = 15 ∧ c.2.2 1 = 10) := hP
  have c20 : ∀ k, 20 ≤ k → c'.1 k = c.1 k := fun k hk => hc k (by omega) (by omega) (by omega) (by omega) (by omega)
  have hrl : ∀ z k j, rlv z k j → ¬ (k = 0 ∧ j = 69) → m'.1 k j = m.1 k j := by
    intro z k j hr hn
    unfold rlv at hr
    by_cases k0 : k = 0
    · subst k0; exact hm0 j (by omega)
    · rw [hmk k (by omega)]
  refine ⟨hT, sp, b', w0, w1, ⟨hs, ?_, by rw [h08]; exact h8, hb, ?_, ?_, ?_, R1_blind (by omega) hR0 (fun k h1 _ => c20 k (by omega)) (hrl 0), R1_blind (by omega) hR1 (fun k h1 _ => c20 k (by omega)) (hrl 1), by rw [c20 _ (by omega)]; exact hs0, by rw [c20 _ (by omega)]; exact hs1⟩, ?_⟩
  · rw [hm0 73 (by omega)]; exact h73
  · rw [hm0 14 (by omega)]; exact h14
  · rw [hm0 28 (by omega)]; exact h28
  · unfold PT; rw [h2 0 (by omega), h2 1 (by omega)]; exact hP
  rcases hL with ⟨l1, l2, l3, l4⟩ | ⟨l1, l2, N, n, stp, hW, hB, hn, hst, h12, h29⟩
  · exact .inl ⟨by rw [h05]; exact l1, by rw [hm0 19 (by omega)]; exact l2, by rw [hm0 61 (by omega)]; exact l3, by rw [hm0 56 (by omega)]; exact l4⟩
  · right
    refine ⟨by rw [h05]; exact l1, by rw [hm0 19 (by omega)]; exact l2, N, n, stp, ?_, ?_, hn, hst, by rw [c20 20 (by omega)]; exact h12, by rw [hm0 29 (by omega)]; exact h29⟩
    · rw [h2 0 (by omega)]
      obtain ⟨p1, p2, p3, p4, p5, p6, p7, ⟨I, i1, i2, i3, i4⟩, p9⟩ := hW
      have q4 : c'.2.2 (mq 20) = c.2.2 (mq 20) := h2 4 (by omega)
      have cP : ∀ k, c.2.2 0 ≤ k → k < c.2.2 0 + 5 → c'.1 k = c.1 k := fun k x y => hc k (by omega) (by omega) (by omega) (by omega) (by omega)
      refine ⟨p1, q4.trans p2, p3, (hm0 14 (by omega)).trans p4, p5, by rw [cP _ (by omega) (by omega)]; exact p6, (hm0 16 (by omega)).trans p7, ⟨I, i1, by rw [cP _ (by omega) (by omega)]; exact i2, (hm0 55 (by omega)).trans i3, fun j hj => by rw [cP _ (by omega) (by omega), hmk 36 (by omega)]; exact i4 j hj⟩, fun i hi => ?_⟩
      obtain ⟨o, p1, p2, p3, p4, p5, p6, p7, p8, p9, p10, p11, p12, p13⟩ := p9 i hi
      refine ⟨o, p1, q4.trans p2, p3, (hm0 14 (by omega)).trans p4, p5, p6, by rw [cP _ (by omega) (by omega)]; exact p7, (hm0 16 (by omega)).trans p8, by rw [cP _ (by omega) (by omega)]; exact p9, by rw [hm3 _ (by omega)]; exact p10, p11, by rw [hm0 29 (by omega)]; exact p12, fun j hj => ?_⟩
      have := p13 j hj
      unfold kO kE kR kN kL at this ⊢
      rw [cP (c.2.2 0 + 2) (by omega) (by omega), cP (c.2.2 0 + 3) (by omega) (by omega), (hm45 (600 * b' + 3 * i + j) (by omega)).1, (hm45 (600 * b' + 3 * i + j) (by omega)).2]
      exact this
    · exact BS_rebase3 hB (fun k j h1 h2 _ => by rw [c20 k (by omega)]) (hrl 0) (by rw [hm0 28 (by omega)]; exact h28)
/-- from lines to labels -/
theorem RS_of {L : Nat} {sg : Nat → Nat} {P b N nl : Nat} {c0 m0 c m : St} {v : Int32} (h : AR L sg P b c0 m0 N nl (uI c 2 8 v) m) (hN : N ≤ 200) : ∃ nu ui, RS L sg P b N nl nu ui 0 c m := by
  obtain ⟨⟨h1, h2, h3, h4, h5, h6, h7, h8, h9⟩, hU⟩ := h
  have hP := BA_i h1
  have ck : ∀ k, k ≠ 2 → c.1 k = (uI c 2 8 v).1 k := fun k hk => (uI_n hk).symm
  have c2 : ∀ i, i ≠ 8 → c.1 2 i = (uI c 2 8 v).1 2 i := fun i hi => (uI_o (by omega)).symm
  have hU2 : USE sg P b N c m := USE_of hU (fun i _ => by rw [ck (P + 1) (by omega)]) (fun i _ => rfl) (fun i _ => by rw [ck 8 (by omega)]) (fun i _ => by rw [ck 9 (by omega)]) rfl rfl rfl rfl rfl
  obtain ⟨nu, ui, u⟩ := hU2
  refine ⟨nu, ui, BA_M h1, h1.1.1, hP.2, hN, (show (uI c 2 8 v).2.2 2 = P from BA_P h1), by rw [ck P (by omega)]; exact h2, by rw [ck P (by omega)]; exact h4, h3, h5, ?_, fun i hi => PI_of (h8 i hi) (by rw [ck (P + 1) (by omega)]) (fun j _ => by rw [ck (P + 2) (by omega)]) (by rw [ck (P + 3) (by omega)]) rfl (fun _ _ => rfl) (fun _ _ => rfl), LBL_of h9 (c2 4 (by omega)) rfl (ck 6 (by omega)) rfl rfl rfl rfl, u, fun i' o j hi' => absurd hi' (by omega)⟩
  unfold FLT; rw [c2 10 (by omega), c2 11 (by omega), c2 12 (by omega)]; exact h6
/-- the program that stands -/
theorem PX_done {L : Nat} {sg : Nat → Nat} {P b N nl nu : Nat} {ui : Nat → Nat} {c m c' m' : St} (h : RS L sg P b N nl nu ui N c m) (hq : c'.2.2 (mq 20) = P) (hc : ∀ k, 10 ≤ k → k < 20 → c'.1 k = c.1 k) (hm : ∀ k, 0 < k → k < 13 → m'.1 k = m.1 k) (h14 : m'.1 0 14 = nI b) (h16 : m'.1 0 16 = nI N) (h29 : m'.1 0 29 = 0 ∨ m'.1 0 29 = 1) {i : Nat} (hi : i < N) : ∃ o, PX 20 P b i N o c' m' := by
  obtain ⟨hT, hP, hb, hN, h2, h3, h5, h15, h20, hF, hPI, hL, hUU, hD⟩ := h
  have hPP : P = 10 ∨ P = 15 := hP
  obtain ⟨o, x1, x2, x3, x4⟩ := hPI i hi
  refine ⟨o, hP, hq, hb, h14, hi, hN, by rw [hc P (by omega) (by omega)]; exact h3, h16, by rw [hc (P + 1) (by omega) (by omega)]; exact x2, by rw [hm 3 (by omega) (by omega)]; exact x3, x1, h29, fun j hj => ?_⟩
  have q2 := hc (P + 2) (by omega) (by omega)
  have q3 := hc (P + 3) (by omega) (by omega)
  have q4 := hm 4 (by omega) (by omega)
  have q5 := hm 5 (by omega) (by omega)
  have hk := x4 j hj
  have hd := fun hf => hD i o j hi x1 x2 hj hf
  unfold kO3 kE kR kN at hk
  unfold kL at hd
  unfold kO kE kR kN kL
  rw [q2, q3, q4, q5]
  exact ⟨hk.1, hk.2.1, hk.2.2, hd⟩
theorem LH_0 {TL : Nat} {sg : Nat → Nat} {P b : Nat} {c m : St} (hP : isP P) (hb : b < 2) (h2 : c.2.2 2 = P) (h14 : m.1 0 14 = nI b) (hC : TXC TL sg c) (hM : TXM TL sg m) (hN : NM c) (p3 : c.1 P 3 = 0) (p5 : c.1 P 5 = 0) (m15 : m.1 0 15 = 0) (m17 : m.1 0 17 = 0) (m18 : m.1 0 18 = 0) (m20 : m.1 0 20 = 0) (hF : FLT c m) (m23 : m.1 0 23 = 1) (m26 : m.1 0 26 = 0) (c4 : c.1 2 4 = 0) (c8 : c.1 2 8 = 0) : LH TL sg P b 0 0 0 0 c m := by
  have hPP : P = 10 ∨ P = 15 := hP
  refine ⟨⟨⟨⟨⟨hP, hb, h2, h14, TXC_of hC (uI_n (by omega)), hM, hN⟩, AFc_rf, AFm_rf⟩, by rw [uI_n (by omega)]; exact p3, m15, by rw [uI_n (by omega)]; exact p5, m20, ?_, ?_, fun i hi => absurd hi (by omega), ⟨by omega, by rw [uI_o (by omega)]; exact c4, m17, fun i hi => absurd hi (by omega)⟩⟩, ⟨0, fun _ => 0, by omega, m18, fun u hu => absurd hu (by omega), fun u v _ hv => absurd hv (by omega), fun i hi => absurd hi (by omega), fun i o j hi => absurd hi (by omega)⟩⟩, c8, m23, m26, by omega, by omega, rfl, by omega, by omega⟩
  · unfold FLT at hF ⊢; rw [uI_o (by omega), uI_o (by omega), uI_o (by omega)]; exact hF
  · rw [uI_v, m23]; rfl
