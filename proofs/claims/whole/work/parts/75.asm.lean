/-! ===== the assembler's state on both sides ===== -/
def AFc (P : Nat) (c0 c : St) : Prop := (∀ k, k ≠ 2 → k ≠ 3 → k ≠ 6 → k ≠ 8 → k ≠ 9 → k ≠ P → k ≠ P + 1 → k ≠ P + 2 → k ≠ P + 3 → c.1 k = c0.1 k) ∧ c.2.1 4 = c0.2.1 4 ∧ (∀ q, q ≠ 3 → c.2.2 q = c0.2.2 q)
def AFm (b : Nat) (m0 m : St) : Prop := (∀ k, 13 ≤ k → m.1 k = m0.1 k) ∧ m.1 1 = m0.1 1 ∧ m.1 2 = m0.1 2 ∧ (∀ i, i < 200 * b ∨ 200 * b + 200 ≤ i → m.1 3 i = m0.1 3 i) ∧ (∀ i, i < 600 * b ∨ 600 * b + 600 ≤ i → m.1 4 i = m0.1 4 i ∧ m.1 5 i = m0.1 5 i) ∧ (∀ j, j ≠ 15 → j ≠ 17 → j ≠ 18 → ¬ (20 ≤ j ∧ j ≤ 27 ∧ j ≠ 23) → m.1 0 j = m0.1 0 j) ∧ m.2 = m0.2
def BAS (L : Nat) (sg : Nat → Nat) (P b : Nat) (c0 m0 : St) : Prop := isP P ∧ b < 2 ∧ c0.2.2 2 = P ∧ m0.1 0 14 = nI b ∧ TXC L sg c0 ∧ TXM L sg m0 ∧ NM c0
def BA (L : Nat) (sg : Nat → Nat) (P b : Nat) (c0 m0 c m : St) : Prop := BAS L sg P b c0 m0 ∧ AFc P c0 c ∧ AFm b m0 m
def FLT (c m : St) : Prop := c.1 2 10 = m.1 0 20 ∧ c.1 2 11 = m.1 0 21 ∧ c.1 2 12 = m.1 0 22
def kO3 (c m : St) (P b i j k : Nat) : Prop := (k = 1 → ∃ r, kR c m P b i j r) ∧ (k = 2 → ∃ w, kN c m P b i j w) ∧ (k = 3 → kE c m P b i j)
def PI (P b : Nat) (c m : St) (i : Nat) : Prop := ∃ o, o ≤ 50 ∧ c.1 (P + 1) i = nI o ∧ m.1 3 (200 * b + i) = nI o ∧ ∀ j, j < 3 → kO3 c m P b i j (fm o j)
def UX (sg : Nat → Nat) (P b i u : Nat) (c m : St) : Prop := ∃ a n o j, WD sg a n ∧ a ≤ 3000 ∧ m.1 9 u = nI a ∧ m.1 10 u = nI n ∧ m.1 11 u = c.1 9 i ∧ m.1 12 u = nI (600 * b + 3 * i + j) ∧ c.2.1 7 i = lN (wn sg a n) ∧ c.1 8 i = nI a ∧ o ≤ 50 ∧ c.1 (P + 1) i = nI o ∧ j < 3 ∧ fm o j = 4
def USE (sg : Nat → Nat) (P b N : Nat) (c m : St) : Prop := ∃ (nu : Nat) (ui : Nat → Nat), nu ≤ N ∧ m.1 0 18 = nI nu ∧ (∀ u, u < nu → ui u < N ∧ UX sg P b (ui u) u c m) ∧ (∀ u v, u < v → v < nu → ui u < ui v) ∧ (∀ i, i < N → c.2.1 7 i ≠ 0 → ∃ u, u < nu ∧ ui u = i) ∧ (∀ i o j, i < N → o ≤ 50 → c.1 (P + 1) i = nI o → j < 3 → fm o j = 4 → c.2.1 7 i ≠ 0)
/-- what is common to a line's state and to that within an instruction -/
def AC (L : Nat) (sg : Nat → Nat) (P b : Nat) (c0 m0 : St) (N nl : Nat) (c m : St) : Prop := BA L sg P b c0 m0 c m ∧ c.1 P 3 = nI N ∧ m.1 0 15 = nI N ∧ c.1 P 5 = 0 ∧ m.1 0 20 = 0 ∧ FLT c m ∧ c.1 2 8 = m.1 0 23 ∧ (∀ i, i < N → PI P b c m i) ∧ LBL sg N nl c m
def AR (L : Nat) (sg : Nat → Nat) (P b : Nat) (c0 m0 : St) (N nl : Nat) (c m : St) : Prop := AC L sg P b c0 m0 N nl c m ∧ USE sg P b N c m
/-- an instruction under way: j of its operands are read -/
def BI (sg : Nat → Nat) (P b N o j : Nat) (c m : St) : Prop := o ≤ 50 ∧ c.1 (P + 1) N = nI o ∧ m.1 3 (200 * b + N) = nI o ∧ (∀ j', j' < j → kO3 c m P b N j' (fm o j')) ∧ (c.1 (P + 3) N = 0 ∨ (c.1 (P + 3) N = 1 ∧ ∃ j', j' < j ∧ fm o j' = 3)) ∧ ((USE sg P b N c m ∧ c.2.1 7 N = 0 ∧ ∀ j', j' < j → fm o j' ≠ 4) ∨ (USE sg P b (N + 1) c m ∧ ∃ j', j' < j ∧ fm o j' = 4))
def AB (L : Nat) (sg : Nat → Nat) (P b : Nat) (c0 m0 : St) (N nl o j : Nat) (c m : St) : Prop := AC L sg P b c0 m0 N nl c m ∧ BI sg P b N o j c m
def FL (L : Nat) (sg : Nat → Nat) (P b : Nat) (c0 m0 c m : St) : Prop := BA L sg P b c0 m0 c m ∧ FLT c m ∧ 0 < m.1 0 20
section AS
variable {L : Nat} {sg : Nat → Nat} {P b : Nat} {c0 m0 c m c' m' : St} {N nl o j : Nat}
theorem BA_i (h : BA L sg P b c0 m0 c m) : (P = 10 ∨ P = 15) ∧ b < 2 := ⟨h.1.1, h.1.2.1⟩
theorem BA_C (h : BA L sg P b c0 m0 c m) : TXC L sg c := by
  have := BA_i h
  exact TXC_of h.1.2.2.2.2.1 (h.2.1.1 1 (by omega) (by omega) (by omega) (by omega) (by omega) (by omega) (by omega) (by omega) (by omega))
theorem BA_M (h : BA L sg P b c0 m0 c m) : TXM L sg m := TXM_of h.1.2.2.2.2.2.1 (h.2.2.2.2.2.2.2.1 3 (by omega) (by omega) (by omega) (by omega)) h.2.2.2.2.1
theorem BA_N (h : BA L sg P b c0 m0 c m) : NM c := by
  intro k hk
  rw [h.2.1.2.1]; exact h.1.2.2.2.2.2.2 k hk
theorem BA_P (h : BA L sg P b c0 m0 c m) : c.2.2 2 = P := (h.2.1.2.2 2 (by omega)).trans h.1.2.2.1
theorem BA_b (h : BA L sg P b c0 m0 c m) : m.1 0 14 = nI b := (h.2.2.2.2.2.2.2.1 14 (by omega) (by omega) (by omega) (by omega)).trans h.1.2.2.2.1
theorem BA_SF (h : BA L sg P b c0 m0 c m) (hS : SF c c') (hM : MF m m') : BA L sg P b c0 m0 c' m' := by
  obtain ⟨h1, ⟨a1, a2, a3⟩, ⟨b1, b2, b3, b4, b5, b6, b7⟩⟩ := h
  refine ⟨h1, ⟨fun k x2 x3 x6 x8 x9 y0 y1 y2 y3 => (hS.1 k x3).trans (a1 k x2 x3 x6 x8 x9 y0 y1 y2 y3), (hS.2.1 4 (by omega)).trans a2, fun q hq => by rw [hS.2.2.1]; exact a3 q hq⟩, ⟨fun k hk => (hM.1 k (by omega)).trans (b1 k hk), (hM.1 1 (by omega)).trans b2, (hM.1 2 (by omega)).trans b3, fun i hi => by rw [hM.1 3 (by omega)]; exact b4 i hi, fun i hi => by rw [hM.1 4 (by omega), hM.1 5 (by omega)]; exact b5 i hi, fun j x1 x2 x3 x4 => (hM.2.1 j (by omega)).trans (b6 j x1 x2 x3 x4), hM.2.2.trans b7⟩⟩
theorem BA_c (h : BA L sg P b c0 m0 c m) {k i : Nat} {v : Int32} (hk : k = 2 ∨ k = 3 ∨ k = 6 ∨ k = 8 ∨ k = 9 ∨ k = P ∨ k = P + 1 ∨ k = P + 2 ∨ k = P + 3) : BA L sg P b c0 m0 (uI c k i v) m :=
  ⟨h.1, ⟨fun k' x2 x3 x6 x8 x9 y0 y1 y2 y3 => by rw [uI_n (by omega)]; exact h.2.1.1 k' x2 x3 x6 x8 x9 y0 y1 y2 y3, h.2.1.2.1, h.2.1.2.2⟩, h.2.2⟩
theorem BA_J (h : BA L sg P b c0 m0 c m) {k i : Nat} {v : Int64} (hk : k ≠ 4) : BA L sg P b c0 m0 (uJ c k i v) m :=
  ⟨h.1, ⟨h.2.1.1, by rw [uJ_n (Ne.symm hk)]; exact h.2.1.2.1, h.2.1.2.2⟩, h.2.2⟩
theorem BA_m (h : BA L sg P b c0 m0 c m) {k i : Nat} {v : Int32} (hk : (k = 0 ∧ (i = 15 ∨ i = 17 ∨ i = 18 ∨ (20 ≤ i ∧ i ≤ 27 ∧ i ≠ 23))) ∨ (6 ≤ k ∧ k ≤ 12) ∨ (k = 3 ∧ 200 * b ≤ i ∧ i < 200 * b + 200) ∨ ((k = 4 ∨ k = 5) ∧ 600 * b ≤ i ∧ i < 600 * b + 600)) : BA L sg P b c0 m0 c (uI m k i v) := by
  obtain ⟨h1, h2, ⟨b1, b2, b3, b4, b5, b6, b7⟩⟩ := h
  refine ⟨h1, h2, ⟨fun k' hk' => by rw [uI_n (by omega)]; exact b1 k' hk', by rw [uI_n (by omega)]; exact b2, by rw [uI_n (by omega)]; exact b3, fun i' hi => by rw [uI_o (by omega)]; exact b4 i' hi, fun i' hi => by rw [uI_o (by omega), uI_o (by omega)]; exact b5 i' hi, fun j x1 x2 x3 x4 => by rw [uI_o (by omega)]; exact b6 j x1 x2 x3 x4, b7⟩⟩
/-- preservation: the cells that count are the same -/
theorem kO3_of {i k : Nat} (h : kO3 c m P b i j k) (e2 : c'.1 (P + 2) (3 * i + j) = c.1 (P + 2) (3 * i + j)) (e3 : c'.1 (P + 3) i = 0 ↔ c.1 (P + 3) i = 0) (f4 : m'.1 4 (600 * b + 3 * i + j) = m.1 4 (600 * b + 3 * i + j)) (f5 : m'.1 5 (600 * b + 3 * i + j) = m.1 5 (600 * b + 3 * i + j)) : kO3 c' m' P b i j k := by
  unfold kO3 kE kR kN at h ⊢
  have e3' : c'.1 (P + 3) i ≠ 0 ↔ c.1 (P + 3) i ≠ 0 := not_congr e3
  rw [e2, f4, f5, e3', e3]
  exact h
theorem PI_of {i : Nat} (h : PI P b c m i) (e1 : c'.1 (P + 1) i = c.1 (P + 1) i) (e2 : ∀ j, j < 3 → c'.1 (P + 2) (3 * i + j) = c.1 (P + 2) (3 * i + j)) (e3 : c'.1 (P + 3) i = c.1 (P + 3) i) (f3 : m'.1 3 (200 * b + i) = m.1 3 (200 * b + i)) (f4 : ∀ j, j < 3 → m'.1 4 (600 * b + 3 * i + j) = m.1 4 (600 * b + 3 * i + j)) (f5 : ∀ j, j < 3 → m'.1 5 (600 * b + 3 * i + j) = m.1 5 (600 * b + 3 * i + j)) : PI P b c' m' i := by
  obtain ⟨o, h1, h2, h3, h4⟩ := h
  exact ⟨o, h1, e1.trans h2, f3.trans h3, fun j hj => kO3_of (h4 j hj) (e2 j hj) (by rw [e3]) (f4 j hj) (f5 j hj)⟩
theorem LBL_of (h : LBL sg N nl c m) (e4 : c'.1 2 4 = c.1 2 4) (e5 : c'.2.1 5 = c.2.1 5) (e6 : c'.1 6 = c.1 6) (f17 : m'.1 0 17 = m.1 0 17) (f6 : m'.1 6 = m.1 6) (f7 : m'.1 7 = m.1 7) (f8 : m'.1 8 = m.1 8) : LBL sg N nl c' m' := by
  unfold LBL
  rw [e4, e5, e6, f17, f6, f7, f8]; exact h
theorem LBL_up (h : LBL sg N nl c m) {N' : Nat} (hN : N ≤ N') : LBL sg N' nl c m := by
  obtain ⟨h1, h2, h3, h4⟩ := h
  refine ⟨h1, h2, h3, fun i hi => ?_⟩
  obtain ⟨a, n, t, b1, b2, b3, b4, b5, b6, b7⟩ := h4 i hi
  exact ⟨a, n, t, b1, b2, b3, b4, b5, by omega, b7⟩
theorem USE_of (h : USE sg P b N c m) (e1 : ∀ i, i < N → c'.1 (P + 1) i = c.1 (P + 1) i) (e7 : ∀ i, i < N → c'.2.1 7 i = c.2.1 7 i) (e8 : ∀ i, i < N → c'.1 8 i = c.1 8 i) (e9 : ∀ i, i < N → c'.1 9 i = c.1 9 i) (f18 : m'.1 0 18 = m.1 0 18) (f9 : m'.1 9 = m.1 9) (f10 : m'.1 10 = m.1 10) (f11 : m'.1 11 = m.1 11) (f12 : m'.1 12 = m.1 12) : USE sg P b N c' m' := by
  obtain ⟨nu, ui, h1, h2, h3, h4, h5, h6⟩ := h
  refine ⟨nu, ui, h1, f18.trans h2, fun u hu => ?_, h4, fun i hi hw => h5 i hi (by rw [← e7 i hi]; exact hw), fun i o j hi ho h hj hf => by rw [e7 i hi]; exact h6 i o j hi ho (by rw [← e1 i hi]; exact h) hj hf⟩
  obtain ⟨a1, a, n, o, j, g1, g2, g3, g4, g5, g6, g7, g8, g9, g10, g11⟩ := h3 u hu
  exact ⟨a1, a, n, o, j, g1, g2, by rw [f9]; exact g3, by rw [f10]; exact g4, by rw [f11, e9 _ a1]; exact g5, by rw [f12]; exact g6, (e7 _ a1).trans g7, (e8 _ a1).trans g8, g9, (e1 _ a1).trans g10, g11⟩
theorem AC_SF (h : AC L sg P b c0 m0 N nl c m) (hS : SF c c') (hM : MF m m') : AC L sg P b c0 m0 N nl c' m' := by
  obtain ⟨h1, h2, h3, h4, h5, h6, h7, h8, h9⟩ := h
  have hP := BA_i h1
  refine ⟨BA_SF h1 hS hM, by rw [hS.1 P (by omega)]; exact h2, (hM.2.1 15 (by omega)).trans h3, by rw [hS.1 P (by omega)]; exact h4, (hM.2.1 20 (by omega)).trans h5, ?_, ?_, fun i hi => PI_of (h8 i hi) (by rw [hS.1 (P + 1) (by omega)]) (fun j _ => by rw [hS.1 (P + 2) (by omega)]) (by rw [hS.1 (P + 3) (by omega)]) (by rw [hM.1 3 (by omega)]) (fun j _ => by rw [hM.1 4 (by omega)]) (fun j _ => by rw [hM.1 5 (by omega)]), LBL_of h9 (by rw [hS.1 2 (by omega)]) (hS.2.1 5 (by omega)) (hS.1 6 (by omega)) (hM.2.1 17 (by omega)) (hM.1 6 (by omega)) (hM.1 7 (by omega)) (hM.1 8 (by omega))⟩
  · unfold FLT; rw [hS.1 2 (by omega), hM.2.1 20 (by omega), hM.2.1 21 (by omega), hM.2.1 22 (by omega)]; exact h6
  · rw [hS.1 2 (by omega), hM.2.1 23 (by omega)]; exact h7
theorem USE_SF (hP : P = 10 ∨ P = 15) (h : USE sg P b N c m) (hS : SF c c') (hM : MF m m') : USE sg P b N c' m' :=
  USE_of h (fun i _ => by rw [hS.1 (P + 1) (by omega)]) (fun i _ => by rw [hS.2.1 7 (by omega)]) (fun i _ => by rw [hS.1 8 (by omega)]) (fun i _ => by rw [hS.1 9 (by omega)]) (hM.2.1 18 (by omega)) (hM.1 9 (by omega)) (hM.1 10 (by omega)) (hM.1 11 (by omega)) (hM.1 12 (by omega))
theorem AR_SF (h : AR L sg P b c0 m0 N nl c m) (hS : SF c c') (hM : MF m m') : AR L sg P b c0 m0 N nl c' m' := ⟨AC_SF h.1 hS hM, USE_SF (BA_i h.1.1).1 h.2 hS hM⟩
theorem AB_SF (h : AB L sg P b c0 m0 N nl o j c m) (hS : SF c c') (hM : MF m m') : AB L sg P b c0 m0 N nl o j c' m' := by
  obtain ⟨h1, b0, b1, b2, b3, b4, b5⟩ := h
  have hP := (BA_i h1.1).1
  refine ⟨AC_SF h1 hS hM, b0, by rw [hS.1 (P + 1) (by omega)]; exact b1, by rw [hM.1 3 (by omega)]; exact b2, fun j' hj' => kO3_of (b3 j' hj') (by rw [hS.1 (P + 2) (by omega)]) (by rw [hS.1 (P + 3) (by omega)]) (by rw [hM.1 4 (by omega)]) (by rw [hM.1 5 (by omega)]), by rw [hS.1 (P + 3) (by omega)]; exact b4, ?_⟩
  rcases b5 with ⟨a1, a2, a3⟩ | ⟨a1, a2⟩
  · exact .inl ⟨USE_SF hP a1 hS hM, by rw [hS.2.1 7 (by omega)]; exact a2, a3⟩
  · exact .inr ⟨USE_SF hP a1 hS hM, a2⟩
/-- a refusal -/
theorem as_refuse (h : BA L sg P b c0 m0 c m) (h20 : m.1 0 20 = 0) {k q l : Int32} (hk : 0 < k) (hl : m.1 0 23 = l) : ∃ c' m', f_As_refuse k q l c = some c' ∧ f_Mo_fails k q m = some (0, m') ∧ FL L sg P b c0 m0 c' m' ∧ c'.1 3 = c.1 3 ∧ m'.1 0 26 = m.1 0 26 := by
  refine ⟨uI (uI (uI c 2 10 k) 2 11 q) 2 12 l, uI (uI (uI m 0 20 k) 0 21 q) 0 22 l, ?_, ?_, ⟨BA_m (BA_m (BA_m (BA_c (BA_c (BA_c h (by omega)) (by omega)) (by omega)) (by omega)) (by omega)) (by omega), ⟨?_, ?_, ?_⟩, ?_⟩, ?_, ?_⟩
  · unfold f_As_refuse
    rw [lt_eq, lt_eq, lt_eq]
  · unfold f_Mo_fails
    rw [if_pos h20, lt_eq, lt_eq, lt_eq, uI_o (by omega), uI_o (by omega), hl]
  · rw [uI_o (by omega), uI_o (by omega), uI_v, uI_o (by omega), uI_o (by omega), uI_v]
  · rw [uI_o (by omega), uI_v, uI_o (by omega), uI_v]
  · rw [uI_v, uI_v]
  · rw [uI_o (by omega), uI_o (by omega), uI_v]; exact hk
  · rw [uI_n (by omega), uI_n (by omega), uI_n (by omega)]
  · rw [uI_o (by omega), uI_o (by omega), uI_o (by omega)]
theorem as_wrong (h : BA L sg P b c0 m0 c m) (h20 : m.1 0 20 = 0) (hk : c.1 3 3 = 5 ↔ m.1 0 24 = 1) (h4 : c.1 3 4 = m.1 0 25) (h8 : c.1 2 8 = m.1 0 23) : ∃ c' m' w, f_As_refusePiece c = some (0, c') ∧ f_Mo_wrong m = some (w, m') ∧ FL L sg P b c0 m0 c' m' := by
  unfold f_As_refusePiece f_Mo_wrong f_As_refusePiece_J17 f_Mo_wrong_J14
  by_cases e : c.1 3 3 = 5
  · obtain ⟨c', m', a1, a2, a3, _⟩ := as_refuse h h20 (k := 1) (q := c.1 3 4) (by decide) h8.symm
    rw [if_pos e, if_pos (hk.mp e), a1, ← h4, a2]
    exact ⟨c', m', _, rfl, rfl, a3⟩
  · obtain ⟨c', m', a1, a2, a3, _⟩ := as_refuse h h20 (k := 2) (q := c.1 3 4) (by decide) h8.symm
    rw [if_neg e, if_neg (fun h => e (hk.mpr h)), a1, ← h4, a2]
    exact ⟨c', m', _, rfl, rfl, a3⟩
theorem TK_bad {e q : Nat} (h : TK sg e q c m) : c.1 3 3 = 5 ↔ m.1 0 24 = 1 := by
  rcases h with ⟨a, b, _⟩ | ⟨n, _, _, a, b, _⟩ | ⟨r, _, _, a, b, _⟩ | ⟨_, a, b, _⟩ | ⟨_, a, b, _⟩ | ⟨a, b⟩ <;> rw [a, b] <;> decide
end AS
