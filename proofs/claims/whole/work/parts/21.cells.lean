/-! ===== the machine's cells: the machine at B in the bench, the half z of the reference ===== -/
def phi (z d j : Nat) : Option (Nat × Nat) :=
  if d = 0 then (if j = 10 then some (20, z) else if j = 11 then some (21, z) else if j = 13 then some (23, z) else if j = 14 then some (27, z) else if j = 16 then some (26, z) else if j = 18 ∧ z = 0 then some (0, 56) else none)
  else if d = 1 then (if j = 4 then some (24, z) else none)
  else if d < 6 then (if j < 4096 then some (14 + d, 4096 * z + j) else none)
  else if d = 6 then (if j = 5 then some (34, z) else none)
  else if d < 12 then (if j < 101 then some (21 + d, 101 * z + j) else none)
  else if d = 17 then (if z = 0 then (if j = 4 then some (0, 61) else if j = 5 then some (0, 62) else if j = 6 then some (0, 63) else if j = 10 then some (0, 68) else none) else none)
  else if 18 ≤ d ∧ d < 22 then (if z = 0 ∧ j < 60 then some (20 + d, j) else none)
  else if 22 ≤ d ∧ d < 25 then (if z = 0 ∧ j < 20 then some (20 + d, j) else none)
  else if 26 ≤ d ∧ d < 34 then (if j < 3 then some (13 + j, 8 * z + (d - 26)) else none)
  else if d = 36 then (if j < 32 then some (25, 32 * z + j) else none)
  else if d = 37 then (if z = 0 ∧ j < 100 then some (37, j) else none)
  else none
def psi (z k i : Nat) : Nat × Nat :=
  if k = 0 then (if i = 56 then (0, 18) else (17, if i = 61 then 4 else if i = 62 then 5 else if i = 63 then 6 else 10))
  else if k < 16 then (26 + (i - 8 * z), k - 13)
  else if k < 20 then (k - 14, i - 4096 * z)
  else if k = 20 then (0, 10) else if k = 21 then (0, 11) else if k = 23 then (0, 13) else if k = 24 then (1, 4)
  else if k = 25 then (36, i - 32 * z) else if k = 26 then (0, 16) else if k = 27 then (0, 14)
  else if k < 33 then (k - 21, i - 101 * z) else if k = 34 then (6, 5) else if k = 37 then (37, i) else (k - 20, i)
set_option maxHeartbeats 4000000 in
theorem psi_phi {z d j : Nat} {q : Nat × Nat} (h : phi z d j = some q) : psi z q.1 q.2 = (d, j) := by
  obtain ⟨k, i⟩ := q
  simp only
  unfold phi at h
  unfold psi
  grind (splits := 40)
def R1 (z B : Nat) (c m : St) : Prop := ∀ d j q, phi z d j = some q → c.1 (B + d) j = m.1 q.1 q.2
theorem uI_o {s : St} {k j k' j' : Nat} {v : Int32} (h : ¬ (k' = k ∧ j' = j)) : (uI s k j v).1 k' j' = s.1 k' j' := by
  rw [uI_g]
  split
  · next e => subst e; exact upd_n (fun e2 => h ⟨rfl, e2⟩)
  · rfl
theorem uI_g2 {s : St} {k j k' j' : Nat} {v : Int32} : (uI s k j v).1 k' j' = if k' = k ∧ j' = j then v else s.1 k' j' := by
  split
  · next e => rw [e.1, e.2, uI_e, upd_e]
  · next e => exact uI_o e
theorem uI_v {s : St} {k j : Nat} {v : Int32} : (uI s k j v).1 k j = v := by rw [uI_e, upd_e]
theorem R1_set {z B : Nat} {c m : St} {v : Int32} (h : R1 z B c m) {d j k i : Nat} (hq : phi z d j = some (k, i)) : R1 z B (uI c (B + d) j v) (uI m k i v) := by
  intro d' j' q' hq'
  by_cases e : d' = d ∧ j' = j
  · obtain ⟨rfl, rfl⟩ := e
    rw [hq] at hq'; cases hq'
    rw [uI_v, uI_v]
  · have h2 : ¬ (q'.1 = k ∧ q'.2 = i) := by
      rintro ⟨h1, h2⟩
      have a := psi_phi hq
      have b := psi_phi hq'
      rw [h1, h2] at b
      rw [a] at b
      simp only [Prod.mk.injEq] at b
      exact e ⟨b.1.symm, b.2.symm⟩
    rw [uI_o (fun e2 => e ⟨by omega, e2.2⟩), uI_o h2]
    exact h d' j' q' hq'
theorem R1_c {z B : Nat} {c m : St} {v : Int32} (h : R1 z B c m) {d j : Nat} (hq : phi z d j = none) : R1 z B (uI c (B + d) j v) m := by
  intro d' j' q' hq'
  rw [uI_o (fun e => by
    have e1 : d' = d := by omega
    rw [e1, e.2, hq] at hq'; cases hq')]
  exact h d' j' q' hq'
theorem R1_m {z B : Nat} {c m : St} {v : Int32} (h : R1 z B c m) {k i : Nat} (hq : phi z (psi z k i).1 (psi z k i).2 ≠ some (k, i)) : R1 z B c (uI m k i v) := by
  intro d' j' q' hq'
  rw [uI_o (fun e => by
    have e1 : q' = (k, i) := Prod.ext e.1 e.2
    have e2 := psi_phi hq'
    rw [e1] at e2 hq'
    rw [e2] at hq
    exact hq hq')]
  exact h d' j' q' hq'
def Fc (B : Nat) (c0 c : St) : Prop := (∀ k, k < B ∨ B + 38 ≤ k → c.1 k = c0.1 k) ∧ c.2 = c0.2
def own (z k i : Nat) : Prop := (k = 0 ∧ (i = 69 ∨ (z = 0 ∧ (i = 56 ∨ i = 61 ∨ i = 62 ∨ i = 63 ∨ i = 64)))) ∨ (13 ≤ k ∧ k < 16 ∧ 8 * z ≤ i ∧ i < 8 * z + 8) ∨ (16 ≤ k ∧ k < 20 ∧ 4096 * z ≤ i ∧ i < 4096 * z + 4096)
  ∨ ((k = 20 ∨ k = 21 ∨ k = 22 ∨ k = 23 ∨ k = 24 ∨ k = 26 ∨ k = 27 ∨ k = 34 ∨ k = 35) ∧ i = z) ∨ (k = 25 ∧ 32 * z ≤ i ∧ i < 32 * z + 32) ∨ (28 ≤ k ∧ k < 34 ∧ 101 * z ≤ i ∧ i < 101 * z + 101) ∨ (37 ≤ k ∧ k < 42 ∧ z = 0) ∨ (45 ≤ k ∧ k < 48)
def Fm (z : Nat) (m0 m : St) : Prop := (∀ k i, ¬ own z k i → m.1 k i = m0.1 k i) ∧ m.2 = m0.2
def ZB (z B : Nat) : Prop := (z = 0 ∧ B = 20) ∨ (z = 1 ∧ B = 58)
def RB (z B : Nat) (c0 m0 c m : St) : Prop := R1 z B c m ∧ Fc B c0 c ∧ Fm z m0 m ∧ ZB z B ∧ m0.1 0 28 = nI z
theorem RB_eq {z B : Nat} {c0 m0 c m : St} (h : RB z B c0 m0 c m) {d j k i : Nat} (hq : phi z d j = some (k, i)) : c.1 (B + d) j = m.1 k i := h.1 d j _ hq
theorem RB_set {z B : Nat} {c0 m0 c m : St} {v : Int32} (h : RB z B c0 m0 c m) {d j k i : Nat} (hq : phi z d j = some (k, i)) (hd : d < 38) (ho : own z k i) : RB z B c0 m0 (uI c (B + d) j v) (uI m k i v) := by
  obtain ⟨h1, ⟨h2, h3⟩, ⟨h4, h5⟩, h6⟩ := h
  refine ⟨R1_set h1 hq, ⟨fun k' hk => ?_, h3⟩, ⟨fun k' i' hk => ?_, h5⟩, h6⟩
  · rw [uI_n (by omega)]; exact h2 k' hk
  · rw [uI_o (fun e => hk (by rw [e.1, e.2]; exact ho))]; exact h4 k' i' hk
theorem RB_c {z B : Nat} {c0 m0 c m : St} {v : Int32} (h : RB z B c0 m0 c m) {d j : Nat} (hq : phi z d j = none) (hd : d < 38) : RB z B c0 m0 (uI c (B + d) j v) m := by
  obtain ⟨h1, ⟨h2, h3⟩, h6⟩ := h
  refine ⟨R1_c h1 hq, ⟨fun k' hk => ?_, h3⟩, h6⟩
  rw [uI_n (by omega)]; exact h2 k' hk
theorem RB_m {z B : Nat} {c0 m0 c m : St} {v : Int32} (h : RB z B c0 m0 c m) {k i : Nat} (hq : phi z (psi z k i).1 (psi z k i).2 ≠ some (k, i)) (ho : own z k i) : RB z B c0 m0 c (uI m k i v) := by
  obtain ⟨h1, h2, ⟨h4, h5⟩, h6⟩ := h
  refine ⟨R1_m h1 hq, h2, ⟨fun k' i' hk => ?_, h5⟩, h6⟩
  rw [uI_o (fun e => hk (by rw [e.1, e.2]; exact ho))]; exact h4 k' i' hk
theorem RB_0 {z B : Nat} {c0 m0 c m : St} (h : RB z B c0 m0 c m) {k i : Nat} (ho : ¬ own z k i) : m.1 k i = m0.1 k i := h.2.2.1.1 k i ho
theorem RB_z {z B : Nat} {c0 m0 c m : St} (h : RB z B c0 m0 c m) : m.1 0 28 = nI z := (RB_0 h (by unfold own; omega)).trans h.2.2.2.2
theorem RB_zb {z B : Nat} {c0 m0 c m : St} (h : RB z B c0 m0 c m) : z < 2 := by
  have := h.2.2.2.1; unfold ZB at this; omega
theorem RB_B {z B : Nat} {c0 m0 c m : St} (h : RB z B c0 m0 c m) : 20 ≤ B := by
  have := h.2.2.2.1; unfold ZB at this; omega
theorem RB_M {z B : Nat} {c0 m0 c m : St} (h : RB z B c0 m0 c m) : isM B := by
  have := h.2.2.2.1; unfold ZB at this; unfold isM; omega
theorem RB_c2 {z B : Nat} {c0 m0 c m : St} (h : RB z B c0 m0 c m) : c.2 = c0.2 := h.2.1.2
theorem phi_mem {z d a : Nat} (h1 : 2 ≤ d) (h2 : d < 6) (ha : a < 4096) : phi z d a = some (14 + d, 4096 * z + a) := by
  unfold phi; rw [if_neg (by omega), if_neg (by omega), if_pos h2, if_pos ha]
theorem phi_blk {z d a : Nat} (h1 : 7 ≤ d) (h2 : d < 12) (ha : a < 101) : phi z d a = some (21 + d, 101 * z + a) := by
  unfold phi; rw [if_neg (by omega), if_neg (by omega), if_neg (by omega), if_neg (by omega), if_pos h2, if_pos ha]
theorem phi_reg {z r j : Nat} (hr : r < 8) (hj : j < 3) : phi z (26 + r) j = some (13 + j, 8 * z + r) := by
  unfold phi
  rw [if_neg (by omega), if_neg (by omega), if_neg (by omega), if_neg (by omega), if_neg (by omega), if_neg (by omega), if_neg (by omega), if_neg (by omega), if_pos (by omega), if_pos hj]
  simp
theorem phi_call {z j : Nat} (hj : j < 32) : phi z 36 j = some (25, 32 * z + j) := by
  unfold phi; simp [hj]
theorem RB_mem {z B : Nat} {c0 m0 c m : St} (h : RB z B c0 m0 c m) {a : Nat} (ha : a < 4096) : c.1 (B + 2) a = m.1 16 (4096 * z + a) ∧ c.1 (B + 3) a = m.1 17 (4096 * z + a) ∧ c.1 (B + 4) a = m.1 18 (4096 * z + a) ∧ c.1 (B + 5) a = m.1 19 (4096 * z + a) :=
  ⟨RB_eq h (phi_mem (by omega) (by omega) ha), RB_eq h (phi_mem (by omega) (by omega) ha), RB_eq h (phi_mem (by omega) (by omega) ha), RB_eq h (phi_mem (by omega) (by omega) ha)⟩
theorem RB_reg {z B : Nat} {c0 m0 c m : St} (h : RB z B c0 m0 c m) {r : Nat} (hr : r < 8) : c.1 (B + 26 + r) 0 = m.1 13 (8 * z + r) ∧ c.1 (B + 26 + r) 1 = m.1 14 (8 * z + r) ∧ c.1 (B + 26 + r) 2 = m.1 15 (8 * z + r) := by
  rw [Nat.add_assoc]
  exact ⟨RB_eq h (phi_reg hr (by omega)), RB_eq h (phi_reg hr (by omega)), RB_eq h (phi_reg hr (by omega))⟩
theorem RB_setM {z B : Nat} {c0 m0 c m : St} {v : Int32} (h : RB z B c0 m0 c m) {d a : Nat} (h1 : 2 ≤ d) (h2 : d < 6) (ha : a < 4096) : RB z B c0 m0 (uI c (B + d) a v) (uI m (14 + d) (4096 * z + a) v) :=
  RB_set h (phi_mem h1 h2 ha) (by omega) (by unfold own; omega)
theorem RB_setR {z B : Nat} {c0 m0 c m : St} {v : Int32} (h : RB z B c0 m0 c m) {r j : Nat} (hr : r < 8) (hj : j < 3) : RB z B c0 m0 (uI c (B + 26 + r) j v) (uI m (13 + j) (8 * z + r) v) := by
  rw [Nat.add_assoc]; exact RB_set h (phi_reg hr hj) (by omega) (by unfold own; omega)
theorem RB_setB {z B : Nat} {c0 m0 c m : St} {v : Int32} (h : RB z B c0 m0 c m) {d a : Nat} (h1 : 7 ≤ d) (h2 : d < 12) (ha : a < 101) : RB z B c0 m0 (uI c (B + d) a v) (uI m (21 + d) (101 * z + a) v) :=
  RB_set h (phi_blk h1 h2 ha) (by omega) (by unfold own; omega)
