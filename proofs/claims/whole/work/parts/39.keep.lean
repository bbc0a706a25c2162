/-! ===== giving a block back ===== -/
theorem sm_pos {f : Nat → Nat} : ∀ n, 0 < sm f n → ∃ j, 1 ≤ j ∧ j ≤ n ∧ 0 < f j
  | 0, h => absurd h (by show ¬ 0 < 0; omega)
  | n + 1, h => by
    have h' : 0 < sm f n + f (n + 1) := h
    by_cases e : 0 < f (n + 1)
    · exact ⟨n + 1, by omega, by omega, e⟩
    · obtain ⟨j, h1, h2, h3⟩ := sm_pos (f := f) n (by omega); exact ⟨j, h1, by omega, h3⟩
def od (C T : Nat → Nat) : Nat → Nat
  | 0 => 0
  | n + 1 => if C (n + 1) = 1 then (if od C T n = 0 then n + 1 else if T (od C T n) ≤ T (n + 1) then od C T n else n + 1) else od C T n
theorem od_spec {C T : Nat → Nat} : ∀ n, (od C T n = 0 → ∀ i, 1 ≤ i → i ≤ n → C i ≠ 1) ∧ (od C T n ≠ 0 → 1 ≤ od C T n ∧ od C T n ≤ n ∧ C (od C T n) = 1 ∧ ∀ i, 1 ≤ i → i ≤ n → C i = 1 → T (od C T n) ≤ T i)
  | 0 => ⟨fun _ i h1 h2 => by omega, fun h => absurd rfl h⟩
  | n + 1 => by
    obtain ⟨h0, h1⟩ := od_spec (C := C) (T := T) n
    have e : od C T (n + 1) = if C (n + 1) = 1 then (if od C T n = 0 then n + 1 else if T (od C T n) ≤ T (n + 1) then od C T n else n + 1) else od C T n := rfl
    rw [e]
    by_cases g1 : C (n + 1) = 1
    · rw [if_pos g1]
      by_cases g2 : od C T n = 0
      · rw [if_pos g2]
        refine ⟨fun h => by omega, fun _ => ⟨by omega, by omega, g1, fun i hi1 hi2 hC => ?_⟩⟩
        by_cases ei : i = n + 1
        · rw [ei]; exact Nat.le_refl _
        · exact absurd hC (h0 g2 i hi1 (by omega))
      · rw [if_neg g2]
        obtain ⟨a1, a2, a3, a4⟩ := h1 g2
        by_cases g3 : T (od C T n) ≤ T (n + 1)
        · rw [if_pos g3]
          refine ⟨fun h => absurd h g2, fun _ => ⟨a1, by omega, a3, fun i hi1 hi2 hC => ?_⟩⟩
          by_cases ei : i = n + 1
          · rw [ei]; exact g3
          · exact a4 i hi1 (by omega) hC
        · rw [if_neg g3]
          refine ⟨fun h => by omega, fun _ => ⟨by omega, by omega, g1, fun i hi1 hi2 hC => ?_⟩⟩
          by_cases ei : i = n + 1
          · rw [ei]; exact Nat.le_refl _
          · have := a4 i hi1 (by omega) hC; omega
    · rw [if_neg g1]
      refine ⟨fun h i hi1 hi2 => ?_, fun h => ?_⟩
      · by_cases ei : i = n + 1
        · rw [ei]; exact g1
        · exact h0 h i hi1 (by omega)
      · obtain ⟨a1, a2, a3, a4⟩ := h1 h
        refine ⟨a1, by omega, a3, fun i hi1 hi2 hC => ?_⟩
        by_cases ei : i = n + 1
        · rw [ei] at hC; exact absurd hC g1
        · exact a4 i hi1 (by omega) hC
theorem mo_old {z B : Nat} {c0 m0 c m : St} (h : RB z B c0 m0 c m) {k qs qe : Nat} {F S C W Q T : Nat → Nat} (hH : HX z B c m k qs qe F S C W Q) (hT : ∀ j, 1 ≤ j → j ≤ k → C j = 1 → m.1 33 (101 * z + j) = nI (T j) ∧ T j ≤ 200) :
    ∀ d j, j + d = k → wh (fun a : Int32 × Int32 × Int32 => f_Mo_freed_L111_2 a.1 a.2.1 a.2.2 m) (nI (sm (fun i => if C i = 1 then S i else 0) j), nI (od C T j), nI (j + 1)) = some (nI (sm (fun i => if C i = 1 then S i else 0) k), nI (od C T k), nI (k + 1))
  | 0, j, hj => by
    have hz := RB_zb h
    have hk := hH.2.1
    have hk34 : m.1 34 z = nI k := (RB_eq h (show phi z 6 5 = some (34, z) from rfl)).symm.trans hH.1
    have : j = k := by omega
    subst this
    refine wh_inr ?_
    dsimp only
    unfold f_Mo_freed_L111_2
    rw [RB_z h, gd_nI hz (by omega), nI_clamp (by omega), hk34, if_pos (nI_lt (by omega) (by omega))]
  | d + 1, j, hj => by
    have hz := RB_zb h
    have hk := hH.2.1
    have hk34 : m.1 34 z = nI k := (RB_eq h (show phi z 6 5 = some (34, z) from rfl)).symm.trans hH.1
    obtain ⟨e1, e2, e3, e4, e5, e6⟩ := HX_cells h hH (j := j + 1) (by omega) (show j + 1 ≤ k by omega)
    obtain ⟨o0, o1⟩ := od_spec (C := C) (T := T) j
    have hod : od C T j ≤ j := by
      by_cases g : od C T j = 0
      · omega
      · exact (o1 g).2.1
    have es : sm (fun i => if C i = 1 then S i else 0) (j + 1) = sm (fun i => if C i = 1 then S i else 0) j + (if C (j + 1) = 1 then S (j + 1) else 0) := rfl
    have eo : od C T (j + 1) = if C (j + 1) = 1 then (if od C T j = 0 then j + 1 else if T (od C T j) ≤ T (j + 1) then od C T j else j + 1) else od C T j := rfl
    have e : f_Mo_freed_L111_2 (nI (sm (fun i => if C i = 1 then S i else 0) j)) (nI (od C T j)) (nI (j + 1)) m = some (.inl (nI (sm (fun i => if C i = 1 then S i else 0) (j + 1)), nI (od C T (j + 1)), nI (j + 1 + 1))) := by
      unfold f_Mo_freed_L111_2 f_Mo_freed_J193_2 f_Mo_freed_J197_2
      rw [RB_z h, gd_nI hz (by omega), nI_clamp (show z < 2 ^ 31 by omega), hk34, if_neg (nI_nlt (by omega) (by omega)), ix101, ix101, lt_eq, gd_nI (by omega) (by omega), nI_clamp (show 101 * z + (j + 1) < 2 ^ 31 by omega), e3, e2, nI_1, es, eo]
      by_cases g1 : C (j + 1) = 1
      · rw [if_pos (show nI (C (j + 1)) = 1 by rw [g1]; rfl), gd_nI (by omega) (by omega), lt_eq, nI_add, if_pos g1, if_pos g1]
        obtain ⟨t1, t2⟩ := hT (j + 1) (by omega) (by omega) g1
        by_cases g2 : od C T j = 0
        · rw [if_pos (show nI (od C T j) = 0 by rw [g2]; rfl), if_pos g2]
        · obtain ⟨p1, p2, p3, p4⟩ := o1 g2
          obtain ⟨t3, t4⟩ := hT (od C T j) p1 (by omega) p3
          rw [if_neg (nI_ne0 (by omega) (by omega)), if_neg g2, gd_nI (by omega) (by omega), gd_nI (by omega) (by omega), nI_clamp (show 101 * z + od C T j < 2 ^ 31 by omega), t3, t1]
          by_cases g3 : T (od C T j) ≤ T (j + 1)
          · rw [if_pos (nI_le g3 (by omega)), if_pos g3]
          · rw [if_neg (nI_ge (by omega) (by omega)), if_neg g3]
      · rw [if_neg (show ¬ nI (C (j + 1)) = 1 from ne_l (k := 1) (by omega) (by omega) g1), if_neg g1, if_neg g1]; rfl
    rw [wh_inl (by dsimp only; exact e)]
    exact mo_old h hH hT d (j + 1) (by omega)
theorem phi_33 {z i : Nat} : phi z (psi z 33 i).1 (psi z 33 i).2 ≠ some (33, i) := by simp [psi, phi]
theorem phi_35 {z i : Nat} : phi z (psi z 35 i).1 (psi z 35 i).2 ≠ some (35, i) := by simp [psi, phi]
/-- a block is kept: cells -/
def kpC (B : Nat) (c : St) (j qe : Nat) (i kp : Int32) : St := uI (uI (uI (uI (uI c (B + 9) j 1) (B + 11) j i) (B + 6) 10 kp) (B + 13) qe (nI j)) (B + 6) 9 (nI (qe + 1))
def kpM (z : Nat) (m : St) (j qe : Nat) (i : Int32) : St := uI (uI (uI (uI m 30 (101 * z + j) 1) 32 (101 * z + j) i) 35 z (nI (qe + 1))) 33 (101 * z + j) (nI (qe + 1))
theorem RB_kp {z B : Nat} {c0 m0 c m : St} (h : RB z B c0 m0 c m) {j qe : Nat} (hj : j ≤ 100) (i kp : Int32) : RB z B c0 m0 (kpC B c j qe i kp) (kpM z m j qe i) :=
  have h1 : RB z B c0 m0 (uI (uI c (B + 9) j 1) (B + 11) j i) (uI (uI m 30 (101 * z + j) 1) 32 (101 * z + j) i) := RB_setB (RB_setB h (d := 9) (by omega) (by omega) (by omega)) (d := 11) (by omega) (by omega) (by omega)
  have h2 : RB z B c0 m0 (uI (uI c (B + 9) j 1) (B + 11) j i) (kpM z m j qe i) := RB_m (RB_m h1 phi_35 (by unfold own; omega)) phi_33 (by unfold own; omega)
  RB_c (RB_c (RB_c h2 (d := 6) (j := 10) rfl (by omega)) (d := 13) (by simp [phi]) (by omega)) (d := 6) (j := 9) rfl (by omega)
theorem kpC_n {B : Nat} {c : St} {j qe q : Nat} {i kp : Int32} (h : q ≠ B + 6 ∧ q ≠ B + 9 ∧ q ≠ B + 11 ∧ q ≠ B + 13) : (kpC B c j qe i kp).1 q = c.1 q := by
  unfold kpC; rw [uI_n h.1, uI_n h.2.2.2, uI_n h.1, uI_n h.2.2.1, uI_n h.2.1]
theorem HX_kp {z B : Nat} {c m : St} {k qs qe : Nat} {F S C W Q : Nat → Nat} (hH : HX z B c m k qs qe F S C W Q) {j : Nat} (h1 : 1 ≤ j) (hj : j ≤ k) (hC : C j = 2) {i kp : Int32} (hkp : kp = nI (sm (fun i => if C i = 1 then S i else 0) k + S j)) :
    HX z B (kpC B c j qe i kp) (kpM z m j qe i) k qs (qe + 1) F S (fun i => if i = j then 1 else C i) W (fun i => if i = qe then j else Q i) ∧ qe < 100 := by
  obtain ⟨g1, g2, g3, g4, g5, g6, g7, g8, g9, g10, g11, g12, g13⟩ := hH
  have hq : qe < 100 := by
    rw [g9]
    have := sm_lt1 (f := fun j => if C j = 2 then 0 else 1) (fun j => by split <;> omega) (j := j) (by simp [hC]) k h1 hj
    omega
  refine ⟨?_, hq⟩
  unfold HX
  refine ⟨?_, g2, fun i' hi1 hi2 => ?_, fun u hu => ?_, fun i' hi1 hi2 hC' u hu1 hu2 => ?_, ?_, ?_, by omega, ?_, ?_, ?_, fun i' hi1 hi2 => ?_, fun i' hi1 hi2 hC' => ?_⟩
  · unfold kpC; rw [uI_o (by omega), uI_o (by omega), uI_o (by omega), uI_o (by omega), uI_o (by omega)]; exact g1
  · obtain ⟨b1, b2, b3, b4⟩ := g3 i' hi1 hi2
    rw [kpC_n (by omega), kpC_n (by omega)]
    refine ⟨b1, b2, ?_, b4.1, b4.2.1, ?_⟩
    · unfold kpC; rw [uI_n (by omega), uI_n (by omega), uI_n (by omega), uI_n (by omega), uI_g2]
      by_cases e : i' = j
      · simp only [e, and_self, if_true]; rfl
      · simp only [e, and_false, if_false]; exact b3
    · dsimp only; split <;> omega
  · obtain ⟨w1, w2, w3⟩ := g4 u hu
    rw [kpC_n (by omega)]
    refine ⟨w1, w2, fun h0 => ?_⟩
    obtain ⟨d1, d2, d3⟩ := w3 h0
    refine ⟨?_, d2, d3⟩
    dsimp only; split <;> omega
  · refine g5 i' hi1 hi2 ?_ u hu1 hu2
    dsimp only at hC'
    by_cases e : i' = j
    · rw [e, hC]; omega
    · rw [if_neg e] at hC'; exact hC'
  · unfold kpC; rw [uI_o (by omega), uI_o (by omega), uI_o (by omega), uI_o (by omega), uI_o (by omega)]; exact g6
  · unfold kpC; rw [uI_v]
  · have := sm_upd (f := fun j => if C j = 2 then 0 else 1) (j := j) (v := 1) (n := k) h1 hj
    rw [hC, if_pos rfl, ← g9, Nat.add_zero] at this
    rw [← this]
    refine sm_congr (fun i' _ _ => ?_)
    by_cases e : i' = j <;> simp [e]
  · unfold kpM; rw [uI_n (by omega), uI_v]
  · unfold kpC; rw [uI_o (by omega), uI_o (by omega), uI_v, hkp]
    congr 1
    have := sm_upd (f := fun j => if C j = 1 then S j else 0) (j := j) (v := S j) (n := k) h1 hj
    rw [hC, if_neg (by omega), Nat.add_zero] at this
    rw [← this]
    refine sm_congr (fun i' _ _ => ?_)
    by_cases e : i' = j <;> simp [e]
  · by_cases e : i' = qe
    · subst e
      simp only [if_true]
      refine ⟨?_, h1, hj, trivial, ?_⟩
      · unfold kpC; rw [uI_n (by omega), uI_v]
      · unfold kpM; rw [uI_v]
    · obtain ⟨q1, q2, q3, q4, q5⟩ := g12 i' hi1 (by omega)
      have hne : Q i' ≠ j := fun h => by rw [h] at q4; omega
      simp only [if_neg e]
      refine ⟨?_, q2, q3, by rw [if_neg hne]; exact q4, ?_⟩
      · unfold kpC; rw [uI_n (by omega), uI_o (by omega), uI_n (by omega), uI_n (by omega), uI_n (by omega)]; exact q1
      · unfold kpM; rw [uI_o (by omega), uI_n (by omega), uI_n (by omega), uI_n (by omega)]; exact q5
  · dsimp only at hC'
    by_cases e : i' = j
    · exact ⟨qe, by omega, by omega, by simp [e]⟩
    · rw [if_neg e] at hC'
      obtain ⟨a, a1, a2, a3⟩ := g13 i' hi1 hi2 hC'
      exact ⟨a, a1, by omega, by simp only [if_neg (show ¬ a = qe by omega)]; exact a3⟩
/-- the oldest is let go: cells -/
def evC (B : Nat) (c : St) (x qs f U : Nat) (kp : Int32) : St := itN (owC B 0) (uI (uI (uI c (B + 6) 8 (nI (qs + 1))) (B + 9) x 0) (B + 6) 10 kp) f U
theorem RB_ev {z B : Nat} {c0 m0 c m : St} (h : RB z B c0 m0 c m) {x qs f U : Nat} (hx : x ≤ 100) (kp : Int32) : RB z B c0 m0 (evC B c x qs f U kp) (uI m 30 (101 * z + x) 0) :=
  RB_ow (RB_c (RB_setB (RB_c h (d := 6) (j := 8) rfl (by omega)) (d := 9) (by omega) (by omega) (by omega)) (d := 6) (j := 10) rfl (by omega)) U
theorem evC_n {B : Nat} {c : St} {x qs f U q : Nat} {kp : Int32} (h : q ≠ B + 6 ∧ q ≠ B + 9 ∧ q ≠ B + 12) : (evC B c x qs f U kp).1 q = c.1 q := by
  funext j
  unfold evC; rw [ow_at, if_neg (fun e => h.2.2 e.1), uI_n h.1, uI_n h.2.1, uI_n h.1]
theorem HX_ev {z B : Nat} {c m : St} {k qs qe : Nat} {F S C W Q : Nat → Nat} (hH : HX z B c m k qs qe F S C W Q) (hq : qs < qe) {kp : Int32} (hkp : kp = nI (sm (fun i => if C i = 1 then S i else 0) k - S (Q qs))) :
    HX z B (evC B c (Q qs) qs (F (Q qs)) (2 + (S (Q qs) + 7) / 8) kp) (uI m 30 (101 * z + Q qs) 0) k (qs + 1) qe F S (fun i => if i = Q qs then 0 else C i) (fun u => if F (Q qs) ≤ u ∧ u < F (Q qs) + (2 + (S (Q qs) + 7) / 8) then 0 else W u) Q := by
  obtain ⟨g1, g2, g3, g4, g5, g6, g7, g8, g9, g10, g11, g12, g13⟩ := hH
  obtain ⟨q1, q2, q3, q4, q5⟩ := g12 qs (Nat.le_refl _) hq
  have hne : ∀ i, qs + 1 ≤ i → i < qe → Q i ≠ Q qs := by
    intro i hi1 hi2 e
    obtain ⟨_, _, _, _, p5⟩ := g12 i (by omega) hi2
    rw [e, q5] at p5
    have hqe : qe ≤ k := by
      rw [g9]; exact sm_le1 (f := fun j => if C j = 2 then 0 else 1) (fun j => by split <;> omega) k
    have := (nI_eq (by omega) (by omega)).mp p5
    omega
  generalize Q qs = x at q1 q2 q3 q4 q5 hne hkp ⊢
  have hown := g5 x q2 q3 (by omega)
  unfold HX
  refine ⟨?_, g2, fun i' hi1 hi2 => ?_, fun u hu => ?_, fun i' hi1 hi2 hC' u hu1 hu2 => ?_, ?_, ?_, by omega, ?_, ?_, ?_, fun i' hi1 hi2 => ?_, fun i' hi1 hi2 hC' => ?_⟩
  · unfold evC; rw [ow_at, if_neg (by omega), uI_o (by omega), uI_o (by omega), uI_o (by omega)]; exact g1
  · obtain ⟨b1, b2, b3, b4⟩ := g3 i' hi1 hi2
    rw [evC_n (by omega), evC_n (by omega)]
    refine ⟨b1, b2, ?_, b4.1, b4.2.1, ?_⟩
    · unfold evC; rw [ow_at, if_neg (by omega), uI_n (by omega), uI_g2]
      by_cases e : i' = x
      · simp only [e, and_self, if_true]; rfl
      · simp only [e, and_false, if_false]; rw [uI_n (by omega)]; exact b3
    · dsimp only; split <;> omega
  · obtain ⟨w1, w2, w3⟩ := g4 u hu
    unfold evC
    rw [ow_at]
    by_cases e : F x ≤ u ∧ u < F x + (2 + (S x + 7) / 8)
    · rw [if_pos ⟨rfl, e⟩]
      dsimp only
      rw [if_pos e]
      exact ⟨rfl, by omega, fun h => absurd rfl h⟩
    · rw [if_neg (fun h => e h.2), uI_n (by omega), uI_n (by omega), uI_n (by omega)]
      dsimp only
      rw [if_neg e]
      refine ⟨w1, w2, fun h0 => ?_⟩
      obtain ⟨d1, d2, d3⟩ := w3 h0
      refine ⟨?_, d2, d3⟩
      rw [if_neg (fun hx => e (by rw [hx] at d2 d3; exact ⟨d2, d3⟩))]; exact d1
  · dsimp only at hC' ⊢
    by_cases e : i' = x
    · rw [if_pos e] at hC'; exact absurd rfl hC'
    · rw [if_neg e] at hC'
      have hw := g5 i' hi1 hi2 hC' u hu1 hu2
      rw [if_neg (fun h => e (by have := hown u h.1 h.2; omega))]
      exact hw
  · unfold evC; rw [ow_at, if_neg (by omega), uI_o (by omega), uI_n (by omega), uI_v]
  · unfold evC; rw [ow_at, if_neg (by omega), uI_o (by omega), uI_n (by omega), uI_o (by omega)]; exact g7
  · rw [g9]
    refine sm_congr (fun i' _ _ => ?_)
    by_cases e : i' = x
    · simp [e, q4]
    · simp [e]
  · rw [uI_n (by omega)]; exact g10
  · unfold evC; rw [ow_at, if_neg (by omega), uI_v, hkp]
    congr 1
    have := sm_upd (f := fun j => if C j = 1 then S j else 0) (j := x) (v := 0) (n := k) q2 q3
    rw [q4, if_pos rfl, Nat.add_zero] at this
    rw [← this, Nat.add_sub_cancel]
    refine sm_congr (fun i' _ _ => ?_)
    by_cases e : i' = x <;> simp [e]
  · obtain ⟨p1, p2, p3, p4, p5⟩ := g12 i' (by omega) hi2
    rw [evC_n (by omega), uI_n (by omega)]
    refine ⟨p1, p2, p3, ?_, p5⟩
    dsimp only; rw [if_neg (hne i' hi1 hi2)]; exact p4
  · dsimp only at hC'
    by_cases e : i' = x
    · rw [if_pos e] at hC'; omega
    · rw [if_neg e] at hC'
      obtain ⟨a, a1, a2, a3⟩ := g13 i' hi1 hi2 hC'
      refine ⟨a, ?_, a2, a3⟩
      apply Classical.byContradiction
      intro hn
      have : a = qs := by omega
      subst this
      have e1 := (g12 a (Nat.le_refl _) hq).1
      rw [q1, a3] at e1
      have := (nI_eq (by omega) (by omega)).mp e1
      omega
