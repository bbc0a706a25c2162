/-! ===== an operand read ===== -/
section OPERAND2
variable {L : Nat} {sg : Nat → Nat} {P b : Nat} {c0 m0 c m : St} {N nl o j : Nat} {p0 e p q : Nat}
def lbC (sg : Nat → Nat) (c : St) (N q n : Nat) : St := uI (uI (uJ c 7 N (lN (wn sg q n))) 8 N (nI q)) 9 N (c.1 2 8)
def lbM (m : St) (slot nu q n : Nat) : St := uI (uI (uI (uI (uI (uI m 4 slot 0) 9 nu (nI q)) 10 nu (nI n)) 11 nu (m.1 0 23)) 12 nu (nI slot)) 0 18 (nI (nu + 1))
theorem op_lab (hA : AB L sg P b c0 m0 N nl o j c m) (hN : N < 200) (hj : j < 3) (hk : fm o j = 4) {n : Nat} (hW : WD sg q n) (hq : q ≤ 3000) : ∃ nu, nu < 201 ∧ m.1 0 18 = nI nu ∧ AB L sg P b c0 m0 N nl o (j + 1) (lbC sg c N q n) (lbM m (600 * b + 3 * N + j) nu q n) := by
  obtain ⟨⟨h1, h2, h3, h4, h5, h6, h7, h8, h9⟩, b0, b1, b2, b3, b4, b5⟩ := hA
  have hP := BA_i h1
  have huse : USE sg P b N c m ∧ c.2.1 7 N = 0 := by
    rcases b5 with ⟨g1, g2, _⟩ | ⟨_, j4, y1, y2⟩
    · exact ⟨g1, g2⟩
    · have := fm_4 ⟨o, by omega⟩ ⟨j4, by omega⟩ ⟨j, by omega⟩ y2 hk
      have : j4 = j := congrArg Fin.val this
      omega
  obtain ⟨⟨nu, ui, u1, u2, u3, u4, u5, u6⟩, hw0⟩ := huse
  have c1 : ∀ k, k ≠ 8 → k ≠ 9 → (lbC sg c N q n).1 k = c.1 k := fun k x y => by
    unfold lbC; rw [uI_n y, uI_n x]; rfl
  have c27 : ∀ i, i ≠ N → (lbC sg c N q n).2.1 7 i = c.2.1 7 i := fun i hi => uJ_o hi
  have c2n : ∀ k, k ≠ 7 → (lbC sg c N q n).2.1 k = c.2.1 k := fun k hk => uJ_n hk
  have c27N : (lbC sg c N q n).2.1 7 N = lN (wn sg q n) := uJ_v
  have c8 : ∀ i, i ≠ N → (lbC sg c N q n).1 8 i = c.1 8 i := fun i hi => by
    unfold lbC; rw [uI_n (by omega), uI_o (by omega)]; rfl
  have c8N : (lbC sg c N q n).1 8 N = nI q := by unfold lbC; rw [uI_n (by omega), uI_v]
  have c9 : ∀ i, i ≠ N → (lbC sg c N q n).1 9 i = c.1 9 i := fun i hi => by
    unfold lbC; rw [uI_o (by omega), uI_n (by omega)]; rfl
  have c9N : (lbC sg c N q n).1 9 N = c.1 2 8 := by unfold lbC; rw [uI_v]
  have mk : ∀ k, k ≠ 0 → k ≠ 4 → k ≠ 9 → k ≠ 10 → k ≠ 11 → k ≠ 12 → (lbM m (600 * b + 3 * N + j) nu q n).1 k = m.1 k := fun k x0 x4 x9 x10 x11 x12 => by
    unfold lbM; rw [uI_n x0, uI_n x12, uI_n x11, uI_n x10, uI_n x9, uI_n x4]
  have m_0 : ∀ i, i ≠ 18 → (lbM m (600 * b + 3 * N + j) nu q n).1 0 i = m.1 0 i := fun i hi => by
    unfold lbM; rw [uI_o (by omega), uI_n (by omega), uI_n (by omega), uI_n (by omega), uI_n (by omega), uI_n (by omega)]
  have m_18 : (lbM m (600 * b + 3 * N + j) nu q n).1 0 18 = nI (nu + 1) := by unfold lbM; rw [uI_v]
  have m_4 : ∀ i, i ≠ 600 * b + 3 * N + j → (lbM m (600 * b + 3 * N + j) nu q n).1 4 i = m.1 4 i := fun i hi => by
    unfold lbM; rw [uI_n (by omega), uI_n (by omega), uI_n (by omega), uI_n (by omega), uI_n (by omega), uI_o (by omega)]
  have m_9 : ∀ i, (lbM m (600 * b + 3 * N + j) nu q n).1 9 i = if i = nu then nI q else m.1 9 i := fun i => by
    unfold lbM; rw [uI_n (by omega), uI_n (by omega), uI_n (by omega), uI_n (by omega), uI_g2, uI_n (by omega)]
    by_cases h : i = nu
    · rw [if_pos ⟨rfl, h⟩, if_pos h]
    · rw [if_neg (fun e => h e.2), if_neg h]
  have m_10 : ∀ i, (lbM m (600 * b + 3 * N + j) nu q n).1 10 i = if i = nu then nI n else m.1 10 i := fun i => by
    unfold lbM; rw [uI_n (by omega), uI_n (by omega), uI_n (by omega), uI_g2, uI_n (by omega), uI_n (by omega)]
    by_cases h : i = nu
    · rw [if_pos ⟨rfl, h⟩, if_pos h]
    · rw [if_neg (fun e => h e.2), if_neg h]
  have m_11 : ∀ i, (lbM m (600 * b + 3 * N + j) nu q n).1 11 i = if i = nu then m.1 0 23 else m.1 11 i := fun i => by
    unfold lbM; rw [uI_n (by omega), uI_n (by omega), uI_g2, uI_n (by omega), uI_n (by omega), uI_n (by omega)]
    by_cases h : i = nu
    · rw [if_pos ⟨rfl, h⟩, if_pos h]
    · rw [if_neg (fun e => h e.2), if_neg h]
  have m_12 : ∀ i, (lbM m (600 * b + 3 * N + j) nu q n).1 12 i = if i = nu then nI (600 * b + 3 * N + j) else m.1 12 i := fun i => by
    unfold lbM; rw [uI_n (by omega), uI_g2, uI_n (by omega), uI_n (by omega), uI_n (by omega), uI_n (by omega)]
    by_cases h : i = nu
    · rw [if_pos ⟨rfl, h⟩, if_pos h]
    · rw [if_neg (fun e => h e.2), if_neg h]
  refine ⟨nu, by omega, u2, ⟨?_, ?_, ?_, ?_, ?_, ?_, ?_, fun i hi => PI_of (h8 i hi) (by rw [c1 (P + 1) (by omega) (by omega)]) (fun j' _ => by rw [c1 (P + 2) (by omega) (by omega)]) (by rw [c1 (P + 3) (by omega) (by omega)]) (by rw [mk 3 (by omega) (by omega) (by omega) (by omega) (by omega) (by omega)]) (fun j' _ => m_4 _ (by omega)) (fun j' _ => by rw [mk 5 (by omega) (by omega) (by omega) (by omega) (by omega) (by omega)]), LBL_of h9 (by rw [c1 2 (by omega) (by omega)]) (c2n 5 (by omega)) (c1 6 (by omega) (by omega)) (m_0 17 (by omega)) (mk 6 (by omega) (by omega) (by omega) (by omega) (by omega) (by omega)) (mk 7 (by omega) (by omega) (by omega) (by omega) (by omega) (by omega)) (mk 8 (by omega) (by omega) (by omega) (by omega) (by omega) (by omega))⟩, b0, ?_, ?_, fun j' hj' => ?_, ?_, .inr ⟨?_, j, by omega, hk⟩⟩
  · exact BA_m (BA_m (BA_m (BA_m (BA_m (BA_m (BA_c (BA_c (BA_J h1 (by omega)) (by omega)) (by omega)) (by omega)) (by omega)) (by omega)) (by omega)) (by omega)) (by omega)
  · rw [c1 P (by omega) (by omega)]; exact h2
  · exact (m_0 15 (by omega)).trans h3
  · rw [c1 P (by omega) (by omega)]; exact h4
  · exact (m_0 20 (by omega)).trans h5
  · unfold FLT; rw [c1 2 (by omega) (by omega), m_0 20 (by omega), m_0 21 (by omega), m_0 22 (by omega)]; exact h6
  · rw [c1 2 (by omega) (by omega), m_0 23 (by omega)]; exact h7
  · rw [c1 (P + 1) (by omega) (by omega)]; exact b1
  · rw [mk 3 (by omega) (by omega) (by omega) (by omega) (by omega) (by omega)]; exact b2
  · by_cases ej : j' = j
    · rw [ej, hk]; exact ⟨fun h => absurd h (by decide), fun h => absurd h (by decide), fun h => absurd h (by decide)⟩
    · exact kO3_of (b3 j' (by omega)) (by rw [c1 (P + 2) (by omega) (by omega)]) (by rw [c1 (P + 3) (by omega) (by omega)]) (m_4 _ (by omega)) (by rw [mk 5 (by omega) (by omega) (by omega) (by omega) (by omega) (by omega)])
  · rw [c1 (P + 3) (by omega) (by omega)]
    rcases b4 with b4 | ⟨b4, j'', y1, y2⟩
    · exact .inl b4
    · exact .inr ⟨b4, j'', by omega, y2⟩
  · obtain ⟨uj, uj1, uj2⟩ : ∃ uj : Nat → Nat, uj nu = N ∧ ∀ u, u ≠ nu → uj u = ui u := ⟨fun u => if u = nu then N else ui u, if_pos rfl, fun u hu => if_neg hu⟩
    refine ⟨nu + 1, uj, by omega, m_18, fun u hu => ?_, fun u v huv hv => ?_, fun i hi hw => ?_, fun i o' j' hi ho' he hj' hf => ?_⟩
    · by_cases eu : u = nu
      · subst eu
        rw [uj1]
        refine ⟨by omega, q, n, o, j, hW, hq, ?_, ?_, ?_, ?_, c27N, c8N, b0, ?_, hj, hk⟩
        · rw [m_9, if_pos rfl]
        · rw [m_10, if_pos rfl]
        · rw [m_11, if_pos rfl, c9N]; exact h7.symm
        · rw [m_12, if_pos rfl]
        · rw [c1 (P + 1) (by omega) (by omega)]; exact b1
      · rw [uj2 u eu]
        obtain ⟨a1, a, n', o', j', g1, g2, g3, g4, g5, g6, g7, g8, g9, g10, g11⟩ := u3 u (by omega)
        refine ⟨by omega, a, n', o', j', g1, g2, ?_, ?_, ?_, ?_, ?_, ?_, g9, ?_, g11⟩
        · rw [m_9, if_neg eu]; exact g3
        · rw [m_10, if_neg eu]; exact g4
        · rw [m_11, if_neg eu, c9 _ (by omega)]; exact g5
        · rw [m_12, if_neg eu]; exact g6
        · rw [c27 _ (by omega)]; exact g7
        · rw [c8 _ (by omega)]; exact g8
        · rw [c1 (P + 1) (by omega) (by omega)]; exact g10
    · by_cases ev : v = nu
      · subst ev
        rw [uj1, uj2 u (by omega)]
        exact (u3 u huv).1
      · rw [uj2 u (by omega), uj2 v ev]
        exact u4 u v huv (by omega)
    · by_cases ei : i = N
      · exact ⟨nu, by omega, by rw [uj1, ei]⟩
      · rw [c27 i ei] at hw
        obtain ⟨u, x1, x2⟩ := u5 i (by omega) hw
        exact ⟨u, by omega, by rw [uj2 u (by omega)]; exact x2⟩
    · by_cases ei : i = N
      · rw [ei, c27N]
        have := WD_pos hW
        intro h
        have hlt := WD_lt h1.1.2.2.2.2.2.1.2.2.2.2 hW
        rw [show (0 : Int64) = lN 0 from rfl, lN_inj hlt (by decide)] at h
        omega
      · rw [c27 i ei]
        rw [c1 (P + 1) (by omega) (by omega)] at he
        exact u6 i o' j' (by omega) ho' he hj' hf
def chr (k : Nat) : Int32 := if k = 1 then 82 else if k = 2 then 78 else if k = 3 then 88 else 76
theorem nI_nm1' {i : Nat} (h : i < 2 ^ 31) : ¬ (-1 : Int32) = nI i := fun e => nI_nm1 h e.symm
theorem rd_op (hA : AB L sg P b c0 m0 N nl o j c m) (hN : N < 200) (hj : j < 3) {kd : Nat} (hk : fm o j = kd) (hk4 : 1 ≤ kd ∧ kd ≤ 4) (hL : LE L sg p0 e) (hP : PC sg p0 e q c m) :
    (∃ c' m', f_As_readOperand (chr kd) (nI N) (nI j) c = some (1, c') ∧ f_Mo_readOperand (nI kd) (nI (600 * b + 3 * N + j)) m = some m' ∧ AB L sg P b c0 m0 N nl o (j + 1) c' m' ∧ c'.1 3 = c.1 3 ∧ c'.2.2 3 = c.2.2 3 ∧ m'.1 0 26 = m.1 0 26 ∧ ¬ c.1 3 3 = 5)
    ∨ (∃ c' m', f_As_readOperand (chr kd) (nI N) (nI j) c = some (0, c) ∧ f_As_refusePiece c = some (0, c') ∧ f_Mo_readOperand (nI kd) (nI (600 * b + 3 * N + j)) m = some m' ∧ FL L sg P b c0 m0 c' m') := by
  have hA' := hA
  obtain ⟨⟨h1, h2, h3, h4, h5, h6, h7, h8, h9⟩, _⟩ := hA
  have hPi := BA_i h1
  obtain ⟨s1, s2⟩ := mo_slot (b := b) (N := N) (j := j) rfl hPi.2 hN hj
  obtain ⟨p1, p2, p3, p4, p5, p6, p7⟩ := hP
  have hT := BA_M h1
  have hL3 := hT.1
  have hgP : isP (c.2.2 2) := by rw [BA_P h1]; exact h1.1.1
  have r82 : chr 1 = 82 := rfl
  have r78 : chr 2 = 78 := rfl
  have r88 : chr 3 = 88 := rfl
  have r76 : chr 4 = 76 := rfl
  have hkc : kd = 1 ∨ kd = 2 ∨ kd = 3 ∨ kd = 4 := by omega
  -- the failing end
  have bad : ∀ f : Int32, f_As_readOperand (chr kd) (nI N) (nI j) c = some (0, c) → f_Mo_readOperand (nI kd) (nI (600 * b + 3 * N + j)) m = (f_Mo_wrong (uI m 4 (600 * b + 3 * N + j) f)).bind (fun q8 => some q8.2) → (∃ c' m', f_As_readOperand (chr kd) (nI N) (nI j) c = some (0, c) ∧ f_As_refusePiece c = some (0, c') ∧ f_Mo_readOperand (nI kd) (nI (600 * b + 3 * N + j)) m = some m' ∧ FL L sg P b c0 m0 c' m') := by
    intro f g1 g2
    obtain ⟨c', m', w, a1, a2, a3⟩ := as_wrong (c := c) (m := uI m 4 (600 * b + 3 * N + j) f) (BA_m h1 (by omega)) (by rw [uI_n (by omega)]; exact h5) (by rw [uI_n (by omega)]; exact TK_bad p5) (by rw [uI_n (by omega), p3, p4]) (by rw [uI_n (by omega)]; exact h7)
    exact ⟨c', m', g1, a1, by rw [g2, a2]; rfl, a3⟩
  have named1 : m.1 0 24 ≠ 2 → f_Mo_named m = some (-1) := fun h => by unfold f_Mo_named; rw [if_neg h]
  have J19 : ∀ (v3 w : Int32), f_Mo_readOperand_J19 (nI kd) (nI (600 * b + 3 * N + j)) v3 w (nI (600 * b + 3 * N + j)) m = if v3 < 0 then f_Mo_readOperand_J44 (nI kd) (nI (600 * b + 3 * N + j)) v3 (uI m 4 (600 * b + 3 * N + j) (bN w)) else if nI kd = 1 then f_Mo_readOperand_J34 (nI (600 * b + 3 * N + j)) v3 (uI m 4 (600 * b + 3 * N + j) (bN w)) else if nI kd = 3 then f_Mo_readOperand_J34 (nI (600 * b + 3 * N + j)) v3 (uI m 4 (600 * b + 3 * N + j) (bN w)) else f_Mo_readOperand_J44 (nI kd) (nI (600 * b + 3 * N + j)) v3 (uI m 4 (600 * b + 3 * N + j) (bN w)) := by
    intro v3 w
    unfold f_Mo_readOperand_J19
    rw [s1, s2, lt_eq]
  have mneg : f_Mo_named m = some (-1) → f_Mo_readOperand (nI kd) (nI (600 * b + 3 * N + j)) m = f_Mo_readOperand_J44 (nI kd) (nI (600 * b + 3 * N + j)) (-1) (uI m 4 (600 * b + 3 * N + j) 0) := by
    intro hn
    unfold f_Mo_readOperand
    rw [hn, Option.bind_some, if_pos (show (-1 : Int32) < 0 by decide), J19, if_pos (show (-1 : Int32) < 0 by decide), bN_0]
  obtain ⟨mz, hmz⟩ : ∃ mz, mz = uI m 4 (600 * b + 3 * N + j) 0 := ⟨_, rfl⟩
  have mz0 : mz.1 0 = m.1 0 := by rw [hmz, uI_n (by omega)]
  rw [← hmz] at mneg
  -- neither a word nor a number
  have other : c.1 3 3 ≠ 1 → c.1 3 3 ≠ 2 → m.1 0 24 ≠ 2 → m.1 0 24 ≠ 3 → (∃ c' m', f_As_readOperand (chr kd) (nI N) (nI j) c = some (0, c) ∧ f_As_refusePiece c = some (0, c') ∧ f_Mo_readOperand (nI kd) (nI (600 * b + 3 * N + j)) m = some m' ∧ FL L sg P b c0 m0 c' m') := by
    intro x1 x2 y2 y3
    refine bad 0 ?_ ?_
    · unfold f_As_readOperand f_As_readOperand_J29 f_As_readOperand_J30 f_As_readOperand_J48 f_As_readOperand_J88 f_As_readOperand_J155 f_As_isLabel
      rw [if_neg x1, if_neg x2, if_pos rfl, if_pos rfl, if_neg x1, Option.bind_some, if_pos rfl, ite_self]
    · rw [mneg (named1 y2), hmz]
      unfold f_Mo_readOperand_J44 f_Mo_readOperand_J75 f_Mo_readOperand_J166
      rw [uI_n (by omega), if_neg y3, if_neg y2]
  rcases p5 with ⟨a, a', _⟩ | ⟨n, W1, W2, a, a', a3, a4, a5⟩ | ⟨r, _, _, a, a', a3, a4, a5⟩ | ⟨_, a, a', _⟩ | ⟨_, a, a', _⟩ | ⟨a, a'⟩
  · exact .inr (other (by rw [a]; decide) (by rw [a]; decide) (by rw [a']; decide) (by rw [a']; decide))
  · -- a word
    have a35 : ¬ c.1 3 3 = 5 := by rw [a]; decide
    obtain ⟨g1, g2⟩ := reg_of hT.2.2.2.2 W1
    have hW8 := W1.2.1
    have hqL : q ≤ 3000 := by have := hL.1; omega
    obtain ⟨k1, k2⟩ := mo_named hT (q := q) (n := n) (by omega) a' p4 a4
    by_cases hr : rgn sg q n
    · have hr8 : sg (q + 1) - 48 < 8 := by have := hr.2.2; omega
      have gr := g1 hr
      have kr := k1 hr
      generalize sg (q + 1) - 48 = r at gr kr hr8
      have cR : ∀ k, (k = 1 ∨ k = 3) → f_As_readOperand (chr k) (nI N) (nI j) c = some (1, uI c (P + 2) (3 * N + j) (nI r)) := by
        intro k hk
        unfold f_As_readOperand f_As_readOperand_J30 f_As_readOperand_J48 f_As_readOperand_J67
        rw [if_pos a, a5, gr, if_neg (nI_nm1 (by omega)), if_neg (show ¬ c.1 3 3 = 2 by rw [a]; decide), if_neg (show ¬ (1 : Int32) = 0 by decide), gP_e hgP, BA_P h1, pr_set hPi.1 hN hj, Option.bind_some]
        rcases hk with rfl | rfl
        · rw [if_pos r82]
        · rw [if_neg (show ¬ chr 3 = 82 by decide), if_pos r88]
      have mR : (kd = 1 ∨ kd = 3) → f_Mo_readOperand (nI kd) (nI (600 * b + 3 * N + j)) m = some (uI (uI m 4 (600 * b + 3 * N + j) 1) 5 (600 * b + 3 * N + j) (nI r)) := by
        intro hk
        unfold f_Mo_readOperand
        rw [kr, Option.bind_some, if_neg (nI_pos (by omega)), J19, if_neg (nI_pos (by omega)), bN_1]
        unfold f_Mo_readOperand_J34
        rw [s1, s2, lt_eq]
        rcases hk with rfl | rfl
        · rw [if_pos (show nI 1 = 1 from rfl)]
        · rw [if_neg (show ¬ nI 3 = 1 by decide), if_pos (show nI 3 = 3 from rfl)]
      by_cases h13 : kd = 1 ∨ kd = 3
      · refine .inl ⟨_, _, cR kd h13, mR h13, op_reg hA' hN hj (by omega) hr8, uI_n (by omega), rfl, ?_, a35⟩
        rw [uI_n (by omega), uI_n (by omega)]
      · refine .inr (bad 1 ?_ ?_)
        · unfold f_As_readOperand f_As_readOperand_J30 f_As_readOperand_J48 f_As_readOperand_J88 f_As_readOperand_J155 f_As_isLabel
          rw [if_pos a, a5, gr, if_neg (nI_nm1 (by omega)), if_neg (show ¬ c.1 3 3 = 2 by rw [a]; decide), if_neg (show ¬ (1 : Int32) = 0 by decide), if_pos rfl, if_pos a, if_neg (nI_nm1 (by omega)), Option.bind_some, if_pos rfl, ite_self]
          have hc : kd = 2 ∨ kd = 4 := by omega
          rcases hc with rfl | rfl
          · rw [if_neg (show ¬ chr 2 = 82 by decide), if_neg (show ¬ chr 2 = 88 by decide)]
          · rw [if_neg (show ¬ chr 4 = 82 by decide), if_neg (show ¬ chr 4 = 88 by decide)]
        · unfold f_Mo_readOperand
          rw [kr, Option.bind_some, if_neg (nI_pos (by omega)), J19, if_neg (nI_pos (by omega)), bN_1, if_neg (show ¬ nI kd = 1 from ne_l (k := 1) (by omega) (by omega) (by omega)), if_neg (show ¬ nI kd = 3 from ne_l (k := 3) (by omega) (by omega) (by omega))]
          unfold f_Mo_readOperand_J44 f_Mo_readOperand_J75 f_Mo_readOperand_J166
          rw [uI_n (by omega), if_neg (show ¬ m.1 0 24 = 3 by rw [a']; decide), if_pos a', if_pos (nI_pos' (by omega)), ite_self]
    · have gr := g2 hr
      have kr := k2 hr
      obtain ⟨oi, i1, i2, i3⟩ := ins_eq (BA_N h1) (show TXM L sg mz by rw [hmz]; exact TXM_of hT (by rw [uI_n (by omega)]) (by rw [uI_n (by omega)])) (q := q) (n := n) (by omega) (by rw [mz0]; exact p4) (by rw [mz0]; exact a4)
      have mzn : f_Mo_readOperand (nI kd) (nI (600 * b + 3 * N + j)) m = f_Mo_readOperand_J75 (nI kd) (nI (600 * b + 3 * N + j)) (-1) mz := by
        rw [mneg kr]
        unfold f_Mo_readOperand_J44
        rw [mz0, if_neg (show ¬ m.1 0 24 = 3 by rw [a']; decide)]
      have cJ : f_As_readOperand (chr kd) (nI N) (nI j) c = f_As_readOperand_J155 (chr kd) (nI N) c := by
        unfold f_As_readOperand f_As_readOperand_J29 f_As_readOperand_J30 f_As_readOperand_J48 f_As_readOperand_J88
        rw [if_pos a, a5, gr, if_pos rfl, if_neg (show ¬ c.1 3 3 = 2 by rw [a]; decide), if_pos rfl, if_pos rfl]
      by_cases h4 : kd = 4
      · have fm4 : fm o j = 4 := by rw [hk, h4]
        by_cases hi : oi = -1
        · obtain ⟨nu, n1, n2, n3⟩ := op_lab hA' hN hj fm4 W1 hqL
          refine .inl ⟨_, _, ?_, ?_, n3, ?_, rfl, ?_, a35⟩
          · rw [cJ, h4]
            unfold f_As_readOperand_J155 f_As_isLabel
            rw [if_pos r76, if_pos a, a5, gr, if_pos rfl, i1, hi, Option.bind_some, if_pos rfl, Option.bind_some, if_neg (by decide)]
            rw [gd_nI hN (by omega), nI_clamp (by omega), lt_eq, gd_nI hN (by omega), lt_eq, gd_nI hN (by omega), lt_eq, uJ_11, p3, uI_n (show (2 : Nat) ≠ 8 by omega), uJ_11]
            rfl
          · have mzz : ∀ x, mz.1 0 x = m.1 0 x := fun x => by rw [mz0]
            rw [mzn, h4]
            unfold f_Mo_readOperand_J75
            rw [mzz, if_pos a', if_pos (show nI 4 = 4 from rfl), if_neg (show ¬ (0 : Int32) ≤ -1 by decide), i2, hi, Option.bind_some, if_neg (show ¬ (0 : Int32) ≤ -1 by decide)]
            simp only [lt_eq, mzz, n2, nI_clamp (show nu < 2 ^ 31 by omega), gd_nI n1 (show 201 < 2 ^ 31 by omega), uI_n (show (0 : Nat) ≠ 9 by omega), uI_n (show (0 : Nat) ≠ 10 by omega), uI_n (show (0 : Nat) ≠ 11 by omega), uI_n (show (0 : Nat) ≠ 12 by omega), p4, a4, nI_sub (show q ≤ q + n by omega), show q + n - q = n by omega, nI_1]
            rw [hmz]
            rfl
          · unfold lbC; rw [uI_n (by omega), uI_n (by omega)]; rfl
          · unfold lbM; rw [uI_o (by omega), uI_n (by omega), uI_n (by omega), uI_n (by omega), uI_n (by omega), uI_n (by omega)]
        · refine .inr (bad 0 ?_ ?_)
          · rw [cJ, h4]
            unfold f_As_readOperand_J155 f_As_isLabel
            rw [if_pos r76, if_pos a, a5, gr, if_pos rfl, i1, Option.bind_some, if_neg hi, Option.bind_some, if_pos rfl]
          · rw [mzn, h4]
            unfold f_Mo_readOperand_J75 f_Mo_readOperand_J166
            obtain ⟨k, k50, rfl, _⟩ := i3.resolve_left hi
            rw [mz0, if_pos a', if_pos (show nI 4 = 4 from rfl), if_neg (show ¬ (0 : Int32) ≤ -1 by decide), i2, Option.bind_some, if_pos (nI_pos' (by omega)), hmz]
      · refine .inr (bad 0 ?_ ?_)
        · rw [cJ]
          unfold f_As_readOperand_J155
          have hc : kd = 1 ∨ kd = 2 ∨ kd = 3 := by omega
          rcases hc with rfl | rfl | rfl
          · rw [if_neg (show ¬ chr 1 = 76 by decide)]
          · rw [if_neg (show ¬ chr 2 = 76 by decide)]
          · rw [if_neg (show ¬ chr 3 = 76 by decide)]
        · rw [mzn]
          unfold f_Mo_readOperand_J75 f_Mo_readOperand_J166
          rw [mz0, if_pos a', if_neg (show ¬ nI kd = 4 from ne_l (k := 4) (by omega) (by omega) h4), hmz]
  · -- a number
    have a35 : ¬ c.1 3 3 = 5 := by rw [a]; decide
    have x1 : ¬ c.1 3 3 = 1 := by rw [a]; decide
    have y2 : ¬ m.1 0 24 = 2 := by rw [a']; decide
    have cN : f_As_readOperand (chr kd) (nI N) (nI j) c = f_As_readOperand_J88 (chr kd) (nI N) (nI j) 1 c := by
      unfold f_As_readOperand f_As_readOperand_J29 f_As_readOperand_J30 f_As_readOperand_J48
      rw [if_neg x1, if_pos a, if_pos rfl]
    have mN := mneg (named1 y2)
    by_cases h23 : kd = 2 ∨ kd = 3
    · obtain ⟨pv, hpv⟩ : ∃ pv, (kd = 3 ∧ pv = 1) ∨ (kd = 2 ∧ pv = c.1 (P + 3) N) := by
        rcases h23 with h | h
        · exact ⟨_, .inr ⟨h, rfl⟩⟩
        · exact ⟨_, .inl ⟨h, rfl⟩⟩
      have hAn := op_num hA' hN hj (by omega) (w := c.1 3 6) (pv := pv) (by rw [hk]; exact hpv)
      refine .inl ⟨_, _, ?_, ?_, hAn, ?_, rfl, ?_, a35⟩
      · have J105 : f_As_readOperand_J105 (chr kd) (nI N) (nI j) c = some (1, uI (uI c (P + 2) (3 * N + j) (c.1 3 6)) (P + 3) N pv) := by
          have hp2 : (uI c (P + 2) (3 * N + j) (c.1 3 6)).2.2 2 = P := (show c.2.2 2 = P from BA_P h1)
          have hp3 : (uI c (P + 2) (3 * N + j) (c.1 3 6)).1 (P + 3) N = c.1 (P + 3) N := by rw [uI_n (by omega)]
          unfold f_As_readOperand_J105 f_As_readOperand_J147 f_As_readOperand_J152
          rw [gP_e hgP, BA_P h1, pr_set hPi.1 hN hj, Option.bind_some, gP_e (by rw [hp2]; exact h1.1.1), gP_e (by rw [hp2]; exact h1.1.1), hp2, gd_nI hN (by omega), nI_clamp (by omega), hp3]
          simp only [gd_nI hN (show 200 < 2 ^ 31 by omega), lt_eq, bN_1, bN_0]
          have hb4 := hA'.2.2.2.2.2.1
          rcases hpv with ⟨rfl, rfl⟩ | ⟨rfl, rfl⟩
          · rw [if_pos r88, ite_self]
          · rw [if_neg (show ¬ chr 2 = 88 by decide)]
            rcases hb4 with hb4 | ⟨hb4, _⟩
            · rw [if_pos hb4, hb4]
            · rw [if_neg (show ¬ c.1 (P + 3) N = 0 by rw [hb4]; decide), hb4]
        rw [cN]
        unfold f_As_readOperand_J88
        rw [if_neg (show ¬ (1 : Int32) = 0 by decide), J105]
        rcases h23 with rfl | rfl
        · rw [if_pos r78]
        · rw [if_neg (show ¬ chr 3 = 78 by decide), if_pos r88]
      · rw [mN]
        unfold f_Mo_readOperand_J44 f_Mo_readOperand_J62
        rw [mz0, if_pos a', s1, s2, lt_eq, a5, hmz]
        rcases h23 with rfl | rfl
        · rw [if_pos (show nI 2 = 2 from rfl)]
        · rw [if_neg (show ¬ nI 3 = 2 by decide), if_pos (show nI 3 = 3 from rfl)]
      · rw [uI_n (by omega), uI_n (by omega)]
      · rw [uI_n (by omega), uI_n (by omega)]
    · refine .inr (bad 0 ?_ ?_)
      · rw [cN]
        unfold f_As_readOperand_J88 f_As_readOperand_J155 f_As_isLabel
        rw [if_neg (show ¬ (1 : Int32) = 0 by decide), if_neg x1, Option.bind_some, if_pos rfl, ite_self]
        have hc : kd = 1 ∨ kd = 4 := by omega
        rcases hc with rfl | rfl
        · rw [if_neg (show ¬ chr 1 = 78 by decide), if_neg (show ¬ chr 1 = 88 by decide)]
        · rw [if_neg (show ¬ chr 4 = 78 by decide), if_neg (show ¬ chr 4 = 88 by decide)]
      · rw [mN]
        unfold f_Mo_readOperand_J44 f_Mo_readOperand_J75 f_Mo_readOperand_J166
        rw [mz0, if_pos a', if_neg y2, if_neg (show ¬ nI kd = 2 from ne_l (k := 2) (by omega) (by omega) (by omega)), if_neg (show ¬ nI kd = 3 from ne_l (k := 3) (by omega) (by omega) (by omega)), hmz]
  · exact .inr (other (by rw [a]; decide) (by rw [a]; decide) (by rw [a']; decide) (by rw [a']; decide))
  · exact .inr (other (by rw [a]; decide) (by rw [a]; decide) (by rw [a']; decide) (by rw [a']; decide))
  · exact .inr (other (by rw [a]; decide) (by rw [a]; decide) (by rw [a']; decide) (by rw [a']; decide))
end OPERAND2
