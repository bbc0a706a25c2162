/-! ===== operands ===== -/
/-- where both stand in a line that begins at p0 and ends at e -/
def LE (L : Nat) (sg : Nat → Nat) (p0 e : Nat) : Prop := e ≤ L ∧ sg e = 10 ∧ ∀ i, p0 ≤ i → i < e → sg i ≠ 10
def SY (p0 e p : Nat) (c m : St) : Prop := p0 ≤ p ∧ p ≤ e ∧ c.1 3 1 = nI p ∧ m.1 0 26 = nI p ∧ c.1 3 2 = nI e ∧ c.2.2 3 = 1
/-- the piece read -/
def PC (sg : Nat → Nat) (p0 e q : Nat) (c m : St) : Prop := p0 ≤ q ∧ q ≤ e ∧ c.1 3 4 = nI q ∧ m.1 0 25 = nI q ∧ TK sg e q c m ∧ c.1 3 2 = nI e ∧ c.2.2 3 = 1
section OPERAND
variable {L : Nat} {sg : Nat → Nat} {P b : Nat} {c0 m0 c m : St} {N nl o j : Nat} {p0 e p q : Nat}
theorem pc_next (h : BA L sg P b c0 m0 c m) (hL : LE L sg p0 e) (hY : SY p0 e p c m) : ∃ c' m' q, f_Sc_readPiece c = some c' ∧ f_Mo_next m = some m' ∧ SF c c' ∧ MF m m' ∧ PC sg p0 e q c' m' := by
  obtain ⟨y1, y2, y3, y4, y5, y6⟩ := hY
  obtain ⟨c', m', q, a1, a2, a3, a4, a5, a6, a7, a8, a9⟩ := sc_piece (BA_C h) (BA_M h) hL.1 hL.2.1 y2 (fun i x y => hL.2.2 i (by omega) y) y5 y6 y3 y4
  exact ⟨c', m', q, a1, a2, a3, a4, by omega, a8, a5, a6, a9, a3.2.2.2.trans y5, by rw [a3.2.2.1]; exact y6⟩
theorem fm_3 : ∀ (o : Fin 51) (j k : Fin 3), fm o.val j.val = 3 → fm o.val k.val = 3 → j = k := by decide +kernel
theorem fm_4 : ∀ (o : Fin 51) (j k : Fin 3), fm o.val j.val = 4 → fm o.val k.val = 4 → j = k := by decide +kernel
theorem mo_slot {v : Int32} (hv : v = nI (600 * b + 3 * N + j)) (hb : b < 2) (hN : N < 200) (hj : j < 3) : (∀ {β : Type} (x : Option β), gd v 1200 x = x) ∧ v.toNatClampNeg = 600 * b + 3 * N + j := by
  subst hv
  exact ⟨fun x => gd_nI (by omega) (by omega), nI_clamp (by omega)⟩
/-- a slot written on both sides -/
theorem op_set (hA : AB L sg P b c0 m0 N nl o j c m) (hN : N < 200) (hj : j < 3) {v f : Int32} : AC L sg P b c0 m0 N nl (uI c (P + 2) (3 * N + j) v) (uI (uI m 4 (600 * b + 3 * N + j) f) 5 (600 * b + 3 * N + j) v)
    ∧ (∀ N', USE sg P b N' c m → USE sg P b N' (uI c (P + 2) (3 * N + j) v) (uI (uI m 4 (600 * b + 3 * N + j) f) 5 (600 * b + 3 * N + j) v))
    ∧ (∀ j', j' < j → kO3 c m P b N j' (fm o j') → kO3 (uI c (P + 2) (3 * N + j) v) (uI (uI m 4 (600 * b + 3 * N + j) f) 5 (600 * b + 3 * N + j) v) P b N j' (fm o j')) := by
  obtain ⟨⟨h1, h2, h3, h4, h5, h6, h7, h8, h9⟩, _⟩ := hA
  have hP := BA_i h1
  refine ⟨⟨BA_m (BA_m (BA_c h1 (by omega)) (by omega)) (by omega), ?_, ?_, ?_, ?_, ?_, ?_, fun i hi => PI_of (h8 i hi) ?_ (fun j' _ => ?_) ?_ ?_ (fun j' _ => ?_) (fun j' _ => ?_), LBL_of h9 ?_ rfl ?_ ?_ ?_ ?_ ?_⟩, fun N' hU => USE_of hU (fun i _ => ?_) (fun i _ => rfl) (fun i _ => ?_) (fun i _ => ?_) ?_ ?_ ?_ ?_ ?_, fun j' hj' hk => kO3_of hk ?_ ?_ ?_ ?_⟩
  · rw [uI_n (by omega)]; exact h2
  · rw [uI_n (by omega), uI_n (by omega)]; exact h3
  · rw [uI_n (by omega)]; exact h4
  · rw [uI_n (by omega), uI_n (by omega)]; exact h5
  · unfold FLT; rw [uI_n (by omega), uI_n (by omega), uI_n (by omega)]; exact h6
  · rw [uI_n (by omega), uI_n (by omega), uI_n (by omega)]; exact h7
  · rw [uI_n (by omega)]
  · rw [uI_o (by omega)]
  · rw [uI_n (by omega)]
  · rw [uI_n (by omega), uI_n (by omega)]
  · rw [uI_o (by omega), uI_o (by omega)]
  · rw [uI_o (by omega), uI_o (by omega)]
  · rw [uI_n (by omega)]
  · rw [uI_n (by omega)]
  · rw [uI_n (by omega), uI_n (by omega)]
  · rw [uI_n (by omega), uI_n (by omega)]
  · rw [uI_n (by omega), uI_n (by omega)]
  · rw [uI_n (by omega), uI_n (by omega)]
  · rw [uI_n (by omega)]
  · rw [uI_n (by omega)]
  · rw [uI_n (by omega)]
  · rw [uI_n (by omega), uI_n (by omega)]
  · rw [uI_n (by omega), uI_n (by omega)]
  · rw [uI_n (by omega), uI_n (by omega)]
  · rw [uI_n (by omega), uI_n (by omega)]
  · rw [uI_n (by omega), uI_n (by omega)]
  · rw [uI_o (by omega)]
  · rw [uI_n (by omega)]
  · rw [uI_o (by omega), uI_o (by omega)]
  · rw [uI_o (by omega), uI_o (by omega)]
/-- the mark of a plain number set -/
theorem op_pln (hA : AC L sg P b c0 m0 N nl c m) {v : Int32} : AC L sg P b c0 m0 N nl (uI c (P + 3) N v) m ∧ (∀ N', USE sg P b N' c m → USE sg P b N' (uI c (P + 3) N v) m) := by
  obtain ⟨h1, h2, h3, h4, h5, h6, h7, h8, h9⟩ := hA
  have hP := BA_i h1
  refine ⟨⟨BA_c h1 (by omega), ?_, h3, ?_, h5, ?_, ?_, fun i hi => PI_of (h8 i hi) ?_ (fun j' _ => ?_) ?_ rfl (fun _ _ => rfl) (fun _ _ => rfl), LBL_of h9 ?_ rfl ?_ rfl rfl rfl rfl⟩, fun N' hU => USE_of hU (fun i _ => ?_) (fun i _ => rfl) (fun i _ => ?_) (fun i _ => ?_) rfl rfl rfl rfl rfl⟩
  · rw [uI_n (by omega)]; exact h2
  · rw [uI_n (by omega)]; exact h4
  · unfold FLT; rw [uI_n (by omega)]; exact h6
  · rw [uI_n (by omega)]; exact h7
  · rw [uI_n (by omega)]
  · rw [uI_n (by omega)]
  · rw [uI_o (by omega)]
  · rw [uI_n (by omega)]
  · rw [uI_n (by omega)]
  · rw [uI_n (by omega)]
  · rw [uI_n (by omega)]
  · rw [uI_n (by omega)]
theorem pr_set {v : Int32} (hP : P = 10 ∨ P = 15) (hN : N < 200) (hj : j < 3) : f_Pr_setOperand P (nI N) (nI j) v c = some (uI c (P + 2) (3 * N + j) v) := by
  unfold f_Pr_setOperand
  rw [show (3 : Int32) = nI 3 from rfl, nI_mul, nI_add, gd_nI (by omega) (by omega), nI_clamp (by omega), lt_eq, Nat.mul_comm N 3]
/-- a register read -/
theorem op_reg (hA : AB L sg P b c0 m0 N nl o j c m) (hN : N < 200) (hj : j < 3) (hk : fm o j = 1 ∨ fm o j = 3) {r : Nat} (hr : r < 8) : AB L sg P b c0 m0 N nl o (j + 1) (uI c (P + 2) (3 * N + j) (nI r)) (uI (uI m 4 (600 * b + 3 * N + j) 1) 5 (600 * b + 3 * N + j) (nI r)) := by
  obtain ⟨a1, a2, a3⟩ := op_set hA hN hj (v := nI r) (f := 1)
  obtain ⟨hC, b0, b1, b2, b3, b4, b5⟩ := hA
  have hP := BA_i hC.1
  have kr : kR (uI c (P + 2) (3 * N + j) (nI r)) (uI (uI m 4 (600 * b + 3 * N + j) 1) 5 (600 * b + 3 * N + j) (nI r)) P b N j r := by
    refine ⟨hr, ?_, uI_v, uI_v⟩
    rw [uI_n (by omega), uI_v]; decide
  refine ⟨a1, b0, by rw [uI_n (by omega)]; exact b1, by rw [uI_n (by omega), uI_n (by omega)]; exact b2, fun j' hj' => ?_, ?_, ?_⟩
  · by_cases e : j' = j
    · subst e
      refine ⟨fun _ => ⟨r, kr⟩, fun h => by omega, fun h => .inl ⟨?_, r, kr⟩⟩
      rw [uI_n (by omega)]
      rcases b4 with b4 | ⟨_, j'', x1, x2⟩
      · exact b4
      · have := fm_3 ⟨o, by omega⟩ ⟨j'', by omega⟩ ⟨j', by omega⟩ x2 h
        have : j'' = j' := congrArg Fin.val this
        omega
    · exact a3 j' (by omega) (b3 j' (by omega))
  · rw [uI_n (by omega)]
    rcases b4 with b4 | ⟨b4, j'', x1, x2⟩
    · exact .inl b4
    · exact .inr ⟨b4, j'', by omega, x2⟩
  · rcases b5 with ⟨g1, g2, g3⟩ | ⟨g1, j4, y1, y2⟩
    · refine .inl ⟨a2 N g1, g2, fun j' hj' => ?_⟩
      by_cases e : j' = j
      · rw [e]; omega
      · exact g3 j' (by omega)
    · exact .inr ⟨a2 _ g1, j4, by omega, y2⟩
/-- a number read -/
theorem op_num (hA : AB L sg P b c0 m0 N nl o j c m) (hN : N < 200) (hj : j < 3) (hk : fm o j = 2 ∨ fm o j = 3) {w pv : Int32} (hp : (fm o j = 3 ∧ pv = 1) ∨ (fm o j = 2 ∧ pv = c.1 (P + 3) N)) : AB L sg P b c0 m0 N nl o (j + 1) (uI (uI c (P + 2) (3 * N + j) w) (P + 3) N pv) (uI (uI m 4 (600 * b + 3 * N + j) 0) 5 (600 * b + 3 * N + j) w) := by
  obtain ⟨a1, a2, a3⟩ := op_set hA hN hj (v := w) (f := 0)
  obtain ⟨d1, d2⟩ := op_pln a1 (v := pv)
  obtain ⟨hC, b0, b1, b2, b3, b4, b5⟩ := hA
  have hP := BA_i hC.1
  have kn : kN (uI (uI c (P + 2) (3 * N + j) w) (P + 3) N pv) (uI (uI m 4 (600 * b + 3 * N + j) 0) 5 (600 * b + 3 * N + j) w) P b N j w := by
    refine ⟨?_, uI_v, ?_⟩
    · rw [uI_n (by omega), uI_v]
    · rw [uI_n (by omega), uI_v]
  refine ⟨d1, b0, by rw [uI_n (by omega), uI_n (by omega)]; exact b1, by rw [uI_n (by omega), uI_n (by omega)]; exact b2, fun j' hj' => ?_, ?_, ?_⟩
  · by_cases e : j' = j
    · subst e
      refine ⟨fun h => by omega, fun _ => ⟨w, kn⟩, fun h => .inr ⟨?_, w, kn⟩⟩
      rw [uI_v]
      rcases hp with ⟨_, hp⟩ | ⟨hp, _⟩
      · rw [hp]; decide
      · omega
    · have hk3 := a3 j' (by omega) (b3 j' (by omega))
      rcases hp with ⟨x1, hp⟩ | ⟨x1, hp⟩
      · have n3 : fm o j' ≠ 3 := fun h => by
          have := fm_3 ⟨o, by omega⟩ ⟨j', by omega⟩ ⟨j, by omega⟩ h x1
          have : j' = j := congrArg Fin.val this
          exact e this
        obtain ⟨k1, k2, _⟩ := hk3
        refine ⟨fun h => ?_, fun h => ?_, fun h => absurd h n3⟩
        · obtain ⟨r, q1, q2, q3, q4⟩ := k1 h
          exact ⟨r, q1, q2, q3, by rw [uI_n (by omega)]; exact q4⟩
        · obtain ⟨r, q1, q2, q3⟩ := k2 h
          exact ⟨r, q1, q2, by rw [uI_n (by omega)]; exact q3⟩
      · exact kO3_of hk3 (by rw [uI_n (by omega)]) (by rw [uI_v, hp, uI_n (by omega)]) rfl rfl
  · rw [uI_v]
    rcases hp with ⟨x1, hp⟩ | ⟨x1, hp⟩
    · exact .inr ⟨hp, j, by omega, x1⟩
    · rw [hp]
      rcases b4 with b4 | ⟨b4, j'', y1, y2⟩
      · exact .inl b4
      · exact .inr ⟨b4, j'', by omega, y2⟩
  · rcases b5 with ⟨g1, g2, g3⟩ | ⟨g1, j4, y1, y2⟩
    · refine .inl ⟨d2 _ (a2 N g1), g2, fun j' hj' => ?_⟩
      by_cases e : j' = j
      · rw [e]; omega
      · exact g3 j' (by omega)
    · exact .inr ⟨d2 _ (a2 _ g1), j4, by omega, y2⟩
end OPERAND
