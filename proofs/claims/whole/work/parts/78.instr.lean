/-! ===== an instruction read ===== -/
noncomputable def shp (o : Nat) : Nat := f_Op_shapeOf (nI o)
def byj (T j : Nat) : Nat := if j < T then 16 ^ (T - 1 - j) else 0
theorem sh_1 : ∀ o : Fin 51, isT (shp o.val) ∧ tn (shp o.val) ≤ 3 := by decide +kernel
theorem sh_2 : ∀ (o : Fin 51) (j : Fin 3), j.val < tn (shp o.val) → tc (shp o.val) (nI j.val) = chr (fm o.val j.val) ∧ 1 ≤ fm o.val j.val ∧ fm o.val j.val ≤ 4 := by decide +kernel
theorem sh_3 : ∀ (o : Fin 51) (j : Fin 3), tn (shp o.val) ≤ j.val → fm o.val j.val = 0 := by decide +kernel
theorem sh_4 : ∀ (o : Fin 51) (j : Fin 3), j.val < tn (shp o.val) → (f_Mo_form (nI o.val) / nI (byj (tn (shp o.val)) j.val)) - (f_Mo_form (nI o.val) / nI (byj (tn (shp o.val)) j.val)) / 16 * 16 = nI (fm o.val j.val) := by decide +kernel
theorem sh_5 : ∀ (o : Fin 51) (d : Fin 3), tn (shp o.val) ≤ d.val → (f_Mo_form (nI o.val) / nI (16 ^ d.val)) - (f_Mo_form (nI o.val) / nI (16 ^ d.val)) / 16 * 16 = 0 := by decide +kernel
theorem sh_6 : ∀ (T : Fin 4) (j : Fin 3), j.val < T.val → nI (byj T.val j.val) / 16 = nI (byj T.val (j.val + 1)) ∧ ¬ nI (byj T.val j.val) ≤ 0 ∧ ¬ nI (byj T.val j.val) = 0 := by decide +kernel
section INSTR
variable {L : Nat} {sg : Nat → Nat} {P b : Nat} {c0 m0 c m : St} {N nl o j : Nat} {p0 e p q : Nat}
theorem TK_pos (h : TK sg e q c m) (hq : q ≤ e) (h5 : ¬ c.1 3 3 = 5) : ∃ p', q ≤ p' ∧ p' ≤ e ∧ c.1 3 1 = nI p' ∧ m.1 0 26 = nI p' := by
  rcases h with ⟨_, _, rfl, a, a'⟩ | ⟨n, _, l, _, _, a, a', _⟩ | ⟨r, l1, l2, _, _, a, a', _⟩ | ⟨l, _, _, a, a'⟩ | ⟨l, _, _, a, a'⟩ | ⟨a, _⟩
  · exact ⟨q, Nat.le_refl _, Nat.le_refl _, a, a'⟩
  · exact ⟨q + n, by omega, l, a, a'⟩
  · exact ⟨r, by omega, l2, a, a'⟩
  · exact ⟨q + 1, by omega, by omega, a, a'⟩
  · exact ⟨q + 1, by omega, by omega, a, a'⟩
  · exact absurd a h5
theorem TK_comma (h : TK sg e q c m) : c.1 3 3 = 3 ↔ m.1 0 24 = 4 := by
  rcases h with ⟨a, b, _⟩ | ⟨n, _, _, a, b, _⟩ | ⟨r, _, _, a, b, _⟩ | ⟨_, a, b, _⟩ | ⟨_, a, b, _⟩ | ⟨a, b⟩ <;> rw [a, b] <;> decide
theorem TK_colon (h : TK sg e q c m) : c.1 3 3 = 4 ↔ m.1 0 24 = 5 := by
  rcases h with ⟨a, b, _⟩ | ⟨n, _, _, a, b, _⟩ | ⟨r, _, _, a, b, _⟩ | ⟨_, a, b, _⟩ | ⟨_, a, b, _⟩ | ⟨a, b⟩ <;> rw [a, b] <;> decide
theorem TK_end (h : TK sg e q c m) : c.1 3 3 = 0 ↔ m.1 0 24 = 0 := by
  rcases h with ⟨a, b, _⟩ | ⟨n, _, _, a, b, _⟩ | ⟨r, _, _, a, b, _⟩ | ⟨_, a, b, _⟩ | ⟨_, a, b, _⟩ | ⟨a, b⟩ <;> rw [a, b] <;> decide
theorem TK_endp (h : TK sg e q c m) (h0 : c.1 3 3 = 0) : m.1 0 26 = nI e := by
  rcases h with ⟨_, _, _, _, a⟩ | ⟨n, _, _, a, _⟩ | ⟨r, _, _, a, _⟩ | ⟨_, a, _⟩ | ⟨_, a, _⟩ | ⟨a, _⟩
  · exact a
  all_goals (rw [h0] at a; exact absurd a (by decide))
/-- what a piece amounts to within the state -/
theorem pc_AB (hA : AB L sg P b c0 m0 N nl o j c m) (hL : LE L sg p0 e) (hY : SY p0 e p c m) : ∃ c' m' q, f_Sc_readPiece c = some c' ∧ f_Mo_next m = some m' ∧ AB L sg P b c0 m0 N nl o j c' m' ∧ PC sg p0 e q c' m' := by
  obtain ⟨c', m', q, a1, a2, a3, a4, a5⟩ := pc_next hA.1.1 hL hY
  exact ⟨c', m', q, a1, a2, AB_SF hA a3 a4, a5⟩
theorem PC_SY {c' m' : St} (h : PC sg p0 e q c m) (h5 : ¬ c.1 3 3 = 5) (e3 : c'.1 3 = c.1 3) (e2 : c'.2.2 3 = c.2.2 3) (e26 : m'.1 0 26 = m.1 0 26) : ∃ p', SY p0 e p' c' m' := by
  obtain ⟨h1, h2, h3, h4, hT, h7, h8⟩ := h
  obtain ⟨p', x1, x2, x3, x4⟩ := TK_pos hT h2 h5
  exact ⟨p', by omega, x2, by rw [e3]; exact x3, e26.trans x4, by rw [e3]; exact h7, e2.trans h8⟩
theorem wrong_AB (hA : AC L sg P b c0 m0 N nl c m) (hP : PC sg p0 e q c m) : ∃ c' m' w, f_As_refusePiece c = some (0, c') ∧ f_Mo_wrong m = some (w, m') ∧ FL L sg P b c0 m0 c' m' :=
  as_wrong hA.1 hA.2.2.2.2.1 (TK_bad hP.2.2.2.2.1) (by rw [hP.2.2.1, hP.2.2.2.1]) hA.2.2.2.2.2.2.1
theorem pos_nle {x : Int32} (h : 0 < x) : ¬ x ≤ 0 := Int32.not_le.mpr h
theorem rd_loop {T : Nat} (hTT : tn (shp o) = T) (hN : N < 200) (ho : o ≤ 50) (hL : LE L sg p0 e) : ∀ (r j : Nat) (c mp : St) (p : Nat), j + r = T → AB L sg P b c0 m0 N nl o j c mp → SY p0 e p c mp →
    (∃ c' m' mp' p' x y, wh (fun a : (Int32 × St) => f_As_readInstruction_L55 (nI N) (shp o) a.1 a.2) (nI j, c) = some (.inl (nI (T), c')) ∧ ((f_Mo_next mp).bind fun m => wh (fun a : (Int32 × Int32 × St) => f_Mo_readOrder_L40 (nI (200 * b + N)) (f_Mo_form (nI o)) a.1 a.2.1 a.2.2) (nI (600 * b + 3 * N + j), nI (byj (T) j), m)) = some (.inl (x, y, m')) ∧ AB L sg P b c0 m0 N nl o (T) c' mp' ∧ SY p0 e p' c' mp' ∧ f_Mo_next mp' = some m')
    ∨ (∃ c' m', wh (fun a : (Int32 × St) => f_As_readInstruction_L55 (nI N) (shp o) a.1 a.2) (nI j, c) = some (.inr (0, c')) ∧ ((f_Mo_next mp).bind fun m => wh (fun a : (Int32 × Int32 × St) => f_Mo_readOrder_L40 (nI (200 * b + N)) (f_Mo_form (nI o)) a.1 a.2.1 a.2.2) (nI (600 * b + 3 * N + j), nI (byj (T) j), m)) = some (.inr m') ∧ FL L sg P b c0 m0 c' m') := by
  obtain ⟨hT, hT3⟩ := sh_1 ⟨o, by omega⟩
  simp only at hT hT3
  rw [hTT] at hT3
  have htl : tl (shp o) = nI T := by unfold tl; rw [hTT]
  intro r
  induction r with
  | zero =>
    intro j c mp p hj hA hY
    have ej : j = T := by omega
    subst ej
    obtain ⟨c1, m1, q, a1, a2, a3, a4⟩ := pc_AB hA hL hY
    refine .inl ⟨c, m1, mp, p, nI (600 * b + 3 * N + j), nI (byj (j) (j)), wh_inr ?_, ?_, hA, hY, a2⟩
    · show f_As_readInstruction_L55 (nI N) (shp o) (nI (j)) c = _
      unfold f_As_readInstruction_L55
      rw [if_pos hT, htl, if_pos (nI_le (Nat.le_refl _) (by omega))]
    · rw [a2, Option.bind_some]
      refine wh_inr ?_
      show f_Mo_readOrder_L40 (nI (200 * b + N)) (f_Mo_form (nI o)) _ (nI (byj (j) (j))) m1 = _
      unfold f_Mo_readOrder_L40
      rw [show byj (j) (j) = 0 from if_neg (Nat.lt_irrefl _), if_pos (by decide)]
  | succ r ih =>
    intro j c mp p hj hA hY
    have hjT : j < T := by omega
    have hj3 : j < 3 := by omega
    have hPi := BA_i hA.1.1
    have hjT' : j < tn (shp o) := by rw [hTT]; exact hjT
    obtain ⟨t1, t2, t3⟩ := sh_2 ⟨o, by omega⟩ ⟨j, hj3⟩ hjT'
    have t4 := sh_4 ⟨o, by omega⟩ ⟨j, hj3⟩ hjT'
    obtain ⟨t5, t6, t7⟩ := sh_6 ⟨T, by omega⟩ ⟨j, hj3⟩ hjT
    simp only at t1 t2 t3 t4 t5 t6 t7
    rw [hTT] at t4
    obtain ⟨c1, m1, q, a1, a2, a3, a4⟩ := pc_AB hA hL hY
    -- both within the operand
    have core : ∀ c2 m2 q2, AB L sg P b c0 m0 N nl o j c2 m2 → PC sg p0 e q2 c2 m2 → f_As_readInstruction_L55 (nI N) (shp o) (nI j) c = f_As_readInstruction_J99_1 (nI N) (shp o) (nI j) c2 → f_Mo_readOrder_L40 (nI (200 * b + N)) (f_Mo_form (nI o)) (nI (600 * b + 3 * N + j)) (nI (byj (T) j)) m1 = f_Mo_readOrder_J95_1 (nI (200 * b + N)) (f_Mo_form (nI o)) (nI (600 * b + 3 * N + j)) (nI (byj (T) j)) (nI (fm o j)) m2 →
        (∃ c' m' mp' p' x y, wh (fun a : (Int32 × St) => f_As_readInstruction_L55 (nI N) (shp o) a.1 a.2) (nI j, c) = some (.inl (nI (T), c')) ∧ ((f_Mo_next mp).bind fun m => wh (fun a : (Int32 × Int32 × St) => f_Mo_readOrder_L40 (nI (200 * b + N)) (f_Mo_form (nI o)) a.1 a.2.1 a.2.2) (nI (600 * b + 3 * N + j), nI (byj (T) j), m)) = some (.inl (x, y, m')) ∧ AB L sg P b c0 m0 N nl o (T) c' mp' ∧ SY p0 e p' c' mp' ∧ f_Mo_next mp' = some m')
        ∨ (∃ c' m', wh (fun a : (Int32 × St) => f_As_readInstruction_L55 (nI N) (shp o) a.1 a.2) (nI j, c) = some (.inr (0, c')) ∧ ((f_Mo_next mp).bind fun m => wh (fun a : (Int32 × Int32 × St) => f_Mo_readOrder_L40 (nI (200 * b + N)) (f_Mo_form (nI o)) a.1 a.2.1 a.2.2) (nI (600 * b + 3 * N + j), nI (byj (T) j), m)) = some (.inr m') ∧ FL L sg P b c0 m0 c' m') := by
      intro c2 m2 q2 hA2 hP2 eC eM
      have inb : isT (shp o) ∧ vp_inb (nI j) (tn (shp o)) = true := ⟨hT, decide_eq_true (nI_in hjT' (by omega))⟩
      rcases rd_op hA2 hN hj3 rfl ⟨t2, t3⟩ hL hP2 with ⟨c3, m3, g1, g2, g3, g4, g5, g6, g7⟩ | ⟨c3, m3, g0, g1, g2, g3⟩
      · obtain ⟨p', hY3⟩ := PC_SY hP2 g7 g4 g5 g6
        obtain ⟨c4, m4, q4, b1, b2, b3, b4⟩ := pc_AB g3 hL hY3
        have h20 : m3.1 0 20 = 0 := g3.1.2.2.2.2.1
        have eC2 : f_As_readInstruction_L55 (nI N) (shp o) (nI j) c = some (.inl (nI (j + 1), c3)) := by
          rw [eC]
          unfold f_As_readInstruction_J99_1
          rw [if_pos inb, t1, g1, Option.bind_some, if_neg (show ¬ (1 : Int32) = 0 by decide), nI_1]
        have eM2 : f_Mo_readOrder_L40 (nI (200 * b + N)) (f_Mo_form (nI o)) (nI (600 * b + 3 * N + j)) (nI (byj (T) j)) m1 = some (.inl (nI (600 * b + 3 * N + (j + 1)), nI (byj (T) (j + 1)), m4)) := by
          rw [eM]
          unfold f_Mo_readOrder_J95_1 f_Mo_readOrder_J118_1
          rw [g2, Option.bind_some, h20, if_pos (by decide), b2, Option.bind_some, lt_eq, t5, nI_1]
          rfl
        have ihh := ih (j + 1) c3 m3 p' (by omega) g3 hY3
        rw [b2, Option.bind_some] at ihh
        rw [a2, Option.bind_some, wh_inl (a' := (nI (j + 1), c3)) eC2, wh_inl (a' := (nI (600 * b + 3 * N + (j + 1)), nI (byj (T) (j + 1)), m4)) eM2]
        exact ihh
      · refine .inr ⟨c3, m3, wh_inr ?_, ?_, g3⟩
        · show f_As_readInstruction_L55 (nI N) (shp o) (nI j) c = _
          rw [eC]
          unfold f_As_readInstruction_J99_1
          rw [if_pos inb, t1, g0, Option.bind_some, if_pos rfl, g1, Option.bind_some, bN_0]
        · rw [a2, Option.bind_some]
          refine wh_inr ?_
          show f_Mo_readOrder_L40 (nI (200 * b + N)) (f_Mo_form (nI o)) (nI (600 * b + 3 * N + j)) (nI (byj (T) j)) m1 = _
          rw [eM]
          unfold f_Mo_readOrder_J95_1
          rw [g2, Option.bind_some, if_neg (pos_nle g3.2.2)]
    have eC0 : f_As_readInstruction_L55 (nI N) (shp o) (nI j) c = if nI j ≤ 0 then f_As_readInstruction_J99_1 (nI N) (shp o) (nI j) c1 else if c1.1 3 3 = 3 then ((f_Sc_readPiece c1).bind fun q24 => f_As_readInstruction_J99_1 (nI N) (shp o) (nI j) q24) else (f_As_refusePiece c1).bind fun q26 => some (.inr (.inr ((bN q26.1), q26.2))) := by
      unfold f_As_readInstruction_L55
      rw [if_pos hT, htl, if_neg (nI_ge hjT (by omega)), a1, Option.bind_some]
    have eM0 : f_Mo_readOrder_L40 (nI (200 * b + N)) (f_Mo_form (nI o)) (nI (600 * b + 3 * N + j)) (nI (byj (T) j)) m1 = if nI (600 * b + 3 * N + j) ≤ nI (600 * b + 3 * N) then f_Mo_readOrder_J95_1 (nI (200 * b + N)) (f_Mo_form (nI o)) (nI (600 * b + 3 * N + j)) (nI (byj (T) j)) (nI (fm o j)) m1 else if m1.1 0 24 = 4 then f_Mo_readOrder_J83_1 (nI (200 * b + N)) (f_Mo_form (nI o)) (nI (600 * b + 3 * N + j)) (nI (byj (T) j)) (nI (fm o j)) m1 else (f_Mo_wrong m1).bind fun q22 => f_Mo_readOrder_J83_1 (nI (200 * b + N)) (f_Mo_form (nI o)) (nI (600 * b + 3 * N + j)) (nI (byj (T) j)) (nI (fm o j)) q22.2 := by
      unfold f_Mo_readOrder_L40
      rw [if_neg t6, if_neg t7, lt_eq, t4, if_neg (nI_ne0 (by omega) (by omega)), show (3 : Int32) = nI 3 from rfl, nI_mul, show 3 * (200 * b + N) = 600 * b + 3 * N by omega]
    by_cases j0 : j = 0
    · refine core c1 m1 q a3 a4 ?_ ?_
      · rw [eC0, if_pos (show nI j ≤ 0 by rw [j0]; decide)]
      · rw [eM0, if_pos (nI_le (by omega) (by omega))]
    rw [if_neg (nI_nle (by omega) (by omega))] at eC0
    rw [if_neg (nI_ge (by omega) (by omega))] at eM0
    by_cases hc : c1.1 3 3 = 3
    · have h5 : ¬ c1.1 3 3 = 5 := by rw [hc]; decide
      obtain ⟨p', hY1⟩ := PC_SY a4 h5 rfl rfl rfl
      obtain ⟨c2, m2, q2, b1, b2, b3, b4⟩ := pc_AB a3 hL hY1
      have h20 : m1.1 0 20 = 0 := a3.1.2.2.2.2.1
      refine core c2 m2 q2 b3 b4 ?_ ?_
      · rw [eC0, if_pos hc, b1, Option.bind_some]
      · rw [eM0, if_pos ((TK_comma a4.2.2.2.2.1).mp hc)]
        unfold f_Mo_readOrder_J83_1
        rw [h20, if_pos (by decide), b2, Option.bind_some]
    · obtain ⟨c2, m2, w, b1, b2, b3⟩ := wrong_AB a3.1 a4
      refine .inr ⟨c2, m2, wh_inr ?_, ?_, b3⟩
      · show f_As_readInstruction_L55 (nI N) (shp o) (nI j) c = _
        rw [eC0, if_neg hc, b1, Option.bind_some, bN_0]
      · rw [a2, Option.bind_some]
        refine wh_inr ?_
        show f_Mo_readOrder_L40 (nI (200 * b + N)) (f_Mo_form (nI o)) (nI (600 * b + 3 * N + j)) (nI (byj (T) j)) m1 = _
        rw [eM0, if_neg (fun h => hc ((TK_comma a4.2.2.2.2.1).mpr h)), b2, Option.bind_some]
        unfold f_Mo_readOrder_J83_1
        rw [if_neg (pos_nle b3.2.2)]
/-- zeros ahead of the form -/
theorem rd_skip {T : Nat} (hTT : tn (shp o) = T) (hN : N < 200) (ho : o ≤ 50) (hb : b < 2) (m : St) : wh (fun a : (Int32 × Int32 × St) => f_Mo_readOrder_L40 (nI (200 * b + N)) (f_Mo_form (nI o)) a.1 a.2.1 a.2.2) (nI (600 * b + 3 * N), 256, m) = wh (fun a : (Int32 × Int32 × St) => f_Mo_readOrder_L40 (nI (200 * b + N)) (f_Mo_form (nI o)) a.1 a.2.1 a.2.2) (nI (600 * b + 3 * N + 0), nI (byj (T) 0), m) := by
  obtain ⟨hT, hT3⟩ := sh_1 ⟨o, by omega⟩
  have h5 := sh_5 ⟨o, by omega⟩
  simp only at hT hT3 h5
  rw [hTT] at hT3 h5
  have st : ∀ (d : Nat) (w w' : Int32), d < 3 → T ≤ d → w = nI (16 ^ d) → w / 16 = w' → ¬ w ≤ 0 → ¬ w = 0 → f_Mo_readOrder_L40 (nI (200 * b + N)) (f_Mo_form (nI o)) (nI (600 * b + 3 * N)) w m = some (.inl (nI (600 * b + 3 * N), w', m)) := by
    intro d w w' hd ht hw hw' h0 h0'
    unfold f_Mo_readOrder_L40 f_Mo_readOrder_J118_1
    have := h5 ⟨d, hd⟩ ht
    simp only at this
    rw [if_neg h0, if_neg h0', lt_eq, hw, this, if_pos rfl, lt_eq, ← hw, hw']
  have s2 := fun h => st 2 256 16 (by omega) h (by decide) (by decide) (by decide) (by decide)
  have s1 := fun h => st 1 16 1 (by omega) h (by decide) (by decide) (by decide) (by decide)
  have s0 := fun h => st 0 1 0 (by omega) h (by decide) (by decide) (by decide) (by decide)
  have hc : T = 0 ∨ T = 1 ∨ T = 2 ∨ T = 3 := by omega
  rw [Nat.add_zero]
  rcases hc with h | h | h | h
  · rw [wh_inl (a' := (nI (600 * b + 3 * N), 16, m)) (s2 (by omega)), wh_inl (a' := (nI (600 * b + 3 * N), 1, m)) (s1 (by omega)), wh_inl (a' := (nI (600 * b + 3 * N), 0, m)) (s0 (by omega)), h]; rfl
  · rw [wh_inl (a' := (nI (600 * b + 3 * N), 16, m)) (s2 (by omega)), wh_inl (a' := (nI (600 * b + 3 * N), 1, m)) (s1 (by omega)), h]; rfl
  · rw [wh_inl (a' := (nI (600 * b + 3 * N), 16, m)) (s2 (by omega)), h]; rfl
  · rw [h]; rfl
end INSTR
