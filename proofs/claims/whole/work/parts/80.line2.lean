/-! ===== labels told, and the whole line ===== -/
section LINE2
variable {L : Nat} {sg : Nat → Nat} {P b : Nat} {c0 m0 c m : St} {N nl o j : Nat} {p0 e p q : Nat}
theorem lab_add (hR : AR L sg P b c0 m0 N nl c m) (hnl : nl < 200) {n : Nat} (hW : WD sg q n) (hq : q ≤ 3000) : AR L sg P b c0 m0 N (nl + 1) (uI (uI (uJ c 5 nl (lN (wn sg q n))) 6 nl (nI N)) 2 4 (nI (nl + 1))) (uI (uI (uI (uI m 6 nl (nI q)) 7 nl (nI n)) 8 nl (nI N)) 0 17 (nI (nl + 1))) := by
  obtain ⟨⟨h1, h2, h3, h4, h5, h6, h7, h8, h9⟩, hU⟩ := hR
  have hP := BA_i h1
  have ck : ∀ k, k ≠ 2 → k ≠ 6 → (uI (uI (uJ c 5 nl (lN (wn sg q n))) 6 nl (nI N)) 2 4 (nI (nl + 1))).1 k = c.1 k := fun k x y => by rw [uI_n x, uI_n y]; rfl
  have c2 : ∀ i, i ≠ 4 → (uI (uI (uJ c 5 nl (lN (wn sg q n))) 6 nl (nI N)) 2 4 (nI (nl + 1))).1 2 i = c.1 2 i := fun i hi => by rw [uI_o (by omega), uI_n (by omega)]; rfl
  have c6 : ∀ i, i ≠ nl → (uI (uI (uJ c 5 nl (lN (wn sg q n))) 6 nl (nI N)) 2 4 (nI (nl + 1))).1 6 i = c.1 6 i := fun i hi => by rw [uI_n (by omega), uI_o (by omega)]; rfl
  have mk : ∀ k, k ≠ 0 → k ≠ 6 → k ≠ 7 → k ≠ 8 → (uI (uI (uI (uI m 6 nl (nI q)) 7 nl (nI n)) 8 nl (nI N)) 0 17 (nI (nl + 1))).1 k = m.1 k := fun k x0 x6 x7 x8 => by rw [uI_n x0, uI_n x8, uI_n x7, uI_n x6]
  have m_0 : ∀ i, i ≠ 17 → (uI (uI (uI (uI m 6 nl (nI q)) 7 nl (nI n)) 8 nl (nI N)) 0 17 (nI (nl + 1))).1 0 i = m.1 0 i := fun i hi => by rw [uI_o (by omega), uI_n (by omega), uI_n (by omega), uI_n (by omega)]
  refine ⟨⟨BA_m (BA_m (BA_m (BA_m (BA_c (BA_c (BA_J h1 (by omega)) (by omega)) (by omega)) (by omega)) (by omega)) (by omega)) (by omega), by rw [ck P (by omega) (by omega)]; exact h2, (m_0 15 (by omega)).trans h3, by rw [ck P (by omega) (by omega)]; exact h4, (m_0 20 (by omega)).trans h5, ?_, ?_, fun i hi => PI_of (h8 i hi) (by rw [ck (P + 1) (by omega) (by omega)]) (fun j' _ => by rw [ck (P + 2) (by omega) (by omega)]) (by rw [ck (P + 3) (by omega) (by omega)]) (by rw [mk 3 (by omega) (by omega) (by omega) (by omega)]) (fun j' _ => by rw [mk 4 (by omega) (by omega) (by omega) (by omega)]) (fun j' _ => by rw [mk 5 (by omega) (by omega) (by omega) (by omega)]), ?_⟩, ?_⟩
  · unfold FLT; rw [c2 10 (by omega), c2 11 (by omega), c2 12 (by omega), m_0 20 (by omega), m_0 21 (by omega), m_0 22 (by omega)]; exact h6
  · rw [c2 8 (by omega), m_0 23 (by omega)]; exact h7
  · obtain ⟨l1, l2, l3, l4⟩ := h9
    refine ⟨by omega, uI_v, uI_v, fun i hi => ?_⟩
    by_cases ei : i = nl
    · subst ei
      refine ⟨q, n, N, hW, hq, uJ_v, ?_, ?_, Nat.le_refl _, ?_, ?_⟩
      · rw [uI_n (by omega), uI_n (by omega), uI_n (by omega), uI_v]
      · rw [uI_n (by omega), uI_n (by omega), uI_v]
      · rw [uI_n (by omega), uI_v]
      · rw [uI_n (by omega), uI_v]
    · obtain ⟨a, n', t, b1, b2, b3, b4, b5, b6, b7, b8⟩ := l4 i (by omega)
      refine ⟨a, n', t, b1, b2, (uJ_o ei).trans b3, ?_, ?_, b6, (c6 i ei).trans b7, ?_⟩
      · rw [uI_n (by omega), uI_n (by omega), uI_n (by omega), uI_o (by omega)]; exact b4
      · rw [uI_n (by omega), uI_n (by omega), uI_o (by omega), uI_n (by omega)]; exact b5
      · rw [uI_n (by omega), uI_o (by omega), uI_n (by omega), uI_n (by omega)]; exact b8
  · exact USE_of hU (fun i _ => by rw [ck (P + 1) (by omega) (by omega)]) (fun i _ => by show (uJ c 5 nl (lN (wn sg q n))).2.1 7 i = _; rw [uJ_n (by omega)]) (fun i _ => by rw [ck 8 (by omega) (by omega)]) (fun i _ => by rw [ck 9 (by omega) (by omega)]) (m_0 18 (by omega)) (mk 9 (by omega) (by omega) (by omega) (by omega)) (mk 10 (by omega) (by omega) (by omega) (by omega)) (mk 11 (by omega) (by omega) (by omega) (by omega)) (mk 12 (by omega) (by omega) (by omega) (by omega))
/-- a line's outcome -/
def LO (L : Nat) (sg : Nat → Nat) (P b : Nat) (c0 m0 : St) (N nl e : Nat) (xc : Option (Int32 × St)) (xm : Option St) : Prop :=
  (∃ c' m' N' nl', xc = some (1, c') ∧ xm = some m' ∧ AR L sg P b c0 m0 N' nl' c' m' ∧ N' ≤ N ∧ nl' ≤ nl ∧ m'.1 0 26 = nI e) ∨ (∃ c' m', xc = some (0, c') ∧ xm = some m' ∧ FL L sg P b c0 m0 c' m')
theorem pc_AR (hR : AR L sg P b c0 m0 N nl c m) (hL : LE L sg p0 e) (hY : SY p0 e p c m) : ∃ c' m' q, f_Sc_readPiece c = some c' ∧ f_Mo_next m = some m' ∧ AR L sg P b c0 m0 N nl c' m' ∧ PC sg p0 e q c' m' := by
  obtain ⟨c', m', q, a1, a2, a3, a4, a5⟩ := pc_next hR.1.1 hL hY
  exact ⟨c', m', q, a1, a2, AR_SF hR a3 a4, a5⟩
theorem lo_wrong {X Y : Nat} (hR : AR L sg P b c0 m0 N nl c m) (hP : PC sg p0 e q c m) {xc : Option (Int32 × St)} {xm : Option St} (h1 : xc = (f_As_refusePiece c).bind fun q11 => some ((bN (q11.1)), q11.2)) (h2 : xm = (f_Mo_wrong m).bind fun q33 => some (q33.2)) : LO L sg P b c0 m0 X Y e xc xm := by
  obtain ⟨c', m', w, a1, a2, a3⟩ := wrong_AB hR.1 hP
  exact .inr ⟨c', m', by rw [h1, a1, Option.bind_some, bN_0], by rw [h2, a2]; rfl, a3⟩
theorem lo_ins (hR : AR L sg P b c0 m0 N nl c m) (hN : N < 200) {k Y : Nat} (hY' : nl ≤ Y) (hk : k ≤ 50) (hL : LE L sg p0 e) (hP : PC sg p0 e q c m) (h5 : ¬ c.1 3 3 = 5) {xc : Option (Int32 × St)} {xm : Option St} (h1 : xc = (f_As_readInstruction (nI k) c).bind fun q9 => some ((bN (q9.1)), q9.2)) (h2 : xm = (f_Mo_readOrder (nI k) m).bind fun q13 => some q13) : LO L sg P b c0 m0 (N + 1) Y e xc xm := by
  obtain ⟨p', hY⟩ := PC_SY hP h5 rfl rfl rfl
  rcases rd_ins hR hN hk hL hY with ⟨c', m', a1, a2, a3, a4⟩ | ⟨c', m', a1, a2, a3⟩
  · exact .inl ⟨c', m', N + 1, nl, by rw [h1, a1, Option.bind_some, bN_1], by rw [h2, a2]; rfl, a3, Nat.le_refl _, hY', a4⟩
  · exact .inr ⟨c', m', by rw [h1, a1, Option.bind_some, bN_0], by rw [h2, a2]; rfl, a3⟩
/-- behind a label, or without one: the rest of the line -/
theorem lo_rest (hR : AR L sg P b c0 m0 N nl c m) (hN : N < 200) {Y : Nat} (hY' : nl ≤ Y) (hL : LE L sg p0 e) (hP : PC sg p0 e q c m) {xm : Option St}
    (g0 : m.1 0 24 = 0 → xm = some m) (g2 : ∀ w, m.1 0 24 = 2 → f_Mo_instruction m = some w → (0 ≤ w → xm = (f_Mo_readOrder w m).bind fun q13 => some q13) ∧ (¬ 0 ≤ w → xm = (f_Mo_wrong m).bind fun q33 => some (q33.2))) (g9 : m.1 0 24 ≠ 0 → m.1 0 24 ≠ 2 → xm = (f_Mo_wrong m).bind fun q33 => some (q33.2)) : LO L sg P b c0 m0 (N + 1) Y e (f_As_readLine_J30 c) xm := by
  have hT := hP.2.2.2.2.1
  have hTM := BA_M hR.1.1
  have hL3 := hTM.1
  have hLe := hL.1
  by_cases h0 : c.1 3 3 = 0
  · exact .inl ⟨c, m, N, nl, by unfold f_As_readLine_J30; rw [if_pos h0], g0 ((TK_end hT).mp h0), hR, by omega, hY', TK_endp hT h0⟩
  have m0' : m.1 0 24 ≠ 0 := fun h => h0 ((TK_end hT).mpr h)
  by_cases h1 : c.1 3 3 = 1
  · rcases hT with ⟨a, _⟩ | ⟨n, W1, W2, _, a', a3, a4, a5⟩ | ⟨r, _, _, a, _⟩ | ⟨_, a, _⟩ | ⟨_, a, _⟩ | ⟨a, _⟩
    · exact absurd a h0
    · have W8 := W1.2.1
      obtain ⟨oi, i1, i2, i3⟩ := ins_eq (BA_N hR.1.1) hTM (q := q) (n := n) (by omega) hP.2.2.2.1 a4
      obtain ⟨k1, k2⟩ := g2 oi a' i2
      have h5 : ¬ c.1 3 3 = 5 := by rw [h1]; decide
      have eC : f_As_readLine_J30 c = f_As_readLine_J68 oi c := by
        unfold f_As_readLine_J30
        rw [if_neg h0, if_pos h1, a5, i1, Option.bind_some]
      rw [eC]
      unfold f_As_readLine_J68
      rcases i3 with rfl | ⟨k, hk, rfl, _⟩
      · rw [if_pos rfl]
        exact lo_wrong hR hP rfl (k2 (by decide))
      · rw [if_neg (nI_nm1 (by omega))]
        exact lo_ins hR hN hY' hk hL hP h5 rfl (k1 (nI_pos' (by omega)))
    · rw [h1] at a; exact absurd a (by decide)
    · rw [h1] at a; exact absurd a (by decide)
    · rw [h1] at a; exact absurd a (by decide)
    · rw [h1] at a; exact absurd a (by decide)
  · have m2 : m.1 0 24 ≠ 2 := by
      rcases hT with ⟨a, _⟩ | ⟨n, W1, W2, a, _⟩ | ⟨r, _, _, _, a, _⟩ | ⟨_, _, a, _⟩ | ⟨_, _, a, _⟩ | ⟨_, a⟩
      · exact absurd a h0
      · exact absurd a h1
      · rw [a]; decide
      · rw [a]; decide
      · rw [a]; decide
      · rw [a]; decide
    have eC : f_As_readLine_J30 c = (f_As_refusePiece c).bind fun q11 => some ((bN (q11.1)), q11.2) := by
      unfold f_As_readLine_J30 f_As_readLine_J68
      rw [if_neg h0, if_neg h1, if_pos rfl]
    rw [eC]
    exact lo_wrong hR hP rfl (g9 m0' m2)
theorem rd_line (hR : AR L sg P b c0 m0 N nl c m) (hN : N < 200) (hnl : nl < 200) (hL : LE L sg p0 e) (hY : SY p0 e p c m) : LO L sg P b c0 m0 (N + 1) (nl + 1) e (f_As_readLine c) (f_Mo_readLine m) := by
  obtain ⟨c1, m1, q, a1, a2, a3, a4⟩ := pc_AR hR hL hY
  have hT := a4.2.2.2.2.1
  have hB1 := a3.1.1
  have hTM := BA_M hB1
  have hL3 := hTM.1
  have hLe := hL.1
  have eC : f_As_readLine c = (f_As_isLabel c1).bind fun q3 => if q3 = 0 then f_As_readLine_J30 c1 else (f_As_readLabel c1).bind fun q15 => if q15.1 = 0 then some (0, q15.2) else (f_Sc_readPiece (q15.2)).bind fun q18 => f_As_readLine_J30 q18 := by
    unfold f_As_readLine
    rw [a1, Option.bind_some]
  have eM : f_Mo_readLine m = if (m1.1 0 24) = 0 then some m1 else if (m1.1 0 24) = 2 then ((f_Mo_named m1).bind fun q7 => if q7 < 0 then ((f_Mo_instruction m1).bind fun q10 => if 0 ≤ q10 then f_Mo_readLine_J181 q10 m1 else lt (m1.1 0 25) fun x15 => lt ((m1.1 0 26) - (m1.1 0 25)) fun x16 => (f_Mo_next m1).bind fun q17 => if (q17.1 0 24) = 5 then ((f_Mo_labelOf x15 x16 q17).bind fun q20 => if q20 < 0 then f_Mo_readLine_J91 x15 x16 q17 else (f_Mo_fails 3 x15 q17).bind fun q37 => f_Mo_readLine_J91 x15 x16 (q37.2)) else (f_Mo_wrong q17).bind fun q39 => some (q39.2)) else f_Mo_readLine_J27 m1) else f_Mo_readLine_J27 m1 := by
    unfold f_Mo_readLine
    rw [a2, Option.bind_some]
  rw [eC]
  by_cases h1 : c1.1 3 3 = 1
  · have hT' := hT
    rcases hT with ⟨a, _⟩ | ⟨n, W1, W2, _, a', b3, b4, b5⟩ | ⟨r, _, _, a, _⟩ | ⟨_, a, _⟩ | ⟨_, a, _⟩ | ⟨a, _⟩
    · rw [h1] at a; exact absurd a (by decide)
    · have W8 := W1.2.1
      obtain ⟨oi, i1, i2, i3⟩ := ins_eq (BA_N hB1) hTM (q := q) (n := n) (by omega) a4.2.2.2.1 b4
      obtain ⟨g1, g2⟩ := reg_of hTM.2.2.2.2 W1
      obtain ⟨k1, k2⟩ := mo_named hTM (q := q) (n := n) (by omega) a' a4.2.2.2.1 b4
      rw [if_neg (show ¬ m1.1 0 24 = 0 by rw [a']; decide), if_pos a'] at eM
      by_cases hr : rgn sg q n
      · -- a register's name
        have hr8 := hr.2.2
        have lab : f_As_isLabel c1 = some 0 := by
          unfold f_As_isLabel
          rw [if_pos h1, b5, g1 hr, if_neg (nI_nm1 (by omega))]
        have hoi : oi = -1 := by
          rcases i3 with h | ⟨k, hk, _, hname⟩
          · exact h
          · rw [rgn_wn hr] at hname
            exact absurd hname (no_reg_name ⟨k, by omega⟩ ⟨sg (q + 1) - 48, by omega⟩)
        rw [k1 hr, Option.bind_some, if_neg (nI_pos (by omega))] at eM
        rw [lab, Option.bind_some, if_pos rfl]
        have eJ : f_As_readLine_J30 c1 = (f_As_refusePiece c1).bind fun q11 => some ((bN (q11.1)), q11.2) := by
          unfold f_As_readLine_J30 f_As_readLine_J68
          rw [if_neg (show ¬ c1.1 3 3 = 0 by rw [h1]; decide), if_pos h1, b5, i1, hoi, Option.bind_some, if_pos rfl]
        rw [eJ]
        exact lo_wrong a3 a4 rfl eM
      · rw [k2 hr, Option.bind_some, if_pos (by decide), i2, Option.bind_some] at eM
        rcases i3 with hoi | ⟨k, hk, hoi, _⟩
        · -- a label is told
          rw [hoi, if_neg (show ¬ (0 : Int32) ≤ -1 by decide), a4.2.2.2.1, b4, nI_sub (by omega), show q + n - q = n by omega, lt_eq, lt_eq] at eM
          have lab : f_As_isLabel c1 = some 1 := by
            unfold f_As_isLabel
            rw [if_pos h1, b5, g2 hr, if_pos rfl, i1, hoi, Option.bind_some, if_pos rfl]
          rw [lab, Option.bind_some, if_neg (show ¬ (1 : Int32) = 0 by decide)]
          have h5 : ¬ c1.1 3 3 = 5 := by rw [h1]; decide
          obtain ⟨p', hY1⟩ := PC_SY a4 h5 rfl rfl rfl
          obtain ⟨c2, m2, q2, d1, d2, d3, d4⟩ := pc_AR a3 hL hY1
          have hT2 := d4.2.2.2.2.1
          have hB2 := d3.1.1
          have hgP : isP (c2.2.2 2) := by rw [BA_P hB2]; exact hB2.1.1
          rw [d2, Option.bind_some] at eM
          have eL : f_As_readLabel c1 = if c2.1 3 3 = 4 then ((f_As_findLabel (lN (wn sg q n)) c2).bind fun q6 => if q6 = (-1) then (if 200 ≤ (c2.1 2 4) then some (1, c2) else gd (c2.1 2 4) 200 <| lt (uJ c2 5 ((c2.1 2 4) : Int32).toNatClampNeg (lN (wn sg q n))) fun s10 => gP (s10.2.2 2) fun p11 => gd (s10.1 2 4) 200 <| lt (uI s10 6 ((s10.1 2 4) : Int32).toNatClampNeg (s10.1 p11 3)) fun s13 => lt (uI s13 2 4 ((s13.1 2 4) + 1)) fun s14 => some (1, s14)) else (f_As_refuse 3 (nI q) (c2.1 2 8) c2).bind fun q15 => some (0, q15)) else (f_As_refusePiece c2).bind fun q17 => some ((bN (q17.1)), q17.2) := by
            unfold f_As_readLabel
            rw [b5, a4.2.2.1, lt_eq, lt_eq, d1, Option.bind_some]
          rw [eL]
          by_cases hcol : c2.1 3 3 = 4
          · rw [if_pos hcol]
            rw [if_pos ((TK_colon hT2).mp hcol)] at eM
            obtain ⟨r, r1, r2, r3⟩ := find_eq (BA_M hB2) d3.1.2.2.2.2.2.2.2.2 W1 (show q ≤ 3000 by omega)
            rw [r1, Option.bind_some]
            rw [r2, Option.bind_some] at eM
            have l4 : c2.1 2 4 = nI nl := d3.1.2.2.2.2.2.2.2.2.2.1
            have l17 : m2.1 0 17 = nI nl := d3.1.2.2.2.2.2.2.2.2.2.2.1
            have h20 : m2.1 0 20 = 0 := d3.1.2.2.2.2.1
            rcases r3 with hr1 | ⟨i, hi, hr1⟩
            · rw [hr1, if_pos rfl]
              rw [hr1, if_pos (show (-1 : Int32) < 0 by decide)] at eM
              have h5c : ¬ c2.1 3 3 = 5 := by rw [hcol]; decide
              have hAdd := lab_add d3 hnl W1 (show q ≤ 3000 by omega)
              obtain ⟨cl, hcl⟩ : ∃ cl, cl = uI (uI (uJ c2 5 nl (lN (wn sg q n))) 6 nl (nI N)) 2 4 (nI (nl + 1)) := ⟨_, rfl⟩
              obtain ⟨ml, hml⟩ : ∃ ml, ml = uI (uI (uI (uI m2 6 nl (nI q)) 7 nl (nI n)) 8 nl (nI N)) 0 17 (nI (nl + 1)) := ⟨_, rfl⟩
              rw [← hcl, ← hml] at hAdd
              obtain ⟨p2, hY2⟩ := PC_SY (c' := cl) (m' := ml) d4 h5c (by rw [hcl, uI_n (by omega), uI_n (by omega)]; rfl) (by rw [hcl]; rfl) (by rw [hml, uI_o (by omega), uI_n (by omega), uI_n (by omega), uI_n (by omega)])
              obtain ⟨c3, m3, q3, f1, f2, f3, f4⟩ := pc_AR hAdd hL hY2
              have eS : (if 200 ≤ (c2.1 2 4) then some (1, c2) else gd (c2.1 2 4) 200 <| lt (uJ c2 5 ((c2.1 2 4) : Int32).toNatClampNeg (lN (wn sg q n))) fun s10 => gP (s10.2.2 2) fun p11 => gd (s10.1 2 4) 200 <| lt (uI s10 6 ((s10.1 2 4) : Int32).toNatClampNeg (s10.1 p11 3)) fun s13 => lt (uI s13 2 4 ((s13.1 2 4) + 1)) fun s14 => some ((1 : Int32), s14)) = some (1, cl) := by
                rw [l4, if_neg (show ¬ 200 ≤ nI nl from nI_ge (b := 200) hnl (by decide)), gd_nI hnl (by omega), nI_clamp (by omega), lt_eq, gP_e (show isP ((uJ c2 5 nl (lN (wn sg q n))).2.2 2) from hgP), uJ_11, l4, gd_nI hnl (by omega), nI_clamp (by omega), show (uJ c2 5 nl (lN (wn sg q n))).2.2 2 = P from (show c2.2.2 2 = P from BA_P hB2), d3.1.2.1, lt_eq, uI_n (show (2 : Nat) ≠ 6 by omega), uJ_11, l4, nI_1, lt_eq, hcl]
              rw [eS, Option.bind_some, if_neg (show ¬ (1 : Int32) = 0 by decide)]
              dsimp only
              rw [f1, Option.bind_some]
              have eM2 : f_Mo_readLine m = if (m3.1 0 24) = 0 then some m3 else if (m3.1 0 24) = 2 then ((f_Mo_instruction m3).bind fun q35 => f_Mo_readLine_J170 q35 m3) else f_Mo_readLine_J170 (-1) m3 := by
                rw [eM]
                unfold f_Mo_readLine_J91
                rw [h20, if_pos (by decide), l17, gd_nI (by omega) (by omega), nI_clamp (by omega), lt_eq, uI_n (show (0 : Nat) ≠ 6 by omega), l17, gd_nI (by omega) (by omega), nI_clamp (by omega), lt_eq, uI_n (show (0 : Nat) ≠ 7 by omega), uI_n (show (0 : Nat) ≠ 6 by omega), l17, gd_nI (by omega) (by omega), nI_clamp (by omega), lt_eq, uI_n (show (0 : Nat) ≠ 8 by omega), uI_n (show (0 : Nat) ≠ 7 by omega), uI_n (show (0 : Nat) ≠ 6 by omega), l17, nI_1, lt_eq, d3.1.2.2.1, ← hml, f2, Option.bind_some]
              refine lo_rest f3 hN (Nat.le_refl _) hL f4 (fun h => by rw [eM2, if_pos h]) (fun w h hi => ?_) (fun h h' => ?_)
              · rw [eM2, if_neg (show ¬ m3.1 0 24 = 0 by rw [h]; decide), if_pos h, hi, Option.bind_some]
                unfold f_Mo_readLine_J170 f_Mo_readLine_J181
                exact ⟨fun h => if_pos h, fun h => if_neg h⟩
              · rw [eM2, if_neg h, if_neg h']
                unfold f_Mo_readLine_J170
                exact if_neg (by decide)
            · rw [hr1, if_neg (nI_nm1 (by omega))]
              rw [hr1, if_neg (nI_pos (by omega))] at eM
              obtain ⟨c', m', x1, x2, x3, _⟩ := as_refuse hB2 h20 (k := 3) (q := nI q) (l := c2.1 2 8) (by decide) d3.1.2.2.2.2.2.2.1.symm
              rw [x2, Option.bind_some] at eM
              unfold f_Mo_readLine_J91 at eM
              dsimp only at eM
              rw [if_neg (pos_nle x3.2.2)] at eM
              exact .inr ⟨c', m', by rw [x1, Option.bind_some, Option.bind_some, if_pos rfl], eM, x3⟩
          · rw [if_neg hcol]
            rw [if_neg (fun h => hcol ((TK_colon hT2).mpr h))] at eM
            obtain ⟨c', m', w, x1, x2, x3⟩ := wrong_AB d3.1 d4
            exact .inr ⟨c', m', by rw [x1, Option.bind_some, Option.bind_some, bN_0, if_pos rfl], by rw [eM, x2]; rfl, x3⟩
        · have lab : f_As_isLabel c1 = some 0 := by
            unfold f_As_isLabel
            rw [if_pos h1, b5, g2 hr, if_pos rfl, i1, hoi, Option.bind_some, if_neg (nI_nm1 (by omega))]
          rw [lab, Option.bind_some, if_pos rfl]
          have h5 : ¬ c1.1 3 3 = 5 := by rw [h1]; decide
          have eJ : f_As_readLine_J30 c1 = (f_As_readInstruction (nI k) c1).bind fun q9 => some ((bN (q9.1)), q9.2) := by
            unfold f_As_readLine_J30 f_As_readLine_J68
            rw [if_neg (show ¬ c1.1 3 3 = 0 by rw [h1]; decide), if_pos h1, b5, i1, hoi, Option.bind_some, if_neg (nI_nm1 (by omega))]
          rw [eJ]
          rw [hoi, if_pos (nI_pos' (by omega))] at eM
          exact lo_ins a3 hN (by omega) hk hL a4 h5 rfl eM
    · rw [h1] at a; exact absurd a (by decide)
    · rw [h1] at a; exact absurd a (by decide)
    · rw [h1] at a; exact absurd a (by decide)
    · rw [h1] at a; exact absurd a (by decide)
  · have lab : f_As_isLabel c1 = some 0 := by
      unfold f_As_isLabel
      rw [if_neg h1]
    rw [lab, Option.bind_some, if_pos rfl]
    have n2 : c1.1 3 3 ≠ 1 → m1.1 0 24 ≠ 2 := by
      intro _
      rcases hT with ⟨_, a, _⟩ | ⟨n, W1, W2, a, _⟩ | ⟨r, _, _, _, a, _⟩ | ⟨_, _, a, _⟩ | ⟨_, _, a, _⟩ | ⟨_, a⟩
      · rw [a]; decide
      · exact absurd a h1
      · rw [a]; decide
      · rw [a]; decide
      · rw [a]; decide
      · rw [a]; decide
    refine lo_rest a3 hN (by omega) hL a4 (fun h => by rw [eM, if_pos h]) (fun w h _ => absurd h (n2 h1)) (fun h h' => ?_)
    rw [eM, if_neg h, if_neg h']
    rfl
end LINE2
