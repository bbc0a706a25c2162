/-! ===== a line read ===== -/
section LINE
variable {L : Nat} {sg : Nat → Nat} {P b : Nat} {c0 m0 c m : St} {N nl o j : Nat} {p0 e p q : Nat}
theorem rd_start (hR : AR L sg P b c0 m0 N nl c m) (hN : N < 200) (ho : o ≤ 50) : AB L sg P b c0 m0 N nl o 0 (uI (uI (uJ c 7 N 0) (P + 1) N (nI o)) (P + 3) N 0) (uI m 3 (200 * b + N) (nI o)) := by
  obtain ⟨⟨h1, h2, h3, h4, h5, h6, h7, h8, h9⟩, hU⟩ := hR
  have hP := BA_i h1
  have ck : ∀ k, k ≠ P + 1 → k ≠ P + 3 → (uI (uI (uJ c 7 N 0) (P + 1) N (nI o)) (P + 3) N 0).1 k = c.1 k := fun k x y => by rw [uI_n y, uI_n x]; rfl
  have c1 : ∀ i, i ≠ N → (uI (uI (uJ c 7 N 0) (P + 1) N (nI o)) (P + 3) N 0).1 (P + 1) i = c.1 (P + 1) i := fun i hi => by rw [uI_n (by omega), uI_o (by omega)]; rfl
  have c3 : ∀ i, i ≠ N → (uI (uI (uJ c 7 N 0) (P + 1) N (nI o)) (P + 3) N 0).1 (P + 3) i = c.1 (P + 3) i := fun i hi => by rw [uI_o (by omega), uI_n (by omega)]; rfl
  have c7 : ∀ i, i ≠ N → (uI (uI (uJ c 7 N 0) (P + 1) N (nI o)) (P + 3) N 0).2.1 7 i = c.2.1 7 i := fun i hi => uJ_o hi
  refine ⟨⟨BA_m (BA_c (BA_c (BA_J h1 (by omega)) (by omega)) (by omega)) (by omega), by rw [ck P (by omega) (by omega)]; exact h2, by rw [uI_n (by omega)]; exact h3, by rw [ck P (by omega) (by omega)]; exact h4, by rw [uI_n (by omega)]; exact h5, ?_, ?_, fun i hi => PI_of (h8 i hi) (c1 i (by omega)) (fun j' _ => by rw [ck (P + 2) (by omega) (by omega)]) (c3 i (by omega)) (uI_o (by omega)) (fun j' _ => by rw [uI_n (by omega)]) (fun j' _ => by rw [uI_n (by omega)]), LBL_of h9 (by rw [ck 2 (by omega) (by omega)]) (uJ_n (by omega)) (ck 6 (by omega) (by omega)) (by rw [uI_n (by omega)]) (uI_n (by omega)) (uI_n (by omega)) (uI_n (by omega))⟩, ho, ?_, uI_v, fun j' hj' => absurd hj' (by omega), .inl uI_v, .inl ⟨?_, uJ_v, fun j' hj' => absurd hj' (by omega)⟩⟩
  · unfold FLT; rw [ck 2 (by omega) (by omega), uI_n (by omega)]; exact h6
  · rw [ck 2 (by omega) (by omega), uI_n (by omega)]; exact h7
  · rw [uI_n (by omega), uI_v]
  · exact USE_of hU (fun i hi => c1 i (by omega)) (fun i hi => c7 i (by omega)) (fun i hi => by rw [ck 8 (by omega) (by omega)]) (fun i hi => by rw [ck 9 (by omega) (by omega)]) (by rw [uI_n (by omega)]) (uI_n (by omega)) (uI_n (by omega)) (uI_n (by omega)) (uI_n (by omega))
theorem USE_ext (h : USE sg P b N c m) (h0 : c.2.1 7 N = 0) (ho : o ≤ 50) (h1 : c.1 (P + 1) N = nI o) (hf : ∀ j, j < 3 → fm o j ≠ 4) : USE sg P b (N + 1) c m := by
  obtain ⟨nu, ui, u1, u2, u3, u4, u5, u6⟩ := h
  refine ⟨nu, ui, by omega, u2, fun u hu => ⟨by have := (u3 u hu).1; omega, (u3 u hu).2⟩, u4, fun i hi hw => ?_, fun i o' j' hi ho' he hj' hf' => ?_⟩
  · by_cases e : i = N
    · rw [e] at hw; exact absurd h0 hw
    · exact u5 i (by omega) hw
  · by_cases e : i = N
    · rw [e, h1] at he
      have : o = o' := (nI_eq (by omega) (by omega)).mp he
      rw [← this] at hf'
      exact absurd hf' (hf j' hj')
    · exact u6 i o' j' (by omega) ho' he hj' hf'
theorem rd_ins (hR : AR L sg P b c0 m0 N nl c m) (hN : N < 200) (ho : o ≤ 50) (hL : LE L sg p0 e) (hY : SY p0 e p c m) :
    (∃ c' m', f_As_readInstruction (nI o) c = some (1, c') ∧ f_Mo_readOrder (nI o) m = some m' ∧ AR L sg P b c0 m0 (N + 1) nl c' m' ∧ m'.1 0 26 = nI e)
    ∨ (∃ c' m', f_As_readInstruction (nI o) c = some (0, c') ∧ f_Mo_readOrder (nI o) m = some m' ∧ FL L sg P b c0 m0 c' m') := by
  have hB := hR.1.1
  have hP := BA_i hB
  have hgP : isP (c.2.2 2) := by rw [BA_P hB]; exact hB.1.1
  obtain ⟨T, hTT⟩ : ∃ T, tn (shp o) = T := ⟨_, rfl⟩
  have hA := rd_start hR hN ho
  obtain ⟨ci, hci⟩ : ∃ ci, ci = uI (uI (uJ c 7 N 0) (P + 1) N (nI o)) (P + 3) N 0 := ⟨_, rfl⟩
  obtain ⟨mi, hmi⟩ : ∃ mi, mi = uI m 3 (200 * b + N) (nI o) := ⟨_, rfl⟩
  rw [← hci, ← hmi] at hA
  have hYi : SY p0 e p ci mi := by
    obtain ⟨y1, y2, y3, y4, y5, y6⟩ := hY
    have e3 : ci.1 3 = c.1 3 := by rw [hci, uI_n (by omega), uI_n (by omega)]; rfl
    exact ⟨y1, y2, by rw [e3]; exact y3, by rw [hmi, uI_n (by omega)]; exact y4, by rw [e3]; exact y5, by rw [hci]; exact y6⟩
  have eC : f_As_readInstruction (nI o) c = (wh (fun a : (Int32 × St) => f_As_readInstruction_L55 (nI N) (shp o) a.1 a.2) (nI 0, ci)).bind (Sum.elim (fun b28 => (f_Sc_readPiece (b28.2)).bind fun q29 => if (q29.1 3 3) = 0 then (gP (q29.2.2 2) fun p32 => lt (uI q29 p32 3 ((q29.1 p32 3) + 1)) fun s34 => some (1, s34)) else (f_As_refusePiece q29).bind fun q35 => some ((bN (q35.1)), q35.2)) some) := by
    unfold f_As_readInstruction
    rw [gP_e hgP, BA_P hB, hR.1.2.1, lt_eq, if_pos (show nI N < 200 from nI_lt (b := 200) hN (by decide)), gd_nI hN (by omega), nI_clamp (by omega), lt_eq, gP_e (show isP ((uJ c 7 N 0).2.2 2) from hgP), gd_nI hN (by omega), lt_eq, gP_e (show isP ((uI (uJ c 7 N 0) ((uJ c 7 N 0).2.2 2 + 1) N (nI o)).2.2 2) from hgP), gd_nI hN (by omega), lt_eq, bN_0]
    rw [show (uJ c 7 N 0).2.2 2 = P from (show c.2.2 2 = P from BA_P hB)]
    rw [show (uI (uJ c 7 N 0) (P + 1) N (nI o)).2.2 2 = P from (show c.2.2 2 = P from BA_P hB), ← hci]
    rfl
  have eM : f_Mo_readOrder (nI o) m = ((f_Mo_next mi).bind fun q4 => wh (fun a : (Int32 × Int32 × St) => f_Mo_readOrder_L40 (nI (200 * b + N)) (f_Mo_form (nI o)) a.1 a.2.1 a.2.2) (nI (600 * b + 3 * N + 0), nI (byj T 0), q4)).bind (Sum.elim (fun b24 => if (b24.2.2.1 0 24) = 0 then f_Mo_readOrder_J140 (b24.2.2) else (f_Mo_wrong (b24.2.2)).bind fun q27 => f_Mo_readOrder_J140 (q27.2)) some) := by
    unfold f_Mo_readOrder
    rw [BA_b hB, hR.1.2.2.1, show (200 : Int32) = nI 200 from rfl, nI_mul, nI_add, lt_eq, gd_nI (by omega) (by omega), nI_clamp (by omega), lt_eq, ← hmi, lt_eq, show (3 : Int32) = nI 3 from rfl, nI_mul, show 3 * (200 * b + N) = 600 * b + 3 * N by omega]
    cases hn : f_Mo_next mi with
    | none => rfl
    | some q4 =>
      rw [Option.bind_some, Option.bind_some, lt_eq, rd_skip hTT hN ho hP.2 q4]
  have hl := rd_loop hTT hN ho hL T 0 ci mi p (by omega) hA hYi
  rcases hl with ⟨c', m', mp', p', x, y, g1, g2, g3, g4, g5⟩ | ⟨c', m', g1, g2, g3⟩
  · obtain ⟨c2, m2, q2, a1, a2, a3, a4⟩ := pc_AB g3 hL g4
    have em : m2 = m' := by rw [a2] at g5; exact Option.some.inj g5
    rw [em] at a3 a4
    have hB2 := a3.1.1
    have hTe := a4.2.2.2.2.1
    by_cases h0 : c2.1 3 3 = 0
    · obtain ⟨⟨k1, k2, k3, k4, k5, k6, k7, k8, k9⟩, b0, b1, b2, b3, b4, b5⟩ := a3
      refine .inl ⟨uI c2 P 3 (nI (N + 1)), uI m' 0 15 (nI (N + 1)), ?_, ?_, ⟨⟨BA_m (BA_c hB2 (by omega)) (by omega), uI_v, uI_v, by rw [uI_o (by omega)]; exact k4, by rw [uI_o (by omega)]; exact k5, ?_, ?_, fun i hi => ?_, ?_⟩, ?_⟩, ?_⟩
      · rw [eC, g1, Option.bind_some]
        show (f_Sc_readPiece c').bind _ = _
        rw [a1, Option.bind_some, if_pos h0, gP_e (by rw [BA_P hB2]; exact hB.1.1), BA_P hB2, lt_eq, k2, nI_1]
      · rw [eM, g2, Option.bind_some]
        show (if m'.1 0 24 = 0 then f_Mo_readOrder_J140 m' else _) = _
        rw [if_pos ((TK_end hTe).mp h0)]
        unfold f_Mo_readOrder_J140
        rw [lt_eq, k3, nI_1]
      · unfold FLT; rw [uI_n (by omega), uI_o (by omega), uI_o (by omega), uI_o (by omega)]; exact k6
      · rw [uI_n (by omega), uI_o (by omega)]; exact k7
      · have pi : PI P b c2 m' i := by
          by_cases ei : i = N
          · subst ei
            refine ⟨o, ho, b1, b2, fun j hj => ?_⟩
            by_cases ej : j < T
            · exact b3 j ej
            · have := sh_3 ⟨o, by omega⟩ ⟨j, hj⟩ (by rw [show tn (shp (Fin.val (⟨o, by omega⟩ : Fin 51))) = T from hTT]; show T ≤ j; omega)
              have h0 : fm o j = 0 := this
              rw [h0]
              exact ⟨fun h => absurd h (by decide), fun h => absurd h (by decide), fun h => absurd h (by decide)⟩
          · exact k8 i (by omega)
        exact PI_of pi (by rw [uI_n (by omega)]) (fun j' _ => by rw [uI_n (by omega)]) (by rw [uI_n (by omega)]) (by rw [uI_n (by omega)]) (fun j' _ => by rw [uI_n (by omega)]) (fun j' _ => by rw [uI_n (by omega)])
      · refine LBL_up (N := N) ?_ (by omega)
        exact LBL_of k9 (by rw [uI_n (by omega)]) rfl (uI_n (by omega)) (uI_o (by omega)) (uI_n (by omega)) (uI_n (by omega)) (uI_n (by omega))
      · have hu : USE sg P b (N + 1) c2 m' := by
          rcases b5 with ⟨u1, u2, u3⟩ | ⟨u1, _⟩
          · refine USE_ext u1 u2 ho b1 (fun j hj => ?_)
            by_cases ej : j < T
            · exact u3 j ej
            · have := sh_3 ⟨o, by omega⟩ ⟨j, hj⟩ (by rw [show tn (shp (Fin.val (⟨o, by omega⟩ : Fin 51))) = T from hTT]; show T ≤ j; omega)
              have h0 : fm o j = 0 := this
              rw [h0]; decide
          · exact u1
        exact USE_of hu (fun i _ => by rw [uI_n (by omega)]) (fun i _ => rfl) (fun i _ => by rw [uI_n (by omega)]) (fun i _ => by rw [uI_n (by omega)]) (uI_o (by omega)) (uI_n (by omega)) (uI_n (by omega)) (uI_n (by omega)) (uI_n (by omega))
      · rw [uI_o (by omega)]; exact TK_endp hTe h0
    · obtain ⟨c3, m3, w, d1, d2, d3⟩ := wrong_AB a3.1 a4
      refine .inr ⟨c3, uI m3 0 15 (m3.1 0 15 + 1), ?_, ?_, BA_m d3.1 (by omega), ?_, ?_⟩
      · rw [eC, g1, Option.bind_some]
        show (f_Sc_readPiece c').bind _ = _
        rw [a1, Option.bind_some, if_neg h0, d1, Option.bind_some, bN_0]
      · rw [eM, g2, Option.bind_some]
        show (if m'.1 0 24 = 0 then f_Mo_readOrder_J140 m' else (f_Mo_wrong m').bind fun q27 => f_Mo_readOrder_J140 (q27.2)) = _
        rw [if_neg (fun h => h0 ((TK_end hTe).mpr h)), d2, Option.bind_some]
        unfold f_Mo_readOrder_J140
        rw [lt_eq]
      · have := d3.2.1
        unfold FLT at this ⊢
        rw [uI_o (by omega), uI_o (by omega), uI_o (by omega)]; exact this
      · rw [uI_o (by omega)]; exact d3.2.2
  · refine .inr ⟨c', m', ?_, ?_, g3⟩
    · rw [eC, g1, Option.bind_some]; rfl
    · rw [eM, g2, Option.bind_some]; rfl
end LINE
