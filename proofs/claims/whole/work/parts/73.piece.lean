/-! ===== pieces ===== -/
theorem num_hex {L : Nat} {sg : Nat → Nat} {c m : St} {e q : Nat} (hC : TXC L sg c) (hT : TXM L sg m) (he : e ≤ L) (hse : sg e = 10) (h2 : c.1 3 2 = nI e) (hr : c.2.2 3 = 1) (h1 : c.1 3 1 = nI q) (hqe : q + 1 < e) (hx0 : sg q = 48) (hx1 : sg (q + 1) = 120) :
    ∃ c' m', f_Sc_readNumber (nI 48) c = some c' ∧ f_Mo_nextNumber_J17 0 (nI q) m = some m' ∧ NR e q c c' m m' := by
  have hL := hC.1
  have h256 := hT.2.2.2.2
  obtain ⟨r, r1, r2, r3, r4⟩ := run_len (Q := fun i => hxd (sg i)) (e := e) (by rw [hse]; unfold hxd dgt; omega) (e - (q + 2)) (q + 2) (by omega)
  obtain ⟨n, rfl⟩ : ∃ n, r = q + 2 + n := ⟨r - (q + 2), by omega⟩
  have hd : ∀ i, i < n → hxd (sg (q + 2 + i)) := fun i hi => r3 (q + 2 + i) (by omega) (by omega)
  obtain ⟨k, hk⟩ : ∃ k, k = min n 8 := ⟨_, rfl⟩
  have hn9 : k < 8 → ¬ (q + 2 + k < e ∧ hxd (sg (q + 2 + k))) := by
    intro h10 h
    have hkn : k = n := by omega
    rw [hkn] at h
    exact r4 h.2
  have cS : SF c (uI c 3 1 (nI (q + 2))) := SF_u SF_rf (by omega)
  obtain ⟨w', c2, c3⟩ := sc_hex (TXC_S hC cS) he (cS.2.2.2.trans h2) (show (uI c 3 1 (nI (q + 2))).2.2 3 = 1 from hr) uI_v h256 (k := k) (by omega) (by omega) (fun i hi => hd i (by omega)) hn9
  obtain ⟨s, hs⟩ : ∃ s, s = uI (uI (uI c 3 1 (nI (q + 2))) 3 1 (nI (q + 2 + k))) 3 6 (nI (hv sg (q + 2) k)) := ⟨_, rfl⟩
  have sS : SF c s := by rw [hs]; exact SF_u (SF_u cS (by omega)) (by omega)
  have s1 : s.1 3 1 = nI (q + 2 + k) := by rw [hs, uI_o (by omega), uI_v]
  have s4 : s.1 3 4 = c.1 3 4 := by rw [hs, uI_o (by omega), uI_o (by omega), uI_o (by omega)]
  obtain ⟨c4, c5⟩ := sc_J71 (TXC_S hC sS) he (sS.2.2.2.trans h2) (by rw [sS.2.2.1]; exact hr) s1 (by omega) hse h256 w'
  have eC : f_Sc_readNumber (nI 48) c = f_Sc_readNumber_J71 w' s := by
    unfold f_Sc_readNumber
    rw [if_pos (show nI 48 = 48 from rfl), h1, nI_1, sc_byte hC he h2 hr (by omega), Option.bind_some]
    unfold bya
    rw [if_pos hqe, hx1, if_pos (show nI 120 = 120 from rfl), lt_eq, show (2 : Int32) = nI 2 from rfl, nI_add, c2, Option.bind_some, lt_eq, hs]
  obtain ⟨t, ht⟩ : ∃ t, t = uI (uI m 0 26 (nI q)) 0 26 (nI (q + 2)) := ⟨_, rfl⟩
  have tT : TXM L sg t := by rw [ht]; exact TXM_u (TXM_u hT (by omega)) (by omega)
  have mw := mo_hex tT (show t.1 0 26 = nI (q + 2) by rw [ht, uI_v]) (n := n) (by omega) hd r4 0 (nI q)
  have m26 : (uI t 0 26 (nI (q + 2 + n))).1 0 26 = nI (q + 2 + n) := uI_v
  have mM : MF m (uI t 0 26 (nI (q + 2 + n))) := by rw [ht]; exact MF_u (MF_u (MF_u MF_rf (by omega) (by omega)) (by omega) (by omega)) (by omega) (by omega)
  have m25 : (uI t 0 26 (nI (q + 2 + n))).1 0 25 = m.1 0 25 := by rw [ht, uI_o (by omega), uI_o (by omega), uI_o (by omega)]
  have mT : TXM L sg (uI t 0 26 (nI (q + 2 + n))) := TXM_u tT (by omega)
  have eM : (n ≠ 0 ∧ n ≤ 8 → f_Mo_nextNumber_J17 0 (nI q) m = f_Mo_nextNumber_J297 0 (lN (hv sg (q + 2) n)) 1 (uI t 0 26 (nI (q + 2 + n)))) ∧ (¬ (n ≠ 0 ∧ n ≤ 8) → f_Mo_nextNumber_J17 0 (nI q) m = f_Mo_nextNumber_J297 0 (lN (hv sg (q + 2) n)) 0 (uI t 0 26 (nI (q + 2 + n)))) := by
    unfold f_Mo_nextNumber_J17
    have tq := TXM_u (j := 26) (v := nI q) hT (by omega)
    rw [lt_eq, if_pos rfl, mo_sign tq (by omega), Option.bind_some, hx0, if_pos (show nI 48 = 48 from rfl), nI_1, mo_sign tq (by omega), Option.bind_some, hx1, if_pos (show nI 120 = 120 from rfl), lt_eq, show (2 : Int32) = nI 2 from rfl, nI_add, ← ht, mw, Option.bind_some]
    dsimp only
    unfold f_Mo_nextNumber_J184 f_Mo_nextNumber_J185
    rw [m26, nI_sub (by omega), show q + 2 + n - q = n + 2 by omega]
    by_cases n0 : n = 0
    · rw [if_pos (nI_le (by omega) (by omega))]; exact ⟨fun h => absurd n0 h.1, fun _ => rfl⟩
    rw [if_neg (nI_ge (by omega) (by omega))]
    by_cases n8 : n ≤ 8
    · rw [if_neg (show ¬ 10 < nI (n + 2) from nI_nlt (a := 10) (by omega) (by decide))]; exact ⟨fun _ => rfl, fun h => absurd ⟨n0, n8⟩ h⟩
    · rw [if_pos (show 10 < nI (n + 2) from nI_lt (a := 10) (by omega) (by omega))]; exact ⟨fun h => absurd h.2 n8, fun _ => rfl⟩
  by_cases hok : (n ≠ 0 ∧ n ≤ 8) ∧ pt (sg (q + 2 + n))
  · have hkn : k = n := by omega
    refine ⟨uI s 3 3 2, uI (uI (uI t 0 26 (nI (q + 2 + n))) 0 24 3) 0 27 (nmV 0 (lN (hv sg (q + 2) n))), ?_, ?_, SF_u sS (by omega), MF_u (MF_u mM (by omega) (by omega)) (by omega) (by omega), ?_, ?_, .inl ⟨q + 2 + n, by omega, by omega, uI_v, ?_, ?_, ?_, ?_⟩⟩
    · rw [eC]; exact c4 ⟨c3.mpr (by omega), by rw [hkn]; exact hok.2⟩
    · rw [eM.1 hok.1]; exact (mo_J297 mT m26 (by omega) 0 _ 1).1 ⟨by decide, hok.2⟩
    · rw [uI_o (by omega), s4]
    · rw [uI_o (by omega), uI_o (by omega), m25]
    · rw [uI_o (by omega), uI_v]
    · rw [uI_o (by omega), s1, hkn]
    · rw [uI_o (by omega), uI_o (by omega), m26]
    · rw [uI_o (by omega), uI_v, hs, uI_v, hkn]
      unfold nmV
      rw [if_pos rfl, lN_i]
  · have hm : f_Mo_nextNumber_J17 0 (nI q) m = some (uI (uI (uI t 0 26 (nI (q + 2 + n))) 0 24 1) 0 27 (nmV 0 (lN (hv sg (q + 2) n)))) := by
      by_cases hg : n ≠ 0 ∧ n ≤ 8
      · rw [eM.1 hg]; exact (mo_J297 mT m26 (by omega) 0 _ 1).2 (fun h => hok ⟨hg, h.2⟩)
      · rw [eM.2 hg]; exact (mo_J297 mT m26 (by omega) 0 _ 0).2 (fun h => absurd rfl h.1)
    have hc : f_Sc_readNumber (nI 48) c = some (uI s 3 3 5) := by
      rw [eC]
      refine c5 (fun h => ?_)
      have hw' := c3.mp h.1
      by_cases n8 : n ≤ 8
      · have hkn : k = n := by omega
        exact hok ⟨⟨by omega, n8⟩, by rw [← hkn]; exact h.2⟩
      · have hx := hd k (by omega)
        refine h.2.1 ?_
        rcases hx with hx | hx
        · exact .inr hx
        · exact .inl ⟨hx.1, by omega⟩
    refine ⟨_, _, hc, hm, SF_u sS (by omega), MF_u (MF_u mM (by omega) (by omega)) (by omega) (by omega), ?_, ?_, .inr ⟨uI_v, ?_⟩⟩
    · rw [uI_o (by omega), s4]
    · rw [uI_o (by omega), uI_o (by omega), m25]
    · rw [uI_o (by omega), uI_v]
theorem NR_base {e q : Nat} {c c1 c' m m1 m' : St} (hc : SF c c1) (hm : MF m m1) (h4 : c1.1 3 4 = c.1 3 4) (h25 : m1.1 0 25 = m.1 0 25) (h : NR e q c1 c' m1 m') : NR e q c c' m m' :=
  ⟨SF_tr hc h.1, MF_tr hm h.2.1, h.2.2.1.trans h4, h.2.2.2.1.trans h25, h.2.2.2.2⟩
theorem num_all {L : Nat} {sg : Nat → Nat} {c m : St} {e q : Nat} (hC : TXC L sg c) (hT : TXM L sg m) (he : e ≤ L) (hse : sg e = 10) (h2 : c.1 3 2 = nI e) (hr : c.2.2 3 = 1) (h1 : c.1 3 1 = nI q) (h25 : m.1 0 25 = nI q) (hqe : q < e) (hx : sg q = 45 ∨ dgt (sg q)) :
    ∃ c' m', f_Sc_readNumber (nI (sg q)) c = some c' ∧ f_Mo_next_J189 (nI (sg q)) m = some m' ∧ NR e q c c' m m' := by
  have hL := hC.1
  have h256 := hT.2.2.2.2
  have hx256 := h256 q
  have J201 : ∀ w, f_Mo_next_J201 w m = f_Mo_nextNumber w m := fun w => by unfold f_Mo_next_J201; exact bind_rt
  by_cases h45 : sg q = 45
  · have cS : SF c (uI c 3 1 (nI (q + 1))) := SF_u SF_rf (by omega)
    have mM : MF m (uI m 0 26 (nI (q + 1))) := MF_u MF_rf (by omega) (by omega)
    obtain ⟨c', m', a1, a2, a3⟩ := num_dec (q := q) (f := q + 1) (w := 1) (TXC_S hC cS) (TXM_M hT mM) he hse (cS.2.2.2.trans h2) (show (uI c 3 1 (nI (q + 1))).2.2 3 = 1 from hr) uI_v uI_v (by omega) (by omega) (.inr rfl)
    refine ⟨c', m', ?_, ?_, NR_base cS mM (uI_o (by omega)) (uI_o (by omega)) a3⟩
    · rw [h45]
      unfold f_Sc_readNumber f_Sc_readNumber_J39 f_Sc_readNumber_J55
      rw [if_neg (show ¬ nI 45 = 48 by decide), if_pos (show nI 45 = 45 from rfl), h1, nI_1, lt_eq, if_pos (show nI 45 = 45 from rfl), a1]
    · rw [h45]
      unfold f_Mo_next_J189
      rw [if_pos (show nI 45 = 45 from rfl), J201]
      unfold f_Mo_nextNumber f_Mo_nextNumber_J17
      rw [if_neg (show ¬ (1 : Int32) = 0 by decide), h25, nI_1, lt_eq, if_neg (show ¬ (1 : Int32) = 0 by decide), a2]
  · have hdg := hx.resolve_left h45
    have n45 : ¬ nI (sg q) = 45 := ne_l (k := 45) (by omega) (by omega) h45
    have eM : f_Mo_next_J189 (nI (sg q)) m = f_Mo_nextNumber_J17 0 (nI q) m := by
      unfold f_Mo_next_J189
      rw [if_neg n45, J201]
      unfold f_Mo_nextNumber
      rw [if_pos rfl, h25]
    by_cases hh : sg q = 48 ∧ q + 1 < e ∧ sg (q + 1) = 120
    · obtain ⟨c', m', a1, a2, a3⟩ := num_hex hC hT he hse h2 hr h1 hh.2.1 hh.1 hh.2.2
      exact ⟨c', m', by rw [hh.1]; exact a1, by rw [eM]; exact a2, a3⟩
    · have mM : MF m (uI m 0 26 (nI q)) := MF_u MF_rf (by omega) (by omega)
      have tq := TXM_u (j := 26) (v := nI q) hT (by omega)
      obtain ⟨c', m', a1, a2, a3⟩ := num_dec (q := q) (f := q) (w := 0) hC (TXM_M hT mM) he hse h2 hr h1 uI_v (by omega) (by omega) (.inl rfl)
      refine ⟨c', m', ?_, ?_, NR_base SF_rf mM rfl (uI_o (by omega)) a3⟩
      · have e39 : f_Sc_readNumber_J39 (nI (sg q)) c = some c' := by
          unfold f_Sc_readNumber_J39 f_Sc_readNumber_J55
          rw [if_neg n45, if_neg n45, a1]
        unfold f_Sc_readNumber
        rw [e39]
        by_cases h48 : sg q = 48
        · rw [if_pos (show nI (sg q) = 48 by rw [h48]; rfl), h1, nI_1, sc_byte hC he h2 hr (by omega), Option.bind_some]
          unfold bya
          by_cases hl : q + 1 < e
          · have hb := h256 (q + 1)
            rw [if_pos hl, if_neg (show ¬ nI (sg (q + 1)) = 120 from ne_l (k := 120) (by omega) (by omega) (fun h => hh ⟨h48, hl, h⟩))]
          · rw [if_neg hl, if_neg (show ¬ (-1 : Int32) = 120 by decide)]
        · rw [if_neg (show ¬ nI (sg q) = 48 from ne_l (k := 48) (by omega) (by omega) h48)]
      · rw [eM]
        unfold f_Mo_nextNumber_J17
        rw [lt_eq, if_pos rfl, mo_sign tq (by omega), Option.bind_some, nI_1, mo_sign tq (by omega), Option.bind_some, a2]
        by_cases h48 : sg q = 48
        · have hb := h256 (q + 1)
          have h120 : sg (q + 1) ≠ 120 := fun h => by
            by_cases hl : q + 1 < e
            · exact hh ⟨h48, hl, h⟩
            · have : q + 1 = e := by omega
              rw [this, hse] at h; exact absurd h (by decide)
          rw [if_pos (show nI (sg q) = 48 by rw [h48]; rfl), if_neg (show ¬ nI (sg (q + 1)) = 120 from ne_l (k := 120) (by omega) (by omega) h120)]
        · rw [if_neg (show ¬ nI (sg q) = 48 from ne_l (k := 48) (by omega) (by omega) h48)]
def WD (sg : Nat → Nat) (q n : Nat) : Prop := 1 ≤ n ∧ n ≤ 8 ∧ ltr (sg q) ∧ ∀ i, i < n → ltr (sg (q + i)) ∨ dgt (sg (q + i))
/-- the piece that both have read: from q on, in a line that ends at e -/
def TK (sg : Nat → Nat) (e q : Nat) (c m : St) : Prop :=
  (c.1 3 3 = 0 ∧ m.1 0 24 = 0 ∧ q = e ∧ c.1 3 1 = nI e ∧ m.1 0 26 = nI e)
  ∨ (∃ n, WD sg q n ∧ q + n ≤ e ∧ c.1 3 3 = 1 ∧ m.1 0 24 = 2 ∧ c.1 3 1 = nI (q + n) ∧ m.1 0 26 = nI (q + n) ∧ c.2.1 3 5 = lN (wn sg q n))
  ∨ (∃ r, q < r ∧ r ≤ e ∧ c.1 3 3 = 2 ∧ m.1 0 24 = 3 ∧ c.1 3 1 = nI r ∧ m.1 0 26 = nI r ∧ c.1 3 6 = m.1 0 27)
  ∨ (q < e ∧ c.1 3 3 = 3 ∧ m.1 0 24 = 4 ∧ c.1 3 1 = nI (q + 1) ∧ m.1 0 26 = nI (q + 1))
  ∨ (q < e ∧ c.1 3 3 = 4 ∧ m.1 0 24 = 5 ∧ c.1 3 1 = nI (q + 1) ∧ m.1 0 26 = nI (q + 1))
  ∨ (c.1 3 3 = 5 ∧ m.1 0 24 = 1)
theorem sc_piece {L : Nat} {sg : Nat → Nat} {c m : St} {e p : Nat} (hC : TXC L sg c) (hT : TXM L sg m) (he : e ≤ L) (hse : sg e = 10) (hpe : p ≤ e) (hne : ∀ i, p ≤ i → i < e → sg i ≠ 10) (h2 : c.1 3 2 = nI e) (hr : c.2.2 3 = 1) (h1 : c.1 3 1 = nI p) (h26 : m.1 0 26 = nI p) :
    ∃ c' m' q, f_Sc_readPiece c = some c' ∧ f_Mo_next m = some m' ∧ SF c c' ∧ MF m m' ∧ c'.1 3 4 = nI q ∧ m'.1 0 25 = nI q ∧ p ≤ q ∧ q ≤ e ∧ TK sg e q c' m' := by
  have hL := hC.1
  have h256 := hT.2.2.2.2
  obtain ⟨q, q1, q2, q3, q4⟩ := run_len (Q := fun i => sg i = 32) (e := e) (by rw [hse]; decide) (e - p) p (by omega)
  have cs := sc_skip hC he h2 hr h1 q1 q2 q3 (fun _ => q4) h256
  obtain ⟨s, hs⟩ : ∃ s, s = uI (uI c 3 1 (nI q)) 3 4 (nI q) := ⟨_, rfl⟩
  have sS : SF c s := by rw [hs]; exact SF_u (SF_u SF_rf (by omega)) (by omega)
  have sC := TXC_S hC sS
  have s1 : s.1 3 1 = nI q := by rw [hs, uI_o (by omega), uI_v]
  have s2 : s.1 3 2 = nI e := sS.2.2.2.trans h2
  have s4 : s.1 3 4 = nI q := by rw [hs, uI_v]
  have sr : s.2.2 3 = 1 := by rw [sS.2.2.1]; exact hr
  have eC : f_Sc_readPiece c = if bya sg e q = -1 then f_Sc_readPiece_J66 s else if bya sg e q = 59 then f_Sc_readPiece_J66 s else if f_Sc_isLetter (bya sg e q) = 0 then (if bya sg e q = 45 then f_Sc_readPiece_J117 (bya sg e q) s else if f_Sc_isDigit (bya sg e q) = 0 then (if bya sg e q = 44 then some (uI (uI s 3 1 (nI (q + 1))) 3 3 3) else if bya sg e q = 58 then some (uI (uI s 3 1 (nI (q + 1))) 3 3 4) else some (uI (uI s 3 1 (nI (q + 1))) 3 3 5)) else f_Sc_readPiece_J117 (bya sg e q) s) else f_Sc_readWord s := by
    unfold f_Sc_readPiece f_Sc_readPiece_J157
    rw [cs, Option.bind_some, uI_v, lt_eq, ← hs, s1, sc_byte sC he s2 sr (by omega), Option.bind_some, bind_rt, nI_1, lt_eq, lt_eq]
    rfl
  have m1 : (uI m 0 25 (nI p)).1 0 25 = nI p := uI_v
  have mT1 := TXM_u (j := 25) (v := nI p) hT (by omega)
  have ms := mo_skip mT1 m1 q1 (by omega) q3 q4
  rw [uI_uI] at ms
  obtain ⟨t, ht⟩ : ∃ t, t = uI m 0 25 (nI q) := ⟨_, rfl⟩
  rw [← ht] at ms
  have tM : MF m t := by rw [ht]; exact MF_u MF_rf (by omega) (by omega)
  have tT := TXM_M hT tM
  have t25 : t.1 0 25 = nI q := by rw [ht, uI_v]
  have eM : f_Mo_next m = if nI (sg q) = 59 then (wh (fun a : St => f_Mo_next_L49 a) t).bind (fun b36 => f_Mo_next_J75 b36) else f_Mo_next_J75 t := by
    unfold f_Mo_next
    rw [h26, lt_eq, ms, Option.bind_some, t25, mo_sign tT (by omega), Option.bind_some]
  have J66 : f_Sc_readPiece_J66 s = some (uI (uI (uI s 3 4 (nI e)) 3 1 (nI e)) 3 3 0) := by
    unfold f_Sc_readPiece_J66
    rw [s2, lt_eq, uI_o (by omega), s2, lt_eq, lt_eq]
  have endC : ∃ c', f_Sc_readPiece_J66 s = some c' ∧ SF c c' ∧ c'.1 3 4 = nI e ∧ c'.1 3 3 = 0 ∧ c'.1 3 1 = nI e :=
    ⟨_, J66, SF_u (SF_u (SF_u sS (by omega)) (by omega)) (by omega), by rw [uI_o (by omega), uI_o (by omega), uI_v], uI_v, by rw [uI_o (by omega), uI_v]⟩
  have endM : ∀ u, MF m u → u.1 0 25 = nI e → ∃ m', f_Mo_next_J75 u = some m' ∧ MF m m' ∧ m'.1 0 25 = nI e ∧ m'.1 0 24 = 0 ∧ m'.1 0 26 = nI e := by
    intro u hu h25
    refine ⟨uI (uI (uI u 0 26 (nI (e + 1))) 0 24 0) 0 26 (nI e), ?_, MF_u (MF_u (MF_u hu (by omega) (by omega)) (by omega) (by omega)) (by omega) (by omega), ?_, ?_, uI_v⟩
    · unfold f_Mo_next_J75
      rw [h25, mo_sign (TXM_M hT hu) (by omega), Option.bind_some, nI_1, lt_eq, hse, if_pos (show nI 10 = 10 from rfl), lt_eq, uI_o (by omega), uI_o (by omega), h25, lt_eq]
    · rw [uI_o (by omega), uI_o (by omega), uI_o (by omega), h25]
    · rw [uI_o (by omega), uI_v]
  have fin : ∀ u, f_Sc_readPiece c = f_Sc_readPiece_J66 s → MF m u → u.1 0 25 = nI e → f_Mo_next m = f_Mo_next_J75 u → ∃ c' m' q, f_Sc_readPiece c = some c' ∧ f_Mo_next m = some m' ∧ SF c c' ∧ MF m m' ∧ c'.1 3 4 = nI q ∧ m'.1 0 25 = nI q ∧ p ≤ q ∧ q ≤ e ∧ TK sg e q c' m' := by
    intro u g1 g2 g3 g4
    obtain ⟨c', a1, a2, a3, a4, a5⟩ := endC
    obtain ⟨m', b1, b2, b3, b4, b5⟩ := endM u g2 g3
    exact ⟨c', m', e, g1.trans a1, g4.trans b1, a2, b2, a3, b3, hpe, Nat.le_refl _, .inl ⟨a4, b4, rfl, a5, b5⟩⟩
  by_cases hqe : q = e
  · subst hqe
    have hb : bya sg q q = -1 := if_neg (Nat.lt_irrefl _)
    rw [hb, if_pos rfl] at eC
    rw [hse, if_neg (show ¬ nI 10 = 59 by decide)] at eM
    exact fin t eC tM t25 eM
  have hlt : q < e := by omega
  have hx := h256 q
  have hb : bya sg e q = nI (sg q) := if_pos hlt
  rw [hb, if_neg (nI_nm1 (by omega))] at eC
  by_cases h59 : sg q = 59
  · rw [if_pos (show nI (sg q) = 59 by rw [h59]; rfl)] at eC
    have mE := mo_toEnd tT t25 (show q ≤ e by omega) (by omega) (fun i a b => hne i (by omega) b) hse
    rw [if_pos (show nI (sg q) = 59 by rw [h59]; rfl), mE, Option.bind_some] at eM
    exact fin (uI t 0 25 (nI e)) eC (MF_u tM (by omega) (by omega)) uI_v eM
  rw [if_neg (show ¬ nI (sg q) = 59 from ne_l (k := 59) (by omega) (by omega) h59)] at eC eM
  have h10 := hne q q1 hlt
  obtain ⟨u, hu⟩ : ∃ u, u = uI t 0 26 (nI (q + 1)) := ⟨_, rfl⟩
  have uM : MF m u := by rw [hu]; exact MF_u tM (by omega) (by omega)
  have uT := TXM_M hT uM
  have u25 : u.1 0 25 = nI q := by rw [hu, uI_o (by omega)]; exact t25
  have u26 : u.1 0 26 = nI (q + 1) := by rw [hu, uI_v]
  have eM2 : f_Mo_next m = if f_Mo_isLetter (nI (sg q)) = 0 then (if nI (sg q) = 45 then f_Mo_next_J189 (nI (sg q)) u else if f_Mo_isDigit (nI (sg q)) = 0 then (if nI (sg q) = 44 then some (uI u 0 24 4) else if nI (sg q) = 58 then some (uI u 0 24 5) else some (uI u 0 24 1)) else f_Mo_next_J189 (nI (sg q)) u) else (wh (fun a : St => f_Mo_next_L123 a) u).bind (fun b27 => if ((b27.1 0 26) - (b27.1 0 25)) ≤ 8 then f_Mo_next_J170 2 b27 else f_Mo_next_J170 1 b27) := by
    rw [eM]
    unfold f_Mo_next_J75 f_Mo_next_J229
    rw [t25, mo_sign tT (by omega), Option.bind_some, nI_1, lt_eq, if_neg (show ¬ nI (sg q) = 10 from ne_l (k := 10) (by omega) (by omega) h10), lt_eq, lt_eq, lt_eq, ← hu]
  by_cases hl : ltr (sg q)
  · rw [(ltr_y hx hl).1, if_neg (by decide)] at eC
    rw [(ltr_y hx hl).2, if_neg (by decide)] at eM2
    obtain ⟨r, r1, r2, r3, r4⟩ := run_len (Q := fun i => ltr (sg i) ∨ dgt (sg i)) (e := e) (by rw [hse]; unfold ltr dgt; omega) (e - (q + 1)) (q + 1) (by omega)
    obtain ⟨n, rfl⟩ : ∃ n, r = q + n := ⟨r - q, by omega⟩
    have all : ∀ i, q ≤ i → i < q + n → ltr (sg i) ∨ dgt (sg i) := fun i a b => by
      by_cases e' : i = q
      · rw [e']; exact .inl hl
      · exact r3 i (by omega) b
    have cw := sc_word sC he s2 sr s1 (show q ≤ q + n by omega) r2 h256 all (fun _ => r4)
    have mw := mo_wordEnd uT u26 r1 (by omega) r3 r4
    rw [mw, Option.bind_some, uI_v, uI_o (by omega), u25, nI_sub (by omega)] at eM2
    unfold f_Mo_next_J170 at eM2
    rw [lt_eq, lt_eq] at eM2
    unfold f_Sc_readWord f_Sc_readWord_J101 at eC
    rw [lt_eq, cw, Option.bind_some, uI_v, uI_o (by omega), show (uJ s 3 5 (lN (wn sg q (q + n - q)))).1 3 4 = nI q from s4, nI_sub (by omega), lt_eq, lt_eq] at eC
    rw [show q + n - q = n by omega] at eC eM2
    obtain ⟨w, hw⟩ : ∃ w, w = uI (uJ s 3 5 (lN (wn sg q n))) 3 1 (nI (q + n)) := ⟨_, rfl⟩
    rw [← hw] at eC
    have wS : SF c w := by rw [hw]; exact SF_u (SF_J sS) (by omega)
    have w4 : w.1 3 4 = nI q := by rw [hw, uI_o (by omega)]; exact s4
    have w1 : w.1 3 1 = nI (q + n) := by rw [hw, uI_v]
    have w5 : w.2.1 3 5 = lN (wn sg q n) := by rw [hw]; exact uJ_v
    by_cases n8 : n ≤ 8
    · rw [if_pos (show nI n ≤ 8 from nI_le (b := 8) n8 (by decide))] at eC eM2
      refine ⟨_, _, q, eC, eM2, SF_u wS (by omega), MF_u (MF_u uM (by omega) (by omega)) (by omega) (by omega), by rw [uI_o (by omega)]; exact w4, by rw [uI_o (by omega), uI_o (by omega)]; exact u25, q1, by omega, .inr (.inl ⟨n, ⟨by omega, n8, hl, fun i hi => all (q + i) (by omega) (by omega)⟩, by omega, uI_v, uI_v, by rw [uI_o (by omega)]; exact w1, by rw [uI_o (by omega), uI_v], w5⟩)⟩
    · rw [if_neg (show ¬ nI n ≤ 8 from nI_ge (a := 8) (by omega) (by omega))] at eC eM2
      exact ⟨_, _, q, eC, eM2, SF_u wS (by omega), MF_u (MF_u uM (by omega) (by omega)) (by omega) (by omega), by rw [uI_o (by omega)]; exact w4, by rw [uI_o (by omega), uI_o (by omega)]; exact u25, q1, by omega, .inr (.inr (.inr (.inr (.inr ⟨uI_v, uI_v⟩))))⟩
  rw [(ltr_n hx hl).1, if_pos rfl] at eC
  rw [(ltr_n hx hl).2, if_pos rfl] at eM2
  by_cases hnum : sg q = 45 ∨ dgt (sg q)
  · obtain ⟨c', m', a1, a2, a3, a4, a5, a6, a7⟩ := num_all sC uT he hse s2 sr s1 u25 hlt hnum
    have eC' : f_Sc_readPiece c = some c' := by
      rw [eC]
      unfold f_Sc_readPiece_J117
      rw [bind_rt, a1]
      by_cases h45 : sg q = 45
      · rw [if_pos (show nI (sg q) = 45 by rw [h45]; rfl)]
      · rw [if_neg (show ¬ nI (sg q) = 45 from ne_l (k := 45) (by omega) (by omega) h45), (dgt_y hx (hnum.resolve_left h45)).1, if_neg (by decide)]
    have eM' : f_Mo_next m = some m' := by
      rw [eM2, a2]
      by_cases h45 : sg q = 45
      · rw [if_pos (show nI (sg q) = 45 by rw [h45]; rfl)]
      · rw [if_neg (show ¬ nI (sg q) = 45 from ne_l (k := 45) (by omega) (by omega) h45), (dgt_y hx (hnum.resolve_left h45)).2, if_neg (by decide)]
    refine ⟨c', m', q, eC', eM', SF_tr sS a3, MF_tr uM a4, a5.trans s4, a6.trans u25, q1, by omega, ?_⟩
    rcases a7 with a7 | a7
    · exact .inr (.inr (.inl a7))
    · exact .inr (.inr (.inr (.inr (.inr a7))))
  · have h45 : ¬ nI (sg q) = 45 := ne_l (k := 45) (by omega) (by omega) (fun h => hnum (.inl h))
    rw [if_neg h45, (dgt_n hx (fun h => hnum (.inr h))).1, if_pos rfl] at eC
    rw [if_neg h45, (dgt_n hx (fun h => hnum (.inr h))).2, if_pos rfl] at eM2
    have kk : ∀ a b, SF c (uI (uI s 3 1 (nI (q + 1))) 3 3 a) ∧ MF m (uI u 0 24 b) ∧ (uI (uI s 3 1 (nI (q + 1))) 3 3 a).1 3 4 = nI q ∧ (uI u 0 24 b).1 0 25 = nI q ∧ (uI (uI s 3 1 (nI (q + 1))) 3 3 a).1 3 1 = nI (q + 1) ∧ (uI u 0 24 b).1 0 26 = nI (q + 1) := fun a b =>
      ⟨SF_u (SF_u sS (by omega)) (by omega), MF_u uM (by omega) (by omega), by rw [uI_o (by omega), uI_o (by omega)]; exact s4, by rw [uI_o (by omega)]; exact u25, by rw [uI_o (by omega), uI_v], by rw [uI_o (by omega)]; exact u26⟩
    by_cases h44 : sg q = 44
    · rw [if_pos (show nI (sg q) = 44 by rw [h44]; rfl)] at eC eM2
      obtain ⟨k1, k2, k3, k4, k5, k6⟩ := kk 3 4
      exact ⟨_, _, q, eC, eM2, k1, k2, k3, k4, q1, by omega, .inr (.inr (.inr (.inl ⟨hlt, uI_v, uI_v, k5, k6⟩)))⟩
    rw [if_neg (show ¬ nI (sg q) = 44 from ne_l (k := 44) (by omega) (by omega) h44)] at eC eM2
    by_cases h58 : sg q = 58
    · rw [if_pos (show nI (sg q) = 58 by rw [h58]; rfl)] at eC eM2
      obtain ⟨k1, k2, k3, k4, k5, k6⟩ := kk 4 5
      exact ⟨_, _, q, eC, eM2, k1, k2, k3, k4, q1, by omega, .inr (.inr (.inr (.inr (.inl ⟨hlt, uI_v, uI_v, k5, k6⟩))))⟩
    rw [if_neg (show ¬ nI (sg q) = 58 from ne_l (k := 58) (by omega) (by omega) h58)] at eC eM2
    obtain ⟨k1, k2, k3, k4, k5, k6⟩ := kk 5 1
    exact ⟨_, _, q, eC, eM2, k1, k2, k3, k4, q1, by omega, .inr (.inr (.inr (.inr (.inr ⟨uI_v, uI_v⟩))))⟩
