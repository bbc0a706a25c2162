/-! ===== numbers, both sides ===== -/
theorem sc_hex {L : Nat} {sg : Nat → Nat} {c : St} {e f k : Nat} (hC : TXC L sg c) (he : e ≤ L) (h2 : c.1 3 2 = nI e) (hr : c.2.2 3 = 1) (h1 : c.1 3 1 = nI f) (h256 : ∀ i, sg i < 256) (hk : k ≤ 8) (hke : f + k ≤ e) (hd : ∀ i, i < k → hxd (sg (f + i))) (hn : k < 8 → ¬ (f + k < e ∧ hxd (sg (f + k)))) :
    ∃ w, f_Sc_readHex c = some (w, uI (uI c 3 1 (nI (f + k))) 3 6 (nI (hv sg f k))) ∧ (w ≠ 0 ↔ k ≠ 0) := by
  have hL := hC.1
  have tx : ∀ i, TXC L sg (uI c 3 1 (nI i)) := fun i => TXC_of hC (uI_n (by omega))
  have s2 : ∀ i, (uI c 3 1 (nI i)).1 3 2 = nI e := fun i => by rw [uI_o (by omega)]; exact h2
  have st : ∀ i, 0 ≤ i → i < k → f_Sc_readHex_L4 (nI (hv sg f i)) (nI i) (uI c 3 1 (nI (f + i))) = some (.inl (nI (hv sg f (i + 1)), nI (i + 1), uI c 3 1 (nI (f + (i + 1))))) := by
    intro i _ hi
    have hdi := hd i hi
    unfold f_Sc_readHex_L4
    rw [if_neg (show ¬ 8 ≤ nI i from nI_ge (b := 8) (by omega) (by decide)), uI_v, sc_byte (tx _) he (s2 _) hr (by omega)]
    simp only [Option.bind_some]
    unfold bya
    rw [if_pos (show f + i < e by omega), hex_y (h256 _) hdi, if_neg (nI_nm1 (by have := hxv_lt hdi; omega)), sh4 (hxv_lt hdi), lt_eq, lt_eq, nI_1, nI_1, uI_uI]
    rfl
  have en : f_Sc_readHex_L4 (nI (hv sg f k)) (nI k) (uI c 3 1 (nI (f + k))) = some (.inr (nI (hv sg f k), nI k, uI c 3 1 (nI (f + k)))) := by
    unfold f_Sc_readHex_L4
    by_cases h8 : k = 8
    · rw [if_pos (show 8 ≤ nI k by rw [h8]; decide)]
    · rw [if_neg (show ¬ 8 ≤ nI k from nI_ge (b := 8) (by omega) (by decide)), uI_v, sc_byte (tx _) he (s2 _) hr (by omega)]
      simp only [Option.bind_some]
      unfold bya
      by_cases hl : f + k < e
      · rw [if_pos hl, hex_n (h256 _) (fun h => hn (by omega) ⟨hl, h⟩), if_pos rfl]
      · rw [if_neg hl, show f_Sc_hexDigit (-1) = -1 by decide +kernel, if_pos rfl]
  have hw := wh_cnt (f := fun a : (Int32 × Int32 × St) => f_Sc_readHex_L4 a.1 a.2.1 a.2.2) (g := fun i => (nI (hv sg f i), nI i, uI c 3 1 (nI (f + i)))) (r := k) k 0 (by omega) st en
  have e0 : ((0 : Int32), (0 : Int32), c) = (nI (hv sg f 0), nI 0, uI c 3 1 (nI (f + 0))) := by rw [Nat.add_zero, uI_same h1]; rfl
  unfold f_Sc_readHex
  rw [e0, hw, Option.bind_some, lt_eq]
  dsimp only
  by_cases h0 : k = 0
  · subst h0
    rw [if_pos (by decide)]; exact ⟨0, rfl, fun h => absurd rfl h, fun h => absurd rfl h⟩
  · rw [if_neg (nI_nle (by omega) (by omega))]; exact ⟨1, rfl, fun _ => h0, fun _ => by decide⟩
theorem mo_hex {L : Nat} {sg : Nat → Nat} {s : St} {f n : Nat} (hT : TXM L sg s) (h1 : s.1 0 26 = nI f) (hf : f + n < 2 ^ 30) (hd : ∀ i, i < n → hxd (sg (f + i))) (hn : ¬ hxd (sg (f + n))) (v1 v2 : Int32) :
    wh (fun a : (Int64 × St) => f_Mo_nextNumber_L61 v1 v2 a.1 a.2) (0, s) = some (lN (hv sg f n), uI s 0 26 (nI (f + n))) := by
  have h256 := hT.2.2.2.2
  have tx : ∀ i, TXM L sg (uI s 0 26 (nI i)) := fun i => TXM_u hT (by omega)
  have J : ∀ i, i < n → f_Mo_nextNumber_J101_1 v1 v2 (lN (hv sg f i)) (uI s 0 26 (nI (f + i))) = some (.inl (lN (hv sg f (i + 1)), uI s 0 26 (nI (f + (i + 1))))) := by
    intro i hi
    have hdi := hd i hi
    have hx := h256 (f + i)
    unfold f_Mo_nextNumber_J101_1 f_Mo_nextNumber_J143_1
    rw [uI_v, mo_sign (tx _) (by omega)]
    simp only [Option.bind_some, lt_eq, uI_v, nI_1, uI_uI]
    by_cases hg : dgt (sg (f + i))
    · have hg' : 48 ≤ sg (f + i) ∧ sg (f + i) ≤ 57 := hg
      rw [(dgt_y (h256 _) hg).2, if_neg (by decide), show (48 : Int32) = nI 48 from rfl, nI_sub hg'.1, show sg (f + i) - 48 = hxv (sg (f + i)) by unfold hxv; rw [if_pos hg'.2], sh4L (hxv_lt hdi)]
      rfl
    · have hg' : 97 ≤ sg (f + i) ∧ sg (f + i) ≤ 102 := hdi.resolve_left hg
      rw [(dgt_n (h256 _) hg).2, if_pos rfl, show (87 : Int32) = nI 87 from rfl, nI_sub (by omega), show sg (f + i) - 87 = hxv (sg (f + i)) by unfold hxv; rw [if_neg (by omega)], sh4L (hxv_lt hdi)]
      rfl
  have st : ∀ i, 0 ≤ i → i < n → f_Mo_nextNumber_L61 v1 v2 (lN (hv sg f i)) (uI s 0 26 (nI (f + i))) = some (.inl (lN (hv sg f (i + 1)), uI s 0 26 (nI (f + (i + 1))))) := by
    intro i _ hi
    have hdi := hd i hi
    have hx := h256 (f + i)
    unfold f_Mo_nextNumber_L61
    rw [J i hi, uI_v, mo_sign (tx _) (by omega)]
    simp only [Option.bind_some]
    by_cases hg : dgt (sg (f + i))
    · rw [(dgt_y (h256 _) hg).2, if_neg (by decide)]
    · have hg' : 97 ≤ sg (f + i) ∧ sg (f + i) ≤ 102 := hdi.resolve_left hg
      rw [(dgt_n (h256 _) hg).2, if_pos rfl, if_neg (show ¬ nI (sg (f + i)) < 97 from nI_nlt (b := 97) hg'.1 (by omega)), if_neg (show ¬ 102 < nI (sg (f + i)) from nI_nlt (a := 102) hg'.2 (by decide))]
  have en : f_Mo_nextNumber_L61 v1 v2 (lN (hv sg f n)) (uI s 0 26 (nI (f + n))) = some (.inr (lN (hv sg f n), uI s 0 26 (nI (f + n)))) := by
    have hx := h256 (f + n)
    unfold f_Mo_nextNumber_L61
    rw [uI_v, mo_sign (tx _) (by omega)]
    simp only [Option.bind_some]
    rw [(dgt_n (h256 _) (fun h => hn (.inl h))).2, if_pos rfl]
    by_cases h97 : sg (f + n) < 97
    · rw [if_pos (show nI (sg (f + n)) < 97 from nI_lt (b := 97) h97 (by decide))]
    · rw [if_neg (show ¬ nI (sg (f + n)) < 97 from nI_nlt (b := 97) (by omega) (by omega)), if_pos (show 102 < nI (sg (f + n)) from nI_lt (a := 102) (Nat.lt_of_not_le (fun h => hn (.inr ⟨by omega, h⟩))) (by omega))]
  have hw := wh_cnt (f := fun a : (Int64 × St) => f_Mo_nextNumber_L61 v1 v2 a.1 a.2) (g := fun i => (lN (hv sg f i), uI s 0 26 (nI (f + i)))) (r := n) n 0 (by omega) st en
  have e0 : ((0 : Int64), s) = (lN (hv sg f 0), uI s 0 26 (nI (f + 0))) := by rw [Nat.add_zero, uI_same h1]; rfl
  rw [e0]; exact hw
/-- a number read: both right and alike, or both wrong -/
def NR (e q : Nat) (c c' m m' : St) : Prop := SF c c' ∧ MF m m' ∧ c'.1 3 4 = c.1 3 4 ∧ m'.1 0 25 = m.1 0 25 ∧ ((∃ r, q < r ∧ r ≤ e ∧ c'.1 3 3 = 2 ∧ m'.1 0 24 = 3 ∧ c'.1 3 1 = nI r ∧ m'.1 0 26 = nI r ∧ c'.1 3 6 = m'.1 0 27) ∨ (c'.1 3 3 = 5 ∧ m'.1 0 24 = 1))
theorem num_dec {L : Nat} {sg : Nat → Nat} {c m : St} {e f q : Nat} (hC : TXC L sg c) (hT : TXM L sg m) (he : e ≤ L) (hse : sg e = 10) (h2 : c.1 3 2 = nI e) (hr : c.2.2 3 = 1) (h1 : c.1 3 1 = nI f) (h26 : m.1 0 26 = nI f) (hqf : q ≤ f) (hfe : f ≤ e) {w : Int32} (hw : w = 0 ∨ w = 1) :
    ∃ c' m', f_Sc_readNumber_J67 w c = some c' ∧ f_Mo_nextNumber_J190 w (nI f) 0 m = some m' ∧ NR e q c c' m m' := by
  have hL := hC.1
  have h256 := hT.2.2.2.2
  obtain ⟨r, r1, r2, r3, r4⟩ := run_len (Q := fun i => dgt (sg i)) (e := e) (by rw [hse]; unfold dgt; omega) (e - f) f (by omega)
  obtain ⟨n, rfl⟩ : ∃ n, r = f + n := ⟨r - f, by omega⟩
  have hd : ∀ i, i < n → dgt (sg (f + i)) := fun i hi => r3 (f + i) (by omega) (by omega)
  obtain ⟨k, hk⟩ : ∃ k, k = min n 10 := ⟨_, rfl⟩
  obtain ⟨D, hD⟩ : ∃ D, D = dcv sg f k := ⟨_, rfl⟩
  have hD62 : D < 2 ^ 62 := by rw [hD]; exact dcv_lt10 (by omega) (fun i hi => hd i (by omega))
  obtain ⟨v, hv⟩ : ∃ v, v = if w = 0 then lN D else -lN D := ⟨_, rfl⟩
  have hn9 : k < 10 → ¬ (f + k < e ∧ dgt (sg (f + k))) := by
    intro h10 h
    have hkn : k = n := by omega
    rw [hkn] at h
    exact r4 h.2
  have c1 : f_Sc_readDecimal w c = f_Sc_readDecimal_J69 v (nI k) (uI c 3 1 (nI (f + k))) := by
    rw [sc_dec hC he h2 hr h1 h256 (k := k) (by omega) (by omega) (fun i hi => hd i (by omega)) hn9 w, hv, ← hD]
    by_cases h0 : w = 0
    · rw [if_pos h0, if_pos h0]
    · rw [if_neg h0, if_neg h0]
  obtain ⟨w', c2, c3⟩ := sc_J69 (k := k) (by omega) v (uI c 3 1 (nI (f + k)))
  obtain ⟨s, hs⟩ : ∃ s, s = uI (uI c 3 1 (nI (f + k))) 3 6 v.toInt32 := ⟨_, rfl⟩
  have sS : SF c s := by rw [hs]; exact SF_u (SF_u SF_rf (by omega)) (by omega)
  have s1 : s.1 3 1 = nI (f + k) := by rw [hs, uI_o (by omega), uI_v]
  obtain ⟨c4, c5⟩ := sc_J71 (TXC_S hC sS) he (sS.2.2.2.trans h2) (by rw [sS.2.2.1]; exact hr) s1 (by omega) hse h256 w'
  have eC : f_Sc_readNumber_J67 w c = f_Sc_readNumber_J71 w' s := by
    unfold f_Sc_readNumber_J67
    rw [c1, c2, Option.bind_some, lt_eq, hs]
  have mT := TXM_u (j := 26) (v := nI (f + n)) hT (by omega)
  have mw := mo_dec hT h26 (n := n) (by omega) hd r4 w
  rw [← hk, ← hD] at mw
  have good : ∀ {G : Prop}, (G ↔ (k ≠ 0 ∧ n ≤ 10 ∧ ¬ v < -2147483648 ∧ ¬ 4294967295 < v)) → (G → f_Mo_nextNumber_J190 w (nI f) 0 m = f_Mo_nextNumber_J297 w (lN D) 1 (uI m 0 26 (nI (f + n)))) ∧ (¬ G → f_Mo_nextNumber_J190 w (nI f) 0 m = f_Mo_nextNumber_J297 w (lN D) 0 (uI m 0 26 (nI (f + n)))) := by
    intro G hG
    unfold f_Mo_nextNumber_J190
    rw [mw, Option.bind_some]
    dsimp only
    unfold f_Mo_nextNumber_J294 f_Mo_nextNumber_J290 f_Mo_nextNumber_J295
    rw [uI_v]
    by_cases n0 : n = 0
    · rw [if_pos (nI_le (by omega) (by omega))]; exact ⟨fun h => absurd (show k = 0 by omega) (hG.mp h).1, fun _ => rfl⟩
    rw [if_neg (nI_ge (by omega) (by omega)), nI_sub (by omega), show f + n - f = n by omega]
    by_cases n10 : n ≤ 10
    · rw [if_neg (show ¬ 10 < nI n from nI_nlt (a := 10) n10 (by decide))]
      rcases hw with rfl | rfl
      · rw [if_pos rfl] at hv ⊢
        subst hv
        by_cases hb : 4294967295 < lN D
        · rw [if_pos ((lg_cmp_gt _ _).mpr hb)]; exact ⟨fun h => absurd hb (hG.mp h).2.2.2, fun _ => rfl⟩
        · rw [if_neg (fun h => hb ((lg_cmp_gt _ _).mp h))]; exact ⟨fun _ => rfl, fun h => absurd (hG.mpr ⟨by omega, n10, lN_nneg hD62, hb⟩) h⟩
      · rw [if_neg (show ¬ (1 : Int32) = 0 by decide)] at hv ⊢
        subst hv
        by_cases hb : 2147483648 < lN D
        · rw [if_pos ((lg_cmp_gt _ _).mpr hb)]; exact ⟨fun h => absurd ((lN_negA hD62).mpr hb) (hG.mp h).2.2.1, fun _ => rfl⟩
        · rw [if_neg (fun h => hb ((lg_cmp_gt _ _).mp h))]; exact ⟨fun _ => rfl, fun h => absurd (hG.mpr ⟨by omega, n10, fun h2 => hb ((lN_negA hD62).mp h2), lN_negB hD62⟩) h⟩
    · rw [if_pos (show 10 < nI n from nI_lt (a := 10) (by omega) (by omega))]; exact ⟨fun h => absurd (hG.mp h).2.1 n10, fun _ => rfl⟩
  obtain ⟨g1, g2⟩ := good (G := k ≠ 0 ∧ n ≤ 10 ∧ ¬ v < -2147483648 ∧ ¬ 4294967295 < v) Iff.rfl
  have m26 : (uI m 0 26 (nI (f + n))).1 0 26 = nI (f + n) := uI_v
  by_cases hok : (k ≠ 0 ∧ n ≤ 10 ∧ ¬ v < -2147483648 ∧ ¬ 4294967295 < v) ∧ pt (sg (f + n))
  · have hkn : k = n := by omega
    refine ⟨uI s 3 3 2, uI (uI (uI m 0 26 (nI (f + n))) 0 24 3) 0 27 (nmV w (lN D)), ?_, ?_, SF_u sS (by omega), MF_u (MF_u (MF_u MF_rf (by omega) (by omega)) (by omega) (by omega)) (by omega) (by omega), ?_, ?_, .inl ⟨f + n, by omega, by omega, uI_v, ?_, ?_, ?_, ?_⟩⟩
    · rw [eC]; exact c4 ⟨c3.mpr ⟨hok.1.1, hok.1.2.2⟩, by rw [hkn]; exact hok.2⟩
    · rw [g1 hok.1]; exact (mo_J297 mT m26 (by omega) w (lN D) 1).1 ⟨by decide, hok.2⟩
    · rw [uI_o (by omega), hs, uI_o (by omega), uI_o (by omega)]
    · rw [uI_o (by omega), uI_o (by omega), uI_o (by omega)]
    · rw [uI_o (by omega), uI_v]
    · rw [uI_o (by omega), s1, hkn]
    · rw [uI_o (by omega), uI_o (by omega), uI_v]
    · rw [uI_o (by omega), uI_v, hs, uI_v, hv]
      unfold nmV
      by_cases h0 : w = 0
      · rw [if_pos h0, if_pos h0]
      · rw [if_neg h0, if_neg h0]
  · have hm : f_Mo_nextNumber_J190 w (nI f) 0 m = some (uI (uI (uI m 0 26 (nI (f + n))) 0 24 1) 0 27 (nmV w (lN D))) := by
      by_cases hg : k ≠ 0 ∧ n ≤ 10 ∧ ¬ v < -2147483648 ∧ ¬ 4294967295 < v
      · rw [g1 hg]; exact (mo_J297 mT m26 (by omega) w (lN D) 1).2 (fun h => hok ⟨hg, h.2⟩)
      · rw [g2 hg]; exact (mo_J297 mT m26 (by omega) w (lN D) 0).2 (fun h => absurd rfl h.1)
    have hc : f_Sc_readNumber_J67 w c = some (uI s 3 3 5) := by
      rw [eC]
      refine c5 (fun h => ?_)
      have hw' := c3.mp h.1
      by_cases n10 : n ≤ 10
      · have hkn : k = n := by omega
        exact hok ⟨⟨hw'.1, n10, hw'.2⟩, by rw [← hkn]; exact h.2⟩
      · exact h.2.1 (.inr (hd k (by omega)))
    refine ⟨_, _, hc, hm, SF_u sS (by omega), MF_u (MF_u (MF_u MF_rf (by omega) (by omega)) (by omega) (by omega)) (by omega) (by omega), ?_, ?_, .inr ⟨uI_v, ?_⟩⟩
    · rw [uI_o (by omega), hs, uI_o (by omega), uI_o (by omega)]
    · rw [uI_o (by omega), uI_o (by omega), uI_o (by omega)]
    · rw [uI_o (by omega), uI_v]
