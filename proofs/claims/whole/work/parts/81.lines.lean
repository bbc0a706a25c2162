/-! ===== all lines ===== -/
def nlc (sg : Nat → Nat) : Nat → Nat
  | 0 => 0
  | k + 1 => nlc sg k + (if sg k = 10 then 1 else 0)
theorem nlc_run {sg : Nat → Nat} {f : Nat} : ∀ d, (∀ i, f ≤ i → i < f + d → sg i ≠ 10) → nlc sg (f + d) = nlc sg f
  | 0, _ => rfl
  | d + 1, h => by
    show nlc sg (f + d) + (if sg (f + d) = 10 then 1 else 0) = _
    rw [if_neg (h (f + d) (by omega) (by omega)), nlc_run d (fun i a b => h i a (by omega))]; omega
def AFw (b : Nat) (m0 m : St) : Prop := (∀ k, 13 ≤ k → m.1 k = m0.1 k) ∧ m.1 1 = m0.1 1 ∧ m.1 2 = m0.1 2 ∧ (∀ i, i < 200 * b ∨ 200 * b + 200 ≤ i → m.1 3 i = m0.1 3 i) ∧ (∀ i, i < 600 * b ∨ 600 * b + 600 ≤ i → m.1 4 i = m0.1 4 i ∧ m.1 5 i = m0.1 5 i) ∧ (∀ j, j ≠ 15 → j ≠ 17 → j ≠ 18 → ¬ (20 ≤ j ∧ j ≤ 27) → m.1 0 j = m0.1 0 j) ∧ m.2 = m0.2
section LINES
variable {L : Nat} {sg : Nat → Nat} {P b : Nat} {c0 m0 c m : St} {N nl o j : Nat} {p0 e p q : Nat}
theorem AFm_w (h : AFm b m0 m) : AFw b m0 m := ⟨h.1, h.2.1, h.2.2.1, h.2.2.2.1, h.2.2.2.2.1, fun j x1 x2 x3 x4 => h.2.2.2.2.2.1 j x1 x2 x3 (by omega), h.2.2.2.2.2.2⟩
theorem AFw_tr {m1 m2 : St} (h : AFw b m0 m1) (g : AFw b m1 m2) : AFw b m0 m2 :=
  ⟨fun k hk => (g.1 k hk).trans (h.1 k hk), g.2.1.trans h.2.1, g.2.2.1.trans h.2.2.1, fun i hi => (g.2.2.2.1 i hi).trans (h.2.2.2.1 i hi), fun i hi => ⟨(g.2.2.2.2.1 i hi).1.trans (h.2.2.2.2.1 i hi).1, (g.2.2.2.2.1 i hi).2.trans (h.2.2.2.2.1 i hi).2⟩, fun j x1 x2 x3 x4 => (g.2.2.2.2.2.1 j x1 x2 x3 x4).trans (h.2.2.2.2.2.1 j x1 x2 x3 x4), g.2.2.2.2.2.2.trans h.2.2.2.2.2.2⟩
theorem AFw_u (h : AFw b m0 m) {i : Nat} {v : Int32} (hi : i = 15 ∨ i = 17 ∨ i = 18 ∨ (20 ≤ i ∧ i ≤ 27)) : AFw b m0 (uI m 0 i v) :=
  ⟨fun k hk => by rw [uI_n (by omega)]; exact h.1 k hk, by rw [uI_n (by omega)]; exact h.2.1, by rw [uI_n (by omega)]; exact h.2.2.1, fun i hi => by rw [uI_n (by omega)]; exact h.2.2.2.1 i hi, fun i hi => by rw [uI_n (by omega), uI_n (by omega)]; exact h.2.2.2.2.1 i hi, fun j x1 x2 x3 x4 => by rw [uI_o (by omega)]; exact h.2.2.2.2.2.1 j x1 x2 x3 x4, h.2.2.2.2.2.2⟩
theorem AFc_tr {c1 c2 : St} (h : AFc P c0 c1) (g : AFc P c1 c2) : AFc P c0 c2 :=
  ⟨fun k x2 x3 x6 x8 x9 y0 y1 y2 y3 => (g.1 k x2 x3 x6 x8 x9 y0 y1 y2 y3).trans (h.1 k x2 x3 x6 x8 x9 y0 y1 y2 y3), g.2.1.trans h.2.1, fun q hq => (g.2.2 q hq).trans (h.2.2 q hq)⟩
theorem AFc_rf : AFc P c c := ⟨fun _ _ _ _ _ _ _ _ _ _ => rfl, rfl, fun _ _ => rfl⟩
theorem AFm_rf : AFm b m m := ⟨fun _ _ => rfl, rfl, rfl, fun _ _ => rfl, fun _ _ => ⟨rfl, rfl⟩, fun _ _ _ _ _ => rfl, rfl⟩
theorem AFw_rf : AFw b m m := AFm_w AFm_rf
/-- another base: the states themselves, where only the scanner, the line's number and the place have changed -/
theorem AR_re {c' m' : St} (h : AR L sg P b c0 m0 N nl c m) (e1 : ∀ k, k ≠ 2 → k ≠ 3 → c'.1 k = c.1 k) (e2 : ∀ i, i ≠ 8 → c'.1 2 i = c.1 2 i) (e21 : c'.2.1 = c.2.1) (e22 : ∀ q, q ≠ 3 → c'.2.2 q = c.2.2 q) (f1 : ∀ k, k ≠ 0 → m'.1 k = m.1 k) (f0 : ∀ i, i ≠ 23 → i ≠ 26 → m'.1 0 i = m.1 0 i) (hl : c'.1 2 8 = m'.1 0 23) : AR L sg P b c' m' N nl c' m' := by
  obtain ⟨⟨h1, h2, h3, h4, h5, h6, h7, h8, h9⟩, hU⟩ := h
  have hP := BA_i h1
  refine ⟨⟨⟨⟨h1.1.1, h1.1.2.1, (e22 2 (by omega)).trans (BA_P h1), (f0 14 (by omega) (by omega)).trans (BA_b h1), TXC_of (BA_C h1) (e1 1 (by omega) (by omega)), TXM_of (BA_M h1) (f0 3 (by omega) (by omega)) (f1 2 (by omega)), ?_⟩, AFc_rf, AFm_rf⟩, by rw [e1 P (by omega) (by omega)]; exact h2, (f0 15 (by omega) (by omega)).trans h3, by rw [e1 P (by omega) (by omega)]; exact h4, (f0 20 (by omega) (by omega)).trans h5, ?_, hl, fun i hi => PI_of (h8 i hi) (by rw [e1 (P + 1) (by omega) (by omega)]) (fun j' _ => by rw [e1 (P + 2) (by omega) (by omega)]) (by rw [e1 (P + 3) (by omega) (by omega)]) (by rw [f1 3 (by omega)]) (fun j' _ => by rw [f1 4 (by omega)]) (fun j' _ => by rw [f1 5 (by omega)]), LBL_of h9 (e2 4 (by omega)) (by rw [e21]) (e1 6 (by omega) (by omega)) (f0 17 (by omega) (by omega)) (f1 6 (by omega)) (f1 7 (by omega)) (f1 8 (by omega))⟩, USE_of hU (fun i _ => by rw [e1 (P + 1) (by omega) (by omega)]) (fun i _ => by rw [e21]) (fun i _ => by rw [e1 8 (by omega) (by omega)]) (fun i _ => by rw [e1 9 (by omega) (by omega)]) (f0 18 (by omega) (by omega)) (f1 9 (by omega)) (f1 10 (by omega)) (f1 11 (by omega)) (f1 12 (by omega))⟩
  · intro k hk
    rw [e21]; exact BA_N h1 k hk
  · unfold FLT; rw [e2 10 (by omega), e2 11 (by omega), e2 12 (by omega), f0 20 (by omega) (by omega), f0 21 (by omega) (by omega), f0 22 (by omega) (by omega)]; exact h6
theorem as_eol (hC : TXC L sg c) (hp : p ≤ e) (he : e ≤ L) (hse : e < L → sg e = 10) (hne : ∀ i, p ≤ i → i < e → sg i ≠ 10) (h256 : ∀ i, sg i < 256) : f_As_endOfLine (nI p) (nI L) c = some (nI e) := by
  have hL := hC.1
  have st : ∀ i, p ≤ i → i < e → f_As_endOfLine_L2 (nI L) (nI i) c = some (.inl (nI (i + 1))) := by
    intro i a b'
    have := h256 i
    unfold f_As_endOfLine_L2
    rw [if_neg (nI_ge (by omega) (by omega)), gd_nI (by omega) (by omega), nI_clamp (by omega), hC.2 i (by omega), if_neg (show ¬ nI (sg i) = 10 from ne_l (k := 10) (by omega) (by omega) (hne i a b')), nI_1]
  have en : f_As_endOfLine_L2 (nI L) (nI e) c = some (.inr (nI e)) := by
    unfold f_As_endOfLine_L2
    by_cases h : L ≤ e
    · rw [if_pos (nI_le h (by omega))]
    · rw [if_neg (nI_ge (by omega) (by omega)), gd_nI (by omega) (by omega), nI_clamp (by omega), hC.2 e (by omega), hse (by omega), if_pos (show nI 10 = 10 from rfl)]
  have hw := wh_cnt (f := fun a : Int32 => f_As_endOfLine_L2 (nI L) a c) (g := fun i => nI i) (r := e) (e - p) p (by omega) st en
  unfold f_As_endOfLine
  rw [hw, Option.bind_some]
/-- the state between lines: d of them are read, the next begins at f -/
def LH (L : Nat) (sg : Nat → Nat) (P b : Nat) (f d N nl : Nat) (c m : St) : Prop := AR L sg P b (uI c 2 8 (nI (d + 1))) m N nl (uI c 2 8 (nI (d + 1))) m ∧ c.1 2 8 = nI d ∧ m.1 0 23 = nI (d + 1) ∧ m.1 0 26 = nI f ∧ N ≤ d ∧ nl ≤ d ∧ nlc sg f = d ∧ f ≤ L + 1 ∧ d ≤ 200
theorem rd_lines {c00 m00 : St} (hnl : ∀ i, i < L → nlc sg i ≤ 199) : ∀ (r f d N nl : Nat) (c m : St), L + 1 ≤ f + r → LH L sg P b f d N nl c m → AFc P c00 c → AFw b m00 m →
    (∃ x c' m' f' d' N' nl', wh (fun a : (Int32 × St) => f_As_translate_L51 (nI L) a.1 a.2) (nI f, c) = some (.inl (x, c')) ∧ wh (fun a : St => f_Mo_assemble_L157 a) m = some m' ∧ LH L sg P b f' d' N' nl' c' m' ∧ AFc P c00 c' ∧ AFw b m00 m')
    ∨ (∃ c' m', wh (fun a : (Int32 × St) => f_As_translate_L51 (nI L) a.1 a.2) (nI f, c) = some (.inr (0, c')) ∧ wh (fun a : St => f_Mo_assemble_L157 a) m = some m' ∧ FLT c' m' ∧ 0 < m'.1 0 20 ∧ AFc P c00 c' ∧ AFw b m00 m') := by
  have stop : ∀ (f d N nl : Nat) (c m : St), L ≤ f → LH L sg P b f d N nl c m → wh (fun a : (Int32 × St) => f_As_translate_L51 (nI L) a.1 a.2) (nI f, c) = some (.inl (nI f, c)) ∧ wh (fun a : St => f_Mo_assemble_L157 a) m = some m := by
    intro f d N nl c m hf hH
    obtain ⟨h1, h2, h3, h4, h5, h6, h7, h8, h9⟩ := hH
    have hTM := BA_M h1.1.1
    have hL3 := hTM.1
    refine ⟨wh_inr ?_, wh_inr ?_⟩
    · show f_As_translate_L51 (nI L) (nI f) c = _
      unfold f_As_translate_L51
      rw [if_pos (nI_le hf (by omega))]
    · show f_Mo_assemble_L157 m = _
      unfold f_Mo_assemble_L157
      rw [hTM.2.1, h4, if_pos (nI_le hf (by omega))]
  intro r
  induction r with
  | zero =>
    intro f d N nl c m hf hH hc hm
    obtain ⟨a1, a2⟩ := stop f d N nl c m (by omega) hH
    exact .inl ⟨_, c, m, f, d, N, nl, a1, a2, hH, hc, hm⟩
  | succ r ih =>
    intro f d N nl c m hf hH hc hm
    by_cases hfL : L ≤ f
    · obtain ⟨a1, a2⟩ := stop f d N nl c m hfL hH
      exact .inl ⟨_, c, m, f, d, N, nl, a1, a2, hH, hc, hm⟩
    obtain ⟨h1, h2, h3, h4, h5, h6, h7, h8, h9⟩ := hH
    have hTM := BA_M h1.1.1
    have hL3 := hTM.1
    have h256 := hTM.2.2.2.2
    have hd199 : d ≤ 199 := by rw [← h7]; exact hnl f (by omega)
    obtain ⟨e, e1, e2, e3, e4⟩ := run_len (Q := fun i => sg i ≠ 10) (e := L) (by rw [hTM.2.2.2.1 L (Nat.le_refl _)]; exact fun h => h rfl) (L - f) f (by omega)
    have e4' : sg e = 10 := Classical.byContradiction e4
    have hCx : TXC L sg c := TXC_of (BA_C h1.1.1) (by rw [uI_n (by omega)])
    obtain ⟨cs, hcs⟩ : ∃ cs, cs = uI (uI (uR (uI c 2 8 (nI (d + 1))) 3 1) 3 1 (nI f)) 3 2 (nI e) := ⟨_, rfl⟩
    have cs1 : ∀ k, k ≠ 2 → k ≠ 3 → cs.1 k = c.1 k := fun k x y => by rw [hcs, uI_n y, uI_n y, uR_1, uI_n x]
    have cs2 : cs.1 2 = (uI c 2 8 (nI (d + 1))).1 2 := by rw [hcs, uI_n (by omega), uI_n (by omega), uR_1]
    have hRs : AR L sg P b cs m N nl cs m := by
      refine AR_re h1 (fun k x y => ?_) (fun i _ => by rw [cs2]) (by rw [hcs]; rfl) (fun q hq => ?_) (fun _ _ => rfl) (fun _ _ _ => rfl) ?_
      · rw [cs1 k x y, uI_n x]
      · rw [hcs]; show (uR (uI c 2 8 (nI (d + 1))) 3 1).2.2 q = _; rw [uR_22, if_neg hq]
      · rw [cs2, uI_v, h3]
    have hLE : LE L sg f e := ⟨e2, e4', e3⟩
    have hSY : SY f e f cs m := by
      refine ⟨Nat.le_refl _, e1, ?_, h4, ?_, ?_⟩
      · rw [hcs, uI_o (by omega), uI_v]
      · rw [hcs, uI_v]
      · rw [hcs]; show (uR (uI c 2 8 (nI (d + 1))) 3 1).2.2 3 = 1; rw [uR_22, if_pos rfl]
    have hcs0 : AFc P c00 cs := by
      have hP := BA_i h1.1.1
      refine AFc_tr hc ⟨fun k x2 x3 _ _ _ _ _ _ _ => cs1 k x2 x3, by rw [hcs]; rfl, fun q hq => ?_⟩
      rw [hcs]; show (uR (uI c 2 8 (nI (d + 1))) 3 1).2.2 q = _; rw [uR_22, if_neg hq]; rfl
    have eC : f_As_translate_L51 (nI L) (nI f) c = (f_As_readLine cs).bind fun q21 => if q21.1 = 0 then some (.inr (.inr (0, q21.2))) else some (.inl (nI (e + 1), q21.2)) := by
      unfold f_As_translate_L51 f_Sc_openLine
      rw [if_neg (nI_ge (by omega) (by omega)), h2, if_neg (show ¬ 200 ≤ nI d from nI_ge (b := 200) (by omega) (by decide)), as_eol hCx e1 e2 (fun _ => e4') e3 h256, Option.bind_some, nI_1, lt_eq, lt_eq, lt_eq, lt_eq, Option.bind_some, ← hcs, nI_1]
      rfl
    have h20 : m.1 0 20 = 0 := h1.1.2.2.2.2.1
    have eM : f_Mo_assemble_L157 m = (f_Mo_readLine m).bind fun q20 => lt (uI q20 0 26 ((q20.1 0 26) + 1)) fun s22 => if (s22.1 0 20) = 0 then f_Mo_assemble_J206_1 1 (s22.1 0 23) s22 else f_Mo_assemble_J206_1 0 (s22.1 0 23) s22 := by
      unfold f_Mo_assemble_L157
      rw [hTM.2.1, h4, if_neg (nI_ge (by omega) (by omega)), if_pos h20]
    rcases rd_line hRs (by omega) (by omega) hLE hSY with ⟨c', m', N', nl', x1, x2, x3, x4, x5, x6⟩ | ⟨c', m', x1, x2, x3⟩
    · have hB' := x3.1.1
      have m23 : m'.1 0 23 = nI (d + 1) := (hB'.2.2.2.2.2.2.2.1 23 (by omega) (by omega) (by omega) (by omega)).trans h3
      have c28 : c'.1 2 8 = nI (d + 1) := x3.1.2.2.2.2.2.2.1.trans m23
      have m20 : m'.1 0 20 = 0 := x3.1.2.2.2.2.1
      obtain ⟨mn, hmn⟩ : ∃ mn, mn = uI (uI m' 0 26 (nI (e + 1))) 0 23 (nI (d + 1 + 1)) := ⟨_, rfl⟩
      have eC' : f_As_translate_L51 (nI L) (nI f) c = some (.inl (nI (e + 1), c')) := by
        rw [eC, x1, Option.bind_some, if_neg (show ¬ (1 : Int32) = 0 by decide)]
      have eM' : f_Mo_assemble_L157 m = some (.inl mn) := by
        rw [eM, x2, Option.bind_some, x6, nI_1, lt_eq, uI_o (by omega), m20, if_pos rfl]
        unfold f_Mo_assemble_J206_1
        rw [uI_o (by omega), m23, nI_1, lt_eq, hmn]
      have hH2 : LH L sg P b (e + 1) (d + 1) N' nl' c' mn := by
        refine ⟨AR_re x3 (fun k x _ => uI_n x) (fun i hi => uI_o (by omega)) rfl (fun _ _ => rfl) (fun k hk => by rw [hmn, uI_n hk, uI_n hk]) (fun i h23 h26 => by rw [hmn, uI_o (by omega), uI_o (by omega)]) (by rw [uI_v, hmn, uI_v]), c28, by rw [hmn, uI_v], by rw [hmn, uI_o (by omega), uI_v], by omega, by omega, ?_, by omega, by omega⟩
        show nlc sg e + (if sg e = 10 then 1 else 0) = d + 1
        rw [if_pos e4']
        have := nlc_run (sg := sg) (f := f) (e - f) (fun i a b => e3 i a (by omega))
        rw [show f + (e - f) = e by omega] at this
        rw [this, h7]
      have hI := ih (e + 1) (d + 1) N' nl' c' mn (by omega) hH2 (AFc_tr hcs0 hB'.2.1) (by rw [hmn]; exact AFw_u (AFw_u (AFw_tr hm (AFm_w hB'.2.2)) (by omega)) (by omega))
      rw [wh_inl (a' := (nI (e + 1), c')) eC', wh_inl (a' := mn) eM']
      exact hI
    · obtain ⟨mn, hmn⟩ : ∃ mn, mn = uI (uI m' 0 26 (m'.1 0 26 + 1)) 0 23 (m'.1 0 23 + 0) := ⟨_, rfl⟩
      have n20 : ¬ m'.1 0 20 = 0 := fun h => by
        have := x3.2.2
        rw [h] at this; exact absurd this (by decide)
      have mn20 : mn.1 0 20 = m'.1 0 20 := by rw [hmn, uI_o (by omega), uI_o (by omega)]
      have eM' : f_Mo_assemble_L157 m = some (.inl mn) := by
        rw [eM, x2, Option.bind_some, lt_eq, uI_o (by omega), if_neg n20]
        unfold f_Mo_assemble_J206_1
        rw [uI_o (by omega), lt_eq, hmn]
      refine .inr ⟨c', mn, wh_inr ?_, (wh_inl (a' := mn) eM').trans (wh_inr ?_), ?_, by rw [mn20]; exact x3.2.2, AFc_tr hcs0 x3.1.2.1, by rw [hmn]; exact AFw_u (AFw_u (AFw_tr hm (AFm_w x3.1.2.2)) (by omega)) (by omega)⟩
      · show f_As_translate_L51 (nI L) (nI f) c = _
        rw [eC, x1, Option.bind_some, if_pos rfl]
      · show f_Mo_assemble_L157 mn = _
        unfold f_Mo_assemble_L157
        rw [mn20, if_neg n20, ite_self]
      · have := x3.2.1
        unfold FLT at this ⊢
        rw [mn20, hmn, uI_o (by omega), uI_o (by omega), uI_o (by omega), uI_o (by omega)]; exact this
end LINES
