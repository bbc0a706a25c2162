/-! ===== input, output, filling ===== -/
theorem St_ext {s t : St} (h : ∀ k j, s.1 k j = t.1 k j) (h2 : s.2 = t.2) : s = t := Prod.ext (funext fun k => funext fun j => h k j) h2
theorem uI_comm {s : St} {k j k' j' : Nat} {v v' : Int32} (h : ¬ (k = k' ∧ j = j')) : uI (uI s k j v) k' j' v' = uI (uI s k' j' v') k j v := by
  refine St_ext (fun a b => ?_) rfl
  rw [uI_g2, uI_g2, uI_g2, uI_g2]
  by_cases h1 : a = k' ∧ b = j'
  · rw [if_pos h1, if_pos h1, if_neg (fun h2 => h ⟨h2.1.symm.trans h1.1, h2.2.symm.trans h1.2⟩)]
  · rw [if_neg h1, if_neg h1]
def INp (P : Nat) (c0 m0 : St) : Prop := ∃ I, I ≤ 100 ∧ c0.1 P 5 = nI I ∧ m0.1 0 55 = nI I ∧ ∀ j, j < I → c0.1 (P + 4) j = m0.1 36 j
theorem act_47 {x : Int32} {m : St} : f_Mo_act (nI 47) x m = (gd (m.1 0 28) 2 <| if (m.1 0 55) ≤ (m.1 27 ((m.1 0 28) : Int32).toNatClampNeg) then f_Mo_act_J269 x (-1) m else gd (m.1 0 28) 2 <| gd (m.1 27 ((m.1 0 28) : Int32).toNatClampNeg) 100 <| f_Mo_act_J269 x (m.1 36 ((m.1 27 ((m.1 0 28) : Int32).toNatClampNeg) : Int32).toNatClampNeg) m) := by
  unfold f_Mo_act
  rw [if_neg (show ¬ nI 47 = 35 by decide), if_neg (show ¬ nI 47 = 36 by decide), if_neg (show ¬ nI 47 = 37 by decide), if_neg (show ¬ nI 47 = 38 by decide), if_neg (show ¬ nI 47 = 39 by decide), if_neg (show ¬ nI 47 = 40 by decide), if_neg (show ¬ nI 47 = 41 by decide), if_neg (show ¬ nI 47 = 42 by decide), if_neg (show ¬ nI 47 = 43 by decide), if_neg (show ¬ nI 47 = 44 by decide), if_neg (show ¬ nI 47 = 45 by decide), if_neg (show ¬ nI 47 = 46 by decide), if_pos (show nI 47 = 47 from rfl)]
theorem o_in {z B n i N P b : Nat} {t : Int32} {c0 m0 c m : St} (h : SI z B n i N t c0 m0 c m) (hX : PX B P b i N 47 c0 m0) (hI : INp P c0 m0) (he : c.1 B 11 = 0) :
    ∃ c' m', f_Ma_readInput B c = some c' ∧ f_Mo_act (nI 47) (nI (600 * b + 3 * i)) m = some m' ∧ SI z B n i N t c0 m0 c' m' := by
  obtain ⟨r, hr⟩ := PX_R hX (j := 0) (by omega) rfl
  obtain ⟨I, hI1, hI2, hI3, hI4⟩ := hI
  have hz := RB_zb h.1
  have hP := hX.1
  have hl := isP_lt hP
  have hq : c.2.2 (mq B) = P := by rw [RB_c2 h.1]; exact hX.2.1
  have gz2 : ∀ {β : Type} (q : Option β), gd (nI z) 2 q = q := fun q => gd_nI hz (by omega)
  have kz : (nI z).toNatClampNeg = z := nI_clamp (by omega)
  obtain ⟨a1, a2, a3, a4, a5, a6, a7, a8, ⟨k, hk, a9⟩, a10⟩ := h.2.2.2.2.2.2
  have e27 : m.1 27 z = nI k := (RB_eq h.1 (show phi z 0 14 = some (27, z) from rfl)).symm.trans a9
  have e55 : m.1 0 55 = nI I := (RB_0 h.1 (by unfold own; omega)).trans hI3
  have eP5 : c.1 P 5 = nI I := by rw [fr_c h.1 (by omega)]; exact hI2
  obtain ⟨g5, e5, _⟩ := rd_5 h hX (j := 0) (by omega) (x := nI (600 * b + 3 * i)) rfl
  rw [act_47]
  unfold f_Ma_readInput f_Mo_act_J269
  rw [hq, gP_e hP, eP5, a9, RB_z h.1, gz2, kz, e55, e27]
  by_cases g : I ≤ k
  · rw [if_pos (nI_le g (by omega)), if_pos (nI_le g (by omega)), gz2, if_pos (nI_le g (by omega))]
    obtain ⟨c', m', f1, f2, f3, _⟩ := S_give h he hr.1 (-1) 0 0
    refine ⟨c', m', ?_, ?_, f3⟩
    · unfold f_Ma_readInput_J39
      rw [(rd_R h hX (by omega) hr (v := 0) rfl).1]
      simp only [Option.bind_some, f1]
    · unfold f_Mo_act_J299
      rw [g5, e5, hr.2.2.1, f2]; rfl
  · have hk2 : k < I := by omega
    have n1 : ¬ nI I ≤ nI k := nI_ge hk2 (by omega)
    rw [if_neg n1, if_neg n1, if_neg n1, gP_e hP, gz2, gd_nI (by omega) (by omega), gd_nI (by omega) (by omega), gz2, gz2, gz2, nI_clamp (by omega)]
    have e36 : m.1 36 k = c.1 (P + 4) k := by
      rw [RB_0 h.1 (k := 36) (by unfold own; omega), ← hI4 k hk2, fr_c h.1 (by omega)]
    simp only [lt, nI_1]
    have hR2 : RB z B c0 m0 (uI c B 14 (nI (k + 1))) (uI m 27 z (nI (k + 1))) := RB_set (d := 0) h.1 (show phi z 0 14 = some (27, z) from rfl) (by omega) (by unfold own; omega)
    have h2 : SI z B n i N t c0 m0 (uI c B 14 (nI (k + 1))) (uI m 27 z (nI (k + 1))) := by
      refine SI_Bof h (Nat.le_refl _) hR2 (fun k' h1 h2 => uI_n h1) (by rw [uI_n (by omega)]) (uI_n (by omega)) (uI_n (by omega)) ?_
      unfold IX
      have q : ∀ j, j ≠ 14 → (uI c B 14 (nI (k + 1))).1 B j = c.1 B j := fun j hj => uI_o (by omega)
      rw [q 9 (by omega), q 8 (by omega), q 12 (by omega), q 11 (by omega), q 10 (by omega), q 16 (by omega), q 18 (by omega), uI_v, uI_n (show B + 36 ≠ B by omega), uI_n (show (0 : Nat) ≠ 27 by omega), uI_n (show (22 : Nat) ≠ 27 by omega)]
      exact ⟨a1, a2, a3, a4, a5, a6, a7, a8, ⟨k + 1, by omega, rfl⟩, a10⟩
    have he2 : (uI c B 14 (nI (k + 1))).1 B 11 = 0 := by rw [uI_o (by omega)]; exact he
    obtain ⟨g6, e6, _⟩ := rd_5 h2 hX (j := 0) (by omega) (x := nI (600 * b + 3 * i)) rfl
    obtain ⟨c', m', f1, f2, f3, _⟩ := S_give h2 he2 hr.1 (c.1 (P + 4) k) 0 0
    refine ⟨c', m', ?_, ?_, f3⟩
    · unfold f_Ma_readInput_J39
      rw [(rd_R h2 hX (by omega) hr (v := 0) rfl).1]
      simp only [Option.bind_some, f1]
    · unfold f_Mo_act_J299
      rw [g6, e6, hr.2.2.1, e36, f2]; rfl
theorem act_48 {x : Int32} {m : St} : f_Mo_act (nI 48) x m = ((f_Mo_shade x m).bind fun q43 => if q43 = 0 then f_Mo_act_J331 x m else (f_Mo_origin x m).bind fun q55 => (f_Mo_told 3 q55 m).bind fun q57 => f_Mo_act_J331 x q57) := by
  unfold f_Mo_act
  rw [if_neg (show ¬ nI 48 = 35 by decide), if_neg (show ¬ nI 48 = 36 by decide), if_neg (show ¬ nI 48 = 37 by decide), if_neg (show ¬ nI 48 = 38 by decide), if_neg (show ¬ nI 48 = 39 by decide), if_neg (show ¬ nI 48 = 40 by decide), if_neg (show ¬ nI 48 = 41 by decide), if_neg (show ¬ nI 48 = 42 by decide), if_neg (show ¬ nI 48 = 43 by decide), if_neg (show ¬ nI 48 = 44 by decide), if_neg (show ¬ nI 48 = 45 by decide), if_neg (show ¬ nI 48 = 46 by decide), if_neg (show ¬ nI 48 = 47 by decide), if_pos (show nI 48 = 48 from rfl)]
theorem out_end {z B n i N : Nat} {t : Int32} {c0 m0 c m : St} (h : SI z B n i N t c0 m0 c m) {k : Nat} (hk : k ≤ n) (e18 : c.1 B 18 = nI k) (M : Int32) {m' : St} (hR : RB z B c0 m0 (uI (uI c B 18 (nI (k + 1))) B 13 M) m') (h69 : m'.1 0 69 = m.1 0 69) (h22 : m'.1 22 z = m.1 22 z) (h64 : m'.1 0 64 = m.1 0 64) (h33 : m'.1 33 = m.1 33) (h35 : m'.1 35 = m.1 35) : SI z B (n + 1) i N t c0 m0 (uI (uI c B 18 (nI (k + 1))) B 13 M) m' := by
  refine SI_Bof h (by omega) hR (fun k' h1 h2 => by rw [uI_n h1, uI_n h1]) h64 h33 h35 ?_
  obtain ⟨a1, a2, a3, a4, a5, a6, a7, a8, a9, a10⟩ := h.2.2.2.2.2.2
  unfold IX
  have q : ∀ j, j ≠ 13 → j ≠ 18 → (uI (uI c B 18 (nI (k + 1))) B 13 M).1 B j = c.1 B j := fun j hj hj2 => by rw [uI_o (by omega), uI_o (by omega)]
  rw [q 9 (by omega) (by omega), q 8 (by omega) (by omega), q 12 (by omega) (by omega), q 11 (by omega) (by omega), q 10 (by omega) (by omega), q 16 (by omega) (by omega), q 14 (by omega) (by omega), uI_o (by omega), uI_v, uI_n (show B + 36 ≠ B by omega), uI_n (show B + 36 ≠ B by omega), h69, h22]
  exact ⟨a1, a2, a3, a4, a5, a6, a7, a8, a9, k + 1, by omega, rfl⟩
theorem o_out {z B n i N P b : Nat} {t : Int32} {c0 m0 c m : St} (hn : n < 2 ^ 30) (h : SI z B n i N t c0 m0 c m) (hX : PX B P b i N 48 c0 m0) :
    ∃ c' m', f_Ma_putOut B c = some c' ∧ f_Mo_act (nI 48) (nI (600 * b + 3 * i)) m = some m' ∧ SI z B (n + 2) i N t c0 m0 c' m' := by
  obtain ⟨r, hr⟩ := PX_R hX (j := 0) (by omega) rfl
  have hr8 := hr.1
  have hz := RB_zb h.1
  have hB := RB_B h.1
  obtain ⟨_, q2, q3⟩ := rd_R h hX (by omega) hr (v := 0) rfl
  obtain ⟨x1, x2, x3⟩ := rd_m h hX (by omega) hr (x := nI (600 * b + 3 * i)) rfl
  obtain ⟨c1, m1, f1, f2, f3, f4⟩ := S_rep h (B + 26 + r) 3 rfl rfl
  obtain ⟨y1, _, _⟩ := rd_m f3 hX (by omega) hr (x := nI (600 * b + 3 * i)) rfl
  have gz2 : ∀ {β : Type} (q : Option β), gd (nI z) 2 q = q := fun q => gd_nI hz (by omega)
  have kz : (nI z).toNatClampNeg = z := nI_clamp (by omega)
  obtain ⟨k, hk, a18⟩ := f3.2.2.2.2.2.2.2.2.2.2.2.2.2.2.2
  have e13 : c1.1 B 13 = m1.1 23 z := RB_eq f3.1 (show phi z 0 13 = some (23, z) from rfl)
  have eM : f_Mo_act (nI 48) (nI (600 * b + 3 * i)) m = f_Mo_act_J331 (nI (600 * b + 3 * i)) m1 := by
    rw [act_48, x2, x3]
    simp only [Option.bind_some]
    exact f2 (fun q => f_Mo_act_J331 (nI (600 * b + 3 * i)) q)
  obtain ⟨v, hv⟩ : ∃ v, v = c1.1 (B + 26 + r) 0 := ⟨_, rfl⟩
  obtain ⟨M, hM⟩ : ∃ M, M = ((c1.1 B 13 * 31 + 3) * 31) + v := ⟨_, rfl⟩
  have eM2 : f_Mo_act_J331 (nI (600 * b + 3 * i)) m1 = if nI z = 1 then some (uI m1 23 z M) else if 100 ≤ m1.1 0 56 then f_Mo_act_J395 (uI m1 23 z M) else gd (m1.1 0 56) 100 <| f_Mo_act_J395 (uI (uI m1 23 z M) 37 (m1.1 0 56).toNatClampNeg v) := by
    unfold f_Mo_act_J331
    rw [RB_z f3.1, gz2, y1, Option.bind_some, gz2, kz, lt_eq, ← e13, ← hv, ← hM, uI_n (show (0 : Nat) ≠ 23 by omega), RB_z f3.1]
    have hv2 : f_Mo_value (nI (600 * b + 3 * i)) (uI m1 23 z M) = some v := by
      have : f_Mo_value (nI (600 * b + 3 * i)) (uI m1 23 z M) = f_Mo_value (nI (600 * b + 3 * i)) m1 := by
        unfold f_Mo_value
        rw [uI_n (show (4 : Nat) ≠ 23 by omega), uI_n (show (5 : Nat) ≠ 23 by omega), uI_n (show (13 : Nat) ≠ 23 by omega), uI_n (show (0 : Nat) ≠ 23 by omega)]
      rw [this, y1, hv]
    rw [hv2, Option.bind_some]
    rfl
  have tailC : ∀ c2 : St, c2.1 B 18 = nI k → c2.1 B 13 = c1.1 B 13 → c2.1 (B + 26 + r) 0 = v → f_Ma_putOut_J34 B (B + 26 + r) c2 = some (uI (uI c2 B 18 (nI (k + 1))) B 13 M) := by
    intro c2 e1 e2 e3
    unfold f_Ma_putOut_J34 f_Ma_addToMark
    simp only [lt, Option.bind_some]
    rw [e1, nI_1, uI_o (show ¬ (B = B ∧ (13 : Nat) = 18) by omega), e2, uI_v, uI_uI, uI_n (show B + 26 + r ≠ B by omega), uI_n (show B + 26 + r ≠ B by omega), e3, hM]
  have eC : f_Ma_putOut B c = if 100 ≤ nI k then f_Ma_putOut_J34 B (B + 26 + r) c1 else gd (nI k) 100 <| f_Ma_putOut_J34 B (B + 26 + r) (uI c1 (B + 37) (nI k).toNatClampNeg v) := by
    unfold f_Ma_putOut
    rw [q2]
    simp only [Option.bind_some]
    rw [if_pos q3, f1]
    simp only [Option.bind_some, lt]
    rw [a18, ← hv]
  rw [eM, eM2, eC]
  have hk2 : k < 2 ^ 30 + 1 := by omega
  rcases h.1.2.2.2.1 with ⟨rfl, rfl⟩ | ⟨rfl, rfl⟩
  · have p18 : phi 0 0 18 = some (0, 56) := rfl
    have e56 : m1.1 0 56 = nI k := (RB_eq f3.1 p18).symm.trans a18
    rw [if_neg (show ¬ nI 0 = 1 by decide), e56]
    by_cases g : 100 ≤ k
    · rw [if_pos (show 100 ≤ nI k from nI_le (a := 100) g (by omega)), if_pos (show 100 ≤ nI k from nI_le (a := 100) g (by omega)), tailC c1 a18 rfl hv.symm]
      refine ⟨_, uI (uI m1 23 0 M) 0 56 (nI (k + 1)), rfl, ?_, out_end f3 hk a18 M ?_ ?_ ?_ ?_ ?_ ?_⟩
      · unfold f_Mo_act_J395
        simp only [lt]
        rw [uI_n (show (0 : Nat) ≠ 23 by omega), e56, nI_1]
      · rw [uI_comm (by omega)]
        exact RB_set (d := 0) (RB_set (d := 0) f3.1 (show phi 0 0 13 = some (23, 0) from rfl) (by omega) (by unfold own; omega)) p18 (by omega) (by unfold own; omega)
      · rw [uI_o (by omega), uI_n (by omega)]
      · rw [uI_n (by omega), uI_n (by omega)]
      · rw [uI_o (by omega), uI_n (by omega)]
      · rw [uI_n (by omega), uI_n (by omega)]
      · rw [uI_n (by omega), uI_n (by omega)]
    · rw [if_neg (show ¬ 100 ≤ nI k from nI_ge (b := 100) (by omega) (by omega)), if_neg (show ¬ 100 ≤ nI k from nI_ge (b := 100) (by omega) (by omega)), gd_nI (by omega) (by omega), gd_nI (by omega) (by omega), nI_clamp (by omega)]
      have p37 : phi 0 37 k = some (37, k) := by unfold phi; simp; omega
      have hRo : RB 0 20 c0 m0 (uI c1 (20 + 37) k v) (uI m1 37 k v) := RB_set f3.1 p37 (by omega) (by unfold own; omega)
      have hSo : SI 0 20 (n + 1) i N t c0 m0 (uI c1 (20 + 37) k v) (uI m1 37 k v) := SI_Bof f3 (Nat.le_refl _) hRo (fun k' h1 h2 => uI_n (by omega)) (by rw [uI_n (by omega)]) (uI_n (by omega)) (uI_n (by omega)) (IX_of f3.2.2.2.2.2.2 (Nat.le_refl _) (fun j _ _ => by rw [uI_n (by omega)]) (by rw [uI_n (by omega)]; exact f3.2.2.2.2.2.2.2.2.2.2.2.1) (uI_n (by omega)) (by rw [uI_n (by omega)]) (by rw [uI_n (by omega)]))
      rw [tailC (uI c1 (20 + 37) k v) (by rw [uI_n (by omega)]; exact a18) (by rw [uI_n (by omega)]) (by rw [uI_n (by omega), hv])]
      refine ⟨_, uI (uI (uI m1 37 k v) 23 0 M) 0 56 (nI (k + 1)), rfl, ?_, out_end hSo hk (by rw [uI_n (by omega)]; exact a18) M ?_ ?_ ?_ ?_ ?_ ?_⟩
      · unfold f_Mo_act_J395
        simp only [lt]
        rw [uI_n (show (0 : Nat) ≠ 37 by omega), uI_n (show (0 : Nat) ≠ 23 by omega), e56, nI_1, uI_comm (k := 23) (k' := 37) (by omega)]
      · rw [uI_comm (s := uI c1 (20 + 37) k v) (by omega)]
        exact RB_set (d := 0) (RB_set (d := 0) hRo (show phi 0 0 13 = some (23, 0) from rfl) (by omega) (by unfold own; omega)) p18 (by omega) (by unfold own; omega)
      · rw [uI_o (by omega), uI_n (by omega)]
      · rw [uI_n (by omega), uI_n (by omega)]
      · rw [uI_o (by omega), uI_n (by omega)]
      · rw [uI_n (by omega), uI_n (by omega)]
      · rw [uI_n (by omega), uI_n (by omega)]
  · rw [if_pos (show nI 1 = 1 from rfl)]
    have p18 : phi 1 0 18 = none := rfl
    have go : ∀ c2 : St, SI 1 58 (n + 1) i N t c0 m0 c2 m1 → c2.1 58 18 = nI k → SI 1 58 (n + 2) i N t c0 m0 (uI (uI c2 58 18 (nI (k + 1))) 58 13 M) (uI m1 23 1 M) := by
      intro c2 h2 e2
      refine out_end h2 hk e2 M ?_ ?_ ?_ ?_ ?_ ?_
      · exact RB_set (d := 0) (RB_c (d := 0) h2.1 p18 (by omega)) (show phi 1 0 13 = some (23, 1) from rfl) (by omega) (by unfold own; omega)
      · rw [uI_n (by omega)]
      · rw [uI_n (by omega)]
      · rw [uI_n (by omega)]
      · rw [uI_n (by omega)]
      · rw [uI_n (by omega)]
    by_cases g : 100 ≤ k
    · rw [if_pos (show 100 ≤ nI k from nI_le (a := 100) g (by omega)), tailC c1 a18 rfl hv.symm]
      exact ⟨_, _, rfl, rfl, go c1 f3 a18⟩
    · rw [if_neg (show ¬ 100 ≤ nI k from nI_ge (b := 100) (by omega) (by omega)), gd_nI (by omega) (by omega), nI_clamp (by omega)]
      have p37 : phi 1 37 k = none := by unfold phi; simp
      have hRo : RB 1 58 c0 m0 (uI c1 (58 + 37) k v) m1 := RB_c f3.1 p37 (by omega)
      have hSo : SI 1 58 (n + 1) i N t c0 m0 (uI c1 (58 + 37) k v) m1 := SI_Bof f3 (Nat.le_refl _) hRo (fun k' h1 h2 => uI_n (by omega)) rfl rfl rfl (IX_of f3.2.2.2.2.2.2 (Nat.le_refl _) (fun j _ _ => by rw [uI_n (by omega)]) (by rw [uI_n (by omega)]; exact f3.2.2.2.2.2.2.2.2.2.2.2.1) (uI_n (by omega)) rfl rfl)
      rw [tailC (uI c1 (58 + 37) k v) (by rw [uI_n (by omega)]; exact a18) (by rw [uI_n (by omega)]) (by rw [uI_n (by omega), hv])]
      exact ⟨_, _, rfl, rfl, go _ hSo (by rw [uI_n (by omega)]; exact a18)⟩
