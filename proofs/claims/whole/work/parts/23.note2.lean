theorem phi_led {d j : Nat} (h1 : 18 ≤ d) (h2 : d < 22) (hj : j < 60) : phi 0 d j = some (20 + d, j) := by
  unfold phi; rw [if_neg (by omega), if_neg (by omega), if_neg (by omega), if_neg (by omega), if_neg (by omega), if_neg (by omega), if_pos (by omega), if_pos (by omega)]
theorem phi_sup {d j : Nat} (h1 : 22 ≤ d) (h2 : d < 25) (hj : j < 20) : phi 0 d j = some (20 + d, j) := by
  unfold phi; rw [if_neg (by omega), if_neg (by omega), if_neg (by omega), if_neg (by omega), if_neg (by omega), if_neg (by omega), if_neg (by omega), if_pos (by omega), if_pos (by omega)]
theorem phi_lg1 {d j : Nat} (h1 : 17 ≤ d) (h2 : d < 25) : phi 1 d j = none := by
  unfold phi
  by_cases e : d = 17
  · subst e; simp
  · rw [if_neg (by omega), if_neg (by omega), if_neg (by omega), if_neg (by omega), if_neg (by omega), if_neg e]
    by_cases e2 : d < 22
    · rw [if_pos (by omega), if_neg (by omega)]
    · rw [if_neg (by omega), if_pos (by omega), if_neg (by omega)]
/-- what a note leaves as it was -/
def NT (B : Nat) (c m c' m' : St) : Prop := (∀ k, k < B + 17 ∨ B + 22 ≤ k → c'.1 k = c.1 k) ∧ (∀ k, 0 < k → k < 38 → m'.1 k = m.1 k) ∧ (∀ j, j < 61 ∨ 64 < j → m'.1 0 j = m.1 0 j) ∧ (∀ k, 41 < k → m'.1 k = m.1 k)
theorem NT_rf {B : Nat} {c m : St} : NT B c m c m := ⟨fun _ _ => rfl, fun _ _ _ => rfl, fun _ _ => rfl, fun _ _ => rfl⟩
theorem NT_tr {B : Nat} {c m c' m' c2 m2 : St} (h : NT B c m c' m') (g : NT B c' m' c2 m2) : NT B c m c2 m2 :=
  ⟨fun k hk => (g.1 k hk).trans (h.1 k hk), fun k a b => (g.2.1 k a b).trans (h.2.1 k a b), fun k a => (g.2.2.1 k a).trans (h.2.2.1 k a), fun k a => (g.2.2.2 k a).trans (h.2.2.2 k a)⟩
theorem NT_c {B : Nat} {c m c' : St} {d j : Nat} {v : Int32} (h : NT B c m c' m) (h1 : 17 ≤ d) (h2 : d < 22) : NT B c m (uI c' (B + d) j v) m :=
  ⟨fun k hk => by rw [uI_n (by omega)]; exact h.1 k hk, h.2⟩
theorem NT_2 {B : Nat} {c m c' m' : St} {d j k i : Nat} {v w : Int32} (h : NT B c m c' m') (h1 : 17 ≤ d) (h2 : d < 22) (h3 : (k = 0 ∧ 61 ≤ i ∧ i ≤ 64) ∨ (38 ≤ k ∧ k ≤ 41)) : NT B c m (uI c' (B + d) j v) (uI m' k i w) := by
  refine ⟨fun k hk => by rw [uI_n (by omega)]; exact h.1 k hk, fun k' a b => ?_, fun j' a => ?_, fun k' a => ?_⟩
  · rw [uI_n (by omega)]; exact h.2.1 k' a b
  · rw [uI_o (by omega)]; exact h.2.2.1 j' a
  · rw [uI_n (by omega)]; exact h.2.2.2 k' a
theorem NT_m {B : Nat} {c m c' m' : St} {i : Nat} {w : Int32} (h : NT B c m c' m') (h3 : 61 ≤ i ∧ i ≤ 64) : NT B c m c' (uI m' 0 i w) := by
  refine ⟨h.1, fun k' a b => ?_, fun j' a => ?_, fun k' a => ?_⟩
  · rw [uI_n (by omega)]; exact h.2.1 k' a b
  · rw [uI_o (by omega)]; exact h.2.2.1 j' a
  · rw [uI_n (by omega)]; exact h.2.2.2 k' a
set_option maxHeartbeats 1000000 in
theorem s_note {z B n : Nat} {c0 m0 c m : St} (h : RB z B c0 m0 c m) (hL : LG z B n c m) (v1 v3 : Int32) {v2 : Int32} (hi : m.1 0 69 = v2) :
    ∃ c' m', f_Lg_note B v1 v2 v3 c = some c' ∧ f_Mo_told v1 v3 m = some m' ∧ RB z B c0 m0 c' m' ∧ LG z B (n + 1) c' m' ∧ NT B c m c' m' := by
  obtain ⟨kept, rep, sup, supp, hk, h60, hr, hs, hn, hsu, h20, hq⟩ := hL
  subst hi
  have hzz := RB_z h
  rcases h.2.2.2.1 with ⟨rfl, rfl⟩ | ⟨rfl, rfl⟩
  · -- the bench's own machine
    rw [nI_0] at hzz
    have p4 : phi 0 17 4 = some (0, 61) := rfl
    have p5 : phi 0 17 5 = some (0, 62) := rfl
    have p6 : phi 0 17 6 = some (0, 63) := rfl
    have q4 := (RB_eq h p4).symm.trans hk
    have q5 := RB_eq h p5
    have q6 := RB_eq h p6
    have q10 := (RB_eq h (show phi 0 17 10 = some (0, 68) from rfl)).symm.trans hsu
    have hA : ∀ i, i < supp → (lgS 20 c v1 (m.1 0 69) i ↔ ((m.1 42 i = 0 ∨ m.1 42 i = v1) ∧ ¬ m.1 0 69 < m.1 43 i ∧ m.1 0 69 ≤ m.1 44 i)) := by
      intro i hi
      unfold lgS
      rw [RB_eq h (phi_sup (d := 22) (by omega) (by omega) (show i < 20 by omega)), RB_eq h (phi_sup (d := 23) (by omega) (by omega) (show i < 20 by omega)), RB_eq h (phi_sup (d := 24) (by omega) (by omega) (show i < 20 by omega)), Int32.not_lt (a := m.1 44 i)]
    have hB : ∀ i, i < kept → ((c.1 (20 + 18) i = v1 ∧ c.1 (20 + 19) i = m.1 0 69 ∧ c.1 (20 + 20) i = v3) ↔ (m.1 38 i = v1 ∧ m.1 39 i = m.1 0 69 ∧ m.1 40 i = v3)) := by
      intro i hi
      rw [RB_eq h (phi_led (d := 18) (by omega) (by omega) (show i < 60 by omega)), RB_eq h (phi_led (d := 19) (by omega) (by omega) (show i < 60 by omega)), RB_eq h (phi_led (d := 20) (by omega) (by omega) (show i < 60 by omega))]
    have o64 : own 0 0 64 := by unfold own; omega
    have hR1 : RB 0 20 c0 m0 c (uI m 0 64 0) := RB_m h (by decide) o64
    rcases lg_note (v1 := v1) (v2 := m.1 0 69) (v3 := v3) hk h60 hsu h20 with ⟨⟨i, hi, hp⟩, e⟩ | ⟨ha, i, hi, hp, hp2, e⟩ | ⟨ha, hb, hc⟩
    · rcases mo_told (v1 := v1) (v2 := v3) hzz q4 h60 q10 h20 with ⟨⟨i', hi', hp'⟩, e'⟩ | ⟨ha', i', hi', hp', hp2', e'⟩ | ⟨ha', hb', hc'⟩
      · refine ⟨_, _, e, e', ?_, ⟨kept, rep, sup + 1, supp, ?_, h60, ?_, ?_, by omega, ?_, h20, fun _ => ?_⟩, ?_⟩
        · rw [q6]; exact RB_set hR1 p6 (by omega) (by unfold own; omega)
        · rw [uI_o (by omega)]; exact hk
        · rw [uI_o (by omega)]; exact hr
        · rw [uI_v, hs, nI_1]
        · rw [uI_o (by omega)]; exact hsu
        · rw [uI_o (by omega), uI_v, if_neg (by omega)]
        · exact NT_2 (NT_m NT_rf (by omega)) (by omega) (by omega) (by omega)
      · exact absurd ((hA i hi).mp hp) (ha' i hi)
      · exact absurd ((hA i hi).mp hp) (ha' i hi)
    · rcases mo_told (v1 := v1) (v2 := v3) hzz q4 h60 q10 h20 with ⟨⟨i', hi', hp'⟩, e'⟩ | ⟨ha', i', hi', hp', hp2', e'⟩ | ⟨ha', hb', hc'⟩
      · exact absurd ((hA i' hi').mpr hp') (ha i' hi')
      · have ei : i = i' := least_one (i0 := 0) (fun k _ hk => hB k (by omega)) (by omega) (by omega) hp (fun k _ hk => hp2 k hk) hp' (fun k _ hk => hp2' k hk)
        subst ei
        have q21 := RB_eq h (phi_led (d := 21) (by omega) (by omega) (show i < 60 by omega))
        refine ⟨_, _, e, e', ?_, ⟨kept, rep + 1, sup, supp, ?_, h60, ?_, ?_, by omega, ?_, h20, fun _ => ?_⟩, ?_⟩
        · rw [q5, q21]; exact RB_set (RB_set hR1 p5 (by omega) (by unfold own; omega)) (phi_led (d := 21) (by omega) (by omega) (by omega)) (by omega) (by unfold own; omega)
        · rw [uI_o (by omega), uI_o (by omega)]; exact hk
        · rw [uI_o (by omega), uI_v, hr, nI_1]
        · rw [uI_o (by omega), uI_o (by omega)]; exact hs
        · rw [uI_o (by omega), uI_o (by omega)]; exact hsu
        · rw [uI_o (by omega), uI_o (by omega), uI_v, if_neg (by omega)]
        · exact NT_2 (NT_2 (NT_m NT_rf (by omega)) (by omega) (by omega) (by omega)) (by omega) (by omega) (by omega)
      · exact absurd ((hB i hi).mp hp) (hb' i hi)
    · rcases mo_told (v1 := v1) (v2 := v3) hzz q4 h60 q10 h20 with ⟨⟨i', hi', hp'⟩, e'⟩ | ⟨ha', i', hi', hp', hp2', e'⟩ | ⟨ha', hb', hc'⟩
      · exact absurd ((hA i' hi').mpr hp') (ha i' hi')
      · exact absurd ((hB i' hi').mpr hp') (hb i' hi')
      · rcases hc with ⟨e60, e⟩ | ⟨l60, e⟩
        · rcases hc' with ⟨e60', e'⟩ | ⟨l60', e'⟩
          · refine ⟨_, _, e, e', ?_, ⟨kept, rep + 1, sup, supp, ?_, h60, ?_, ?_, by omega, ?_, h20, fun _ => ?_⟩, ?_⟩
            · rw [q5]; exact RB_set hR1 p5 (by omega) (by unfold own; omega)
            · rw [uI_o (by omega)]; exact hk
            · rw [uI_v, hr, nI_1]
            · rw [uI_o (by omega)]; exact hs
            · rw [uI_o (by omega)]; exact hsu
            · rw [uI_o (by omega), uI_v, if_neg (by omega)]
            · exact NT_2 (NT_m NT_rf (by omega)) (by omega) (by omega) (by omega)
          · omega
        · rcases hc' with ⟨e60', e'⟩ | ⟨l60', e'⟩
          · omega
          · refine ⟨_, _, e, e', ?_, ⟨kept + 1, rep + 1, sup, supp, ?_, by omega, ?_, ?_, by omega, ?_, h20, fun _ => ?_⟩, ?_⟩
            · rw [q5]
              exact RB_set (RB_set (RB_set (RB_set (RB_set (RB_set hR1 p5 (by omega) (by unfold own; omega)) (phi_led (d := 18) (by omega) (by omega) l60) (by omega) (by unfold own; omega)) (phi_led (d := 19) (by omega) (by omega) l60) (by omega) (by unfold own; omega)) (phi_led (d := 20) (by omega) (by omega) l60) (by omega) (by unfold own; omega)) (phi_led (d := 21) (by omega) (by omega) l60) (by omega) (by unfold own; omega)) p4 (by omega) (by unfold own; omega)
            · rw [uI_v]
            · rw [uI_o (by omega), uI_o (by omega), uI_o (by omega), uI_o (by omega), uI_o (by omega), uI_v, hr, nI_1]
            · rw [uI_o (by omega), uI_o (by omega), uI_o (by omega), uI_o (by omega), uI_o (by omega), uI_o (by omega)]; exact hs
            · rw [uI_o (by omega), uI_o (by omega), uI_o (by omega), uI_o (by omega), uI_o (by omega), uI_o (by omega)]; exact hsu
            · rw [uI_o (by omega), uI_o (by omega), uI_o (by omega), uI_o (by omega), uI_o (by omega), uI_o (by omega), uI_v, if_neg (by omega)]
            · exact NT_2 (NT_2 (NT_2 (NT_2 (NT_2 (NT_2 (NT_m NT_rf (by omega)) (by omega) (by omega) (by omega)) (by omega) (by omega) (by omega)) (by omega) (by omega) (by omega)) (by omega) (by omega) (by omega)) (by omega) (by omega) (by omega)) (by omega) (by omega) (by omega)
  · -- the shadow: the reference tells nothing
    have e' : f_Mo_told v1 v3 m = some m := by unfold f_Mo_told; rw [hzz, if_pos (show nI 1 = 1 from rfl)]
    have st : ∀ {c' : St} {d j : Nat} {v : Int32}, 17 ≤ d → d < 25 → RB 1 58 c0 m0 c' m → RB 1 58 c0 m0 (uI c' (58 + d) j v) m := fun h1 h2 h3 => RB_c h3 (phi_lg1 h1 h2) (by omega)
    rcases lg_note (v1 := v1) (v2 := m.1 0 69) (v3 := v3) hk h60 hsu h20 with ⟨⟨i, hi, hp⟩, e⟩ | ⟨ha, i, hi, hp, hp2, e⟩ | ⟨ha, hb, ⟨e60, e⟩ | ⟨l60, e⟩⟩
    · refine ⟨_, _, e, e', st (by omega) (by omega) h, ⟨kept, rep, sup + 1, supp, ?_, h60, ?_, ?_, by omega, ?_, h20, fun h => by omega⟩, NT_c NT_rf (by omega) (by omega)⟩
      · rw [uI_o (by omega)]; exact hk
      · rw [uI_o (by omega)]; exact hr
      · rw [uI_v, hs, nI_1]
      · rw [uI_o (by omega)]; exact hsu
    · refine ⟨_, _, e, e', st (by omega) (by omega) (st (by omega) (by omega) h), ⟨kept, rep + 1, sup, supp, ?_, h60, ?_, ?_, by omega, ?_, h20, fun h => by omega⟩, NT_c (NT_c NT_rf (by omega) (by omega)) (by omega) (by omega)⟩
      · rw [uI_o (by omega), uI_o (by omega)]; exact hk
      · rw [uI_o (by omega), uI_v, hr, nI_1]
      · rw [uI_o (by omega), uI_o (by omega)]; exact hs
      · rw [uI_o (by omega), uI_o (by omega)]; exact hsu
    · refine ⟨_, _, e, e', st (by omega) (by omega) h, ⟨kept, rep + 1, sup, supp, ?_, h60, ?_, ?_, by omega, ?_, h20, fun h => by omega⟩, NT_c NT_rf (by omega) (by omega)⟩
      · rw [uI_o (by omega)]; exact hk
      · rw [uI_v, hr, nI_1]
      · rw [uI_o (by omega)]; exact hs
      · rw [uI_o (by omega)]; exact hsu
    · refine ⟨_, _, e, e', st (by omega) (by omega) (st (by omega) (by omega) (st (by omega) (by omega) (st (by omega) (by omega) (st (by omega) (by omega) (st (by omega) (by omega) h))))), ⟨kept + 1, rep + 1, sup, supp, ?_, by omega, ?_, ?_, by omega, ?_, h20, fun h => by omega⟩,
        NT_c (NT_c (NT_c (NT_c (NT_c (NT_c NT_rf (by omega) (by omega)) (by omega) (by omega)) (by omega) (by omega)) (by omega) (by omega)) (by omega) (by omega)) (by omega) (by omega)⟩
      · rw [uI_v]
      · rw [uI_o (by omega), uI_o (by omega), uI_o (by omega), uI_o (by omega), uI_o (by omega), uI_v, hr, nI_1]
      · rw [uI_o (by omega), uI_o (by omega), uI_o (by omega), uI_o (by omega), uI_o (by omega), uI_o (by omega)]; exact hs
      · rw [uI_o (by omega), uI_o (by omega), uI_o (by omega), uI_o (by omega), uI_o (by omega), uI_o (by omega)]; exact hsu
