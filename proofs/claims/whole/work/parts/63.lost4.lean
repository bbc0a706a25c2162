/-! ===== lost blocks: the class's verdict ===== -/
section VERDICT
variable {k : Nat} {F S C : Nat → Nat} {c m : St}
theorem ld3 {n : Nat} {p : Int32} (h : ld F S 3 n p) : vL F S 0 n p := h.elim (fun h => .inl ⟨rfl, h⟩) (fun h => absurd h.1 (by decide))
theorem ld1 {n : Nat} {p : Int32} (h : ld F S 1 n p) : vL F S 0 n p := h.elim (fun h => .inl ⟨rfl, h⟩) (fun h => absurd h.1 (by decide))
theorem ld2 {n : Nat} {p : Int32} (h : ld F S 2 n p) : vL F S 0 n p ∨ vL F S 1 n p := h.elim (fun h => .inl (.inl ⟨rfl, h⟩)) (fun h => .inr (.inr ⟨rfl, h.2⟩))
theorem vL0 {n : Nat} {p st : Int32} (h : vL F S 0 n p) : ld F S st n p := h.elim (fun h => .inl h.2) (fun h => absurd h.1 (by decide))
theorem vL1 {n : Nat} {p : Int32} (h : vL F S 1 n p) : ld F S 2 n p := h.elim (fun h => absurd h.1 (by decide)) (fun h => .inr ⟨rfl, h.2⟩)
theorem eg_rt {f n : Nat} (h : rtE m (vL F S f n)) : eg m F S f 0 n := .inl ⟨rfl, h⟩
theorem eg_bk {f j n : Nat} (hj : Uu k C j) (h : rgE m (vL F S f n) (1032 + 8 * F j) (S j)) : eg m F S f j n := .inr ⟨by have := hj.1; omega, h⟩
theorem eg_0 {f n : Nat} (h : eg m F S f 0 n) : rtE m (vL F S f n) := h.elim (fun h => h.2) (fun h => absurd rfl h.1)
theorem eg_j {f j n : Nat} (hj : Uu k C j) (h : eg m F S f j n) : rgE m (vL F S f n) (1032 + 8 * F j) (S j) := h.elim (fun h => by have := hj.1; have := h.1; omega) (fun h => h.2)
theorem le_clear {v : Int32} {s : St} (hC : CE c s) : ∃ x t, wh (fun a : (Int32 × St) => f_Le_verdict_L8 20 v a.1 a.2) (0, s) = some (x, t) ∧ CE c t ∧ t.1 34 = s.1 34 ∧ ∀ n, n ≤ 100 → t.1 35 n = 0 := by
  have hw := wh_it (L := fun a : (Int32 × St) => f_Le_verdict_L8 20 v a.1 a.2) (f := fun u x => uI u (20 + 15) x 0) (s := s) (a := 0) 0 101 (fun u => CE c u ∧ u.1 34 = s.1 34) ⟨hC, rfl⟩
    (fun u i hi hu => ⟨by
      rw [Nat.zero_add]
      show f_Le_verdict_L8 20 v (nI i) u = _
      unfold f_Le_verdict_L8
      rw [if_neg (show ¬ 101 ≤ nI i from nI_ge (b := 101) hi (by decide)), gd_nI (by omega) (by omega), nI_clamp (by omega), lt_eq, nI_1], CE_35 hu.1, by
      show (uI u (20 + 15) (0 + i) 0).1 34 = _
      rw [uI_n (by omega)]; exact hu.2⟩)
    (fun u hu => by
      show f_Le_verdict_L8 20 v (nI (0 + 101)) u = _
      unfold f_Le_verdict_L8
      rw [if_pos (by decide)])
  obtain ⟨h1, h2, h3⟩ := hw
  rw [nI_0] at h1
  refine ⟨_, _, h1, h2, h3, fun n hn => ?_⟩
  have e := it1_1 (K := 20 + 15) (g := fun _ => 0) (s := s) (a := 0) (y := n) 101
  rw [if_pos (by omega)] at e
  exact e
/-- the last stage -/
def DI (k : Nat) (F S C : Nat → Nat) (c m t2 t : St) : Prop := CE c t ∧ MO t2 t ∧ ∀ n, Uu k C n → t.1 35 n = t2.1 35 n ∨ (t2.1 35 n = 0 ∧ t.1 35 n = 1 ∧ r1 (Uu k C) (eg m F S) n)
theorem le_last (hK : LK k F S C c m) {t2 : St} (hC : CE c t2) {v : Int32} (h3 : ∀ n, Uu k C n → (t2.1 35 n = 3 ∧ r3 (Uu k C) (eg m F S) n) ∨ (t2.1 35 n = 2 ∧ r2 (Uu k C) (eg m F S) n ∧ ¬ r3 (Uu k C) (eg m F S) n) ∨ (t2.1 35 n = 0 ∧ ¬ r2 (Uu k C) (eg m F S) n ∧ ¬ r3 (Uu k C) (eg m F S) n)) :
    ∃ x t, wh (fun a : (Int32 × St) => f_Le_verdict_L53 20 v a.1 a.2) (1, t2) = some (x, t) ∧ CE c t ∧ ∀ n, Uu k C n → VR (Uu k C) (eg m F S) n (t.1 35 n) := by
  have hk := hK.1
  have key : ∀ d i t1, i + d = k + 1 → 1 ≤ i → DI k F S C c m t2 t1 → ∃ x t, wh (fun a : (Int32 × St) => f_Le_verdict_L53 20 v a.1 a.2) (nI i, t1) = some (x, t) ∧ DI k F S C c m t2 t ∧ MO t1 t ∧ ∀ j, i ≤ j → Uu k C j → t2.1 35 j = 0 → ∀ n, Uu k C n → n ≠ j → eg m F S 0 j n → t.1 35 n ≠ 0 := by
    intro d
    induction d with
    | zero =>
      intro i t1 hi h1 hD
      refine ⟨nI i, t1, wh_inr ?_, hD, MO_rf, fun j hj hu => by have := hu.2.1; omega⟩
      show f_Le_verdict_L53 20 v (nI i) t1 = _
      unfold f_Le_verdict_L53
      rw [hD.1.1 (20 + 6) (by omega) (by omega) (by omega), hK.2.1, if_pos (nI_lt (by omega) (by omega))]
    | succ d ih =>
      intro i t1 hi h1 hD
      have hD' := hD
      obtain ⟨d1, d2, d3⟩ := hD
      obtain ⟨e7, e8, e9, _, _, _, s1, s2, s3⟩ := hK.2.2.2.1 i h1 (by omega)
      rw [← d1.1 (20 + 7) (by omega) (by omega) (by omega)] at e7
      rw [← d1.1 (20 + 8) (by omega) (by omega) (by omega)] at e8
      rw [← d1.1 (20 + 9) (by omega) (by omega) (by omega)] at e9
      have e6 : t1.1 (20 + 6) 5 = nI k := by rw [d1.1 (20 + 6) (by omega) (by omega) (by omega)]; exact hK.2.1
      have st1 : f_Le_verdict_L53 20 v (nI i) t1 = if C i = 2 then (if 1 < t1.1 35 i then some (.inl (nI (i + 1), t1)) else (f_Le_followWords 20 (nI (1032 + 8 * F i)) (nI (S i)) (nI i) 1 t1).bind fun q => some (.inl (nI (i + 1), q))) else some (.inl (nI (i + 1), t1)) := by
        unfold f_Le_verdict_L53 f_Le_verdict_J105_1 f_He_isInUse
        rw [e6, if_neg (nI_nlt (by omega) (by omega)), if_neg (show ¬ nI i < 1 from nI_nlt (b := 1) (by omega) (by omega)), if_neg (nI_nlt (by omega) (by omega)), gd_nI (by omega) (by omega), gd_nI (by omega) (by omega), gd_nI (by omega) (by omega), gd_nI (by omega) (by omega), nI_clamp (by omega), e7, e8, e9, nI_1]
        by_cases hc : C i = 2
        · rw [if_pos hc, hc, if_pos (show nI 2 = 2 from rfl), Option.bind_some, if_neg (by decide)]
        · rw [if_neg hc, if_neg (show ¬ nI (C i) = 2 from ne_l (k := 2) (by omega) (by omega) hc), Option.bind_some, if_pos rfl]
      have skip : (t1.1 35 i ≠ 0 ∨ ¬ C i = 2) → ¬ (C i = 2 ∧ t2.1 35 i = 0) → f_Le_verdict_L53 20 v (nI i) t1 = some (.inl (nI (i + 1), t1)) → ∃ x t, wh (fun a : (Int32 × St) => f_Le_verdict_L53 20 v a.1 a.2) (nI i, t1) = some (x, t) ∧ DI k F S C c m t2 t ∧ MO t1 t ∧ ∀ j, i ≤ j → Uu k C j → t2.1 35 j = 0 → ∀ n, Uu k C n → n ≠ j → eg m F S 0 j n → t.1 35 n ≠ 0 := by
        intro _ hz hs
        obtain ⟨x, t, f1, f2, f3, f4⟩ := ih (i + 1) t1 (by omega) (by omega) hD'
        refine ⟨x, t, (wh_inl (a' := (nI (i + 1), t1)) hs).trans f1, f2, f3, fun j hj hu hj0 => f4 j ?_ hu hj0⟩
        have : j ≠ i := fun e => hz (by rw [← e]; exact ⟨hu.2.2, hj0⟩)
        omega
      by_cases hc : C i = 2
      · have hu : Uu k C i := ⟨h1, by omega, hc⟩
        rw [if_pos hc] at st1
        by_cases hz : t2.1 35 i = 0
        · have h01 : ¬ 1 < t1.1 35 i := by
            rcases d3 i hu with e | ⟨_, e, _⟩
            · rw [e, hz]; decide
            · rw [e]; decide
          rw [if_neg h01] at st1
          have hno : ¬ r2 (Uu k C) (eg m F S) i ∧ ¬ r3 (Uu k C) (eg m F S) i := by
            rcases h3 i hu with ⟨e, _⟩ | ⟨e, _⟩ | ⟨_, e⟩
            · rw [hz] at e; exact absurd e (by decide)
            · rw [hz] at e; exact absurd e (by decide)
            · exact e
          obtain ⟨t', f1, f2, f3, f4⟩ := le_words hK (src := nI i) (st := 1) (a := 1032 + 8 * F i) (sz := S i) (by omega) (DI k F S C c m t2) (fun t h => h.1)
            (fun t j hD hj hw => by
              rcases le_follow hK hD.1 (wV m (1032 + 8 * F i + 4 * j)) (nI i) (st := 1) with ⟨a1, a2⟩ | ⟨n, n1, n2, n3, n4, n5, n6⟩
              · exact ⟨t, a1, hD, MO_rf, a2⟩
              · have nk := n1.2.1
                have eJ : f_Le_follow_J48 20 1 (nI n) t = some (uI t (20 + 15) n 1) := by
                  unfold f_Le_follow_J48
                  rw [gd_nI (by omega) (by omega), nI_clamp (by omega), lt_eq, if_pos rfl]
                have v35 : ∀ x, (uI t (20 + 15) n 1).1 35 x = if x = n then 1 else t.1 35 x := by
                  intro x
                  rw [uI_g2]
                  by_cases e : x = n
                  · rw [if_pos ⟨rfl, e⟩, if_pos e]
                  · rw [if_neg (fun h => e h.2), if_neg e]
                have hmo : MO t (uI t (20 + 15) n 1) := by
                  intro x hx
                  rw [v35]
                  by_cases e : x = n
                  · rw [e] at hx; exact absurd n4 hx
                  · rw [if_neg e]
                have t20 : t2.1 35 n = 0 := Classical.byContradiction fun e => MO_nz hD.2.1 e n4
                refine ⟨_, n5.trans eJ, ⟨CE_35 hD.1, MO_tr hD.2.1 hmo, fun x hx => ?_⟩, hmo, fun n' b1 b2 b3 => ?_⟩
                · rw [v35]
                  by_cases e : x = n
                  · rw [if_pos e, e]
                    exact .inr ⟨t20, rfl, i, fun e2 => n3 (by rw [e2]), hu, hno.2, hno.1, eg_bk hu ⟨j, hj, hw, ld1 n2⟩⟩
                  · rw [if_neg e]; exact hD.2.2 x hx
                · rw [n6 n' b1 b2, v35, if_pos rfl]; decide) hD'
          rw [f1, Option.bind_some] at st1
          obtain ⟨x, t, g1, g2, g3, g4⟩ := ih (i + 1) t' (by omega) (by omega) f2
          refine ⟨x, t, (wh_inl (a' := (nI (i + 1), t')) st1).trans g1, g2, MO_tr f3 g3, fun j hj huj hj0 n hn hne he => ?_⟩
          by_cases e : j = i
          · subst e
            have := hn.2.1
            exact MO_nz g3 (f4 n hn (rgE_mono (eg_j hu he) (fun p hp => vL0 hp)) (fun e2 => hne ((nI_eq (by omega) (by omega)).mp e2)))
          · exact g4 j (by omega) huj hj0 n hn hne he
        · have hn0 : t1.1 35 i = t2.1 35 i := d2 i hz
          have : 1 < t1.1 35 i := by
            rw [hn0]
            rcases h3 i hu with ⟨e, _⟩ | ⟨e, _⟩ | ⟨e, _⟩
            · rw [e]; decide
            · rw [e]; decide
            · exact absurd e hz
          rw [if_pos this] at st1
          exact skip (.inl (by rw [hn0]; exact hz)) (fun h => hz h.2) st1
      · rw [if_neg hc] at st1
        exact skip (.inr hc) (fun h => hc h.1) st1
  obtain ⟨x, t, e1, ⟨e2, e3, e4⟩, _, e5⟩ := key k 1 t2 (by omega) (by omega) ⟨hC, MO_rf, fun n _ => .inl rfl⟩
  refine ⟨x, t, e1, e2, fun n hu => ?_⟩
  rcases h3 n hu with ⟨a, b⟩ | ⟨a, b, d⟩ | ⟨a, b, d⟩
  · have : t.1 35 n = t2.1 35 n := e3 n (by rw [a]; decide)
    exact .inl ⟨this.trans a, b⟩
  · have : t.1 35 n = t2.1 35 n := e3 n (by rw [a]; decide)
    exact .inr (.inl ⟨this.trans a, b, d⟩)
  · rcases e4 n hu with e | ⟨_, e, f⟩
    · refine .inr (.inr (.inr ⟨e.trans a, fun ⟨j, j1, j2, j3, j4, j5⟩ => ?_, b, d⟩))
      have hj0 : t2.1 35 j = 0 := by
        rcases h3 j j2 with ⟨_, g⟩ | ⟨_, g, _⟩ | ⟨g, _⟩
        · exact absurd g j3
        · exact absurd g j4
        · exact g
      exact e5 j j2.1 j2 hj0 n hu (Ne.symm j1) j5 (e.trans a)
    · exact .inr (.inr (.inl ⟨e, f, b, d⟩))
theorem le_verdict (hK : LK k F S C c m) {b : Nat} (hb : b ≤ 100) : ∃ t, f_Le_verdict 20 (nI b) c = some (t.1 35 b, t) ∧ CE c t ∧ ∀ n, Uu k C n → VR (Uu k C) (eg m F S) n (t.1 35 n) := by
  obtain ⟨U, hU⟩ : ∃ U, U = Uu k C := ⟨_, rfl⟩
  obtain ⟨E, hE⟩ : ∃ E, E = eg m F S := ⟨_, rfl⟩
  have C0 : CE c (uI c (20 + 14) 2 0) := CE_34 CE_rf
  obtain ⟨x0, t0, a1, a2, a3, a4⟩ := le_clear (v := nI b) C0
  have hk := hK.1
  have Q0 : QI k C (fun n x => x = 3 ∧ r3 U E n) c 0 (fun _ => 0) t0 := by
    refine ⟨a2, by rw [a3]; exact uI_v, ?_, fun i hi => absurd hi (by omega), fun n hu hv => absurd (a4 n (by have := hu.2.1; omega)) hv, fun n hu => .inl (a4 n (by have := hu.2.1; omega))⟩
    exact (sm_zero k (fun j _ hj => by show (if t0.1 35 j = 0 then 0 else 1) = 0; rw [if_pos (a4 j (by omega))])).symm
  obtain ⟨t1, q1, Z1, b1, b2, b3, b4, b5⟩ := le_spread hK Q0 (st := 3) (.inr rfl)
    (fun n hu hr _ => ⟨rfl, by rw [hU, hE]; exact r3_root hu (eg_rt (rtE_mono hr (fun p => ld3)))⟩)
    (fun j x hj hx n hu hr _ => ⟨rfl, by rw [hU, hE] at hx ⊢; exact r3_step hx.2 hu (eg_bk hj (rgE_mono hr (fun p => ld3)))⟩)
  have c1 : ∀ n, r3 U E n → Uu k C n ∧ t1.1 35 n ≠ 0 := by
    rw [hU, hE]
    intro n hn
    refine hn (fun n => Uu k C n ∧ t1.1 35 n ≠ 0) (fun n hu he => ⟨hu, b4 n hu (rtE_mono (eg_0 he) (fun p hp => vL0 hp))⟩) (fun j n hj hu he => ⟨hu, b5 j n hj.1 hj.2 hu (rgE_mono (eg_j hj.1 he) (fun p hp => vL0 hp))⟩)
  have c3 : ∀ n, r3 U E n → t1.1 35 n = 3 := fun n hn => ((b2.2.2.2.2.2 n (c1 n hn).1).resolve_left (c1 n hn).2).1
  have Q1 : QI k C (fun n x => (x = 3 ∧ r3 U E n) ∨ (x = 2 ∧ r2 U E n)) c q1 Z1 t1 := by
    obtain ⟨d1, d2, d3, d4, d5, d6⟩ := b2
    exact ⟨d1, d2, d3, d4, d5, fun n hu => (d6 n hu).elim .inl (fun h => .inr (.inl h))⟩
  have no3 : ∀ n, t1.1 35 n = 0 → ¬ r3 U E n := fun n h0 h3 => by
    have := c3 n h3
    rw [h0] at this; exact absurd this (by decide)
  obtain ⟨t2, q2, Z2, f1, f2, f3, f4, f5⟩ := le_spread hK Q1 (st := 2) (.inl rfl)
    (fun n hu hr hz => .inr ⟨rfl, by
      have h3 := no3 n hz
      rw [hU, hE] at h3 ⊢
      rcases rtE_or (rtE_mono hr (fun p => ld2)) with h | h
      · exact absurd (r3_root hu (eg_rt h)) h3
      · exact r2_root hu h3 (eg_rt h)⟩)
    (fun j x hj hx n hu hr hz => .inr ⟨rfl, by
      have h3 := no3 n hz
      rw [hU, hE] at hx h3 ⊢
      rcases hx with ⟨_, hx⟩ | ⟨_, hx⟩
      · rcases rgE_or (rgE_mono hr (fun p => ld2)) with h | h
        · exact absurd (r3_step hx hu (eg_bk hj h)) h3
        · exact r2_three hx hu h3 (eg_bk hj h)
      · rcases rgE_or (rgE_mono hr (fun p => ld2)) with h | h
        · exact r2_step hx hu h3 (.inr (eg_bk hj h))
        · exact r2_step hx hu h3 (.inl (eg_bk hj h))⟩)
  have g3 : ∀ n, r3 U E n → t2.1 35 n = 3 := fun n hn => by
    have := c3 n hn
    rw [f3 n (by rw [this]; decide)]; exact this
  have g2 : ∀ n, r2 U E n → Uu k C n ∧ ¬ r3 U E n ∧ t2.1 35 n ≠ 0 := by
    rw [hU, hE] at g3 ⊢
    intro n hn
    refine hn (fun n => Uu k C n ∧ ¬ r3 (Uu k C) (eg m F S) n ∧ t2.1 35 n ≠ 0) (fun n hu h3 he => ⟨hu, h3, f4 n hu (rtE_mono (eg_0 he) (fun p hp => vL1 hp))⟩) (fun j n hj hu h3 he => ⟨hu, h3, f5 j n (r3_U hj) (by rw [g3 j hj]; decide) hu (rgE_mono (eg_j (r3_U hj) he) (fun p hp => vL1 hp))⟩) (fun j n hj hu h3 he => ⟨hu, h3, ?_⟩)
    rcases he with he | he
    · exact f5 j n hj.1 hj.2.2 hu (rgE_mono (eg_j hj.1 he) (fun p hp => vL1 hp))
    · exact f5 j n hj.1 hj.2.2 hu (rgE_mono (eg_j hj.1 he) (fun p hp => vL0 hp))
  obtain ⟨x3, t3, i1, i2, i3⟩ := le_last hK f2.1 (v := nI b) (fun n hu => by
    rw [← hU, ← hE]
    by_cases h3 : r3 U E n
    · exact .inl ⟨g3 n h3, h3⟩
    by_cases h2 : r2 U E n
    · refine .inr (.inl ⟨?_, h2, h3⟩)
      rcases (f2.2.2.2.2.2 n hu).resolve_left (g2 n h2).2.2 with ⟨_, e⟩ | ⟨e, _⟩
      · exact absurd e h3
      · exact e
    · refine .inr (.inr ⟨?_, h2, h3⟩)
      rcases f2.2.2.2.2.2 n hu with e | ⟨_, e⟩ | ⟨_, e⟩
      · exact e
      · exact absurd e h3
      · exact absurd e h2)
  refine ⟨t3, ?_, i2, i3⟩
  unfold f_Le_verdict
  rw [lt_eq, a1, Option.bind_some]
  dsimp only
  rw [b1, Option.bind_some, f1, Option.bind_some, i1, Option.bind_some, gd_nI (by omega) (by omega), nI_clamp (by omega)]
end VERDICT
