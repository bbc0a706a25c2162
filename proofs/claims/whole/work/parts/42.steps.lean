/-! ===== one step ===== -/
theorem act_39 {x : Int32} {m : St} : f_Mo_act (nI 39) x m = f_Mo_push x m := by
  unfold f_Mo_act
  rw [if_neg (show ¬ nI 39 = 35 by decide), if_neg (show ¬ nI 39 = 36 by decide), if_neg (show ¬ nI 39 = 37 by decide), if_neg (show ¬ nI 39 = 38 by decide), if_pos (show nI 39 = 39 from rfl), bind_rt]
theorem act_40 {x : Int32} {m : St} : f_Mo_act (nI 40) x m = f_Mo_pop x m := by
  unfold f_Mo_act
  rw [if_neg (show ¬ nI 40 = 35 by decide), if_neg (show ¬ nI 40 = 36 by decide), if_neg (show ¬ nI 40 = 37 by decide), if_neg (show ¬ nI 40 = 38 by decide), if_neg (show ¬ nI 40 = 39 by decide), if_pos (show nI 40 = 40 from rfl), bind_rt]
theorem act_43 {x : Int32} {m : St} : f_Mo_act (nI 43) x m = f_Mo_grow x m := by
  unfold f_Mo_act
  rw [if_neg (show ¬ nI 43 = 35 by decide), if_neg (show ¬ nI 43 = 36 by decide), if_neg (show ¬ nI 43 = 37 by decide), if_neg (show ¬ nI 43 = 38 by decide), if_neg (show ¬ nI 43 = 39 by decide), if_neg (show ¬ nI 43 = 40 by decide), if_neg (show ¬ nI 43 = 41 by decide), if_neg (show ¬ nI 43 = 42 by decide), if_pos (show nI 43 = 43 from rfl), bind_rt]
theorem act_44 {x : Int32} {m : St} : f_Mo_act (nI 44) x m = f_Mo_free x m := by
  unfold f_Mo_act
  rw [if_neg (show ¬ nI 44 = 35 by decide), if_neg (show ¬ nI 44 = 36 by decide), if_neg (show ¬ nI 44 = 37 by decide), if_neg (show ¬ nI 44 = 38 by decide), if_neg (show ¬ nI 44 = 39 by decide), if_neg (show ¬ nI 44 = 40 by decide), if_neg (show ¬ nI 44 = 41 by decide), if_neg (show ¬ nI 44 = 42 by decide), if_neg (show ¬ nI 44 = 43 by decide), if_pos (show nI 44 = 44 from rfl), bind_rt]
theorem act_45 {x : Int32} {m : St} : f_Mo_act (nI 45) x m = f_Mo_copy x m := by
  unfold f_Mo_act
  rw [if_neg (show ¬ nI 45 = 35 by decide), if_neg (show ¬ nI 45 = 36 by decide), if_neg (show ¬ nI 45 = 37 by decide), if_neg (show ¬ nI 45 = 38 by decide), if_neg (show ¬ nI 45 = 39 by decide), if_neg (show ¬ nI 45 = 40 by decide), if_neg (show ¬ nI 45 = 41 by decide), if_neg (show ¬ nI 45 = 42 by decide), if_neg (show ¬ nI 45 = 43 by decide), if_neg (show ¬ nI 45 = 44 by decide), if_pos (show nI 45 = 45 from rfl), bind_rt]
theorem act_46 {x : Int32} {m : St} : f_Mo_act (nI 46) x m = f_Mo_fill x m := by
  unfold f_Mo_act
  rw [if_neg (show ¬ nI 46 = 35 by decide), if_neg (show ¬ nI 46 = 36 by decide), if_neg (show ¬ nI 46 = 37 by decide), if_neg (show ¬ nI 46 = 38 by decide), if_neg (show ¬ nI 46 = 39 by decide), if_neg (show ¬ nI 46 = 40 by decide), if_neg (show ¬ nI 46 = 41 by decide), if_neg (show ¬ nI 46 = 42 by decide), if_neg (show ¬ nI 46 = 43 by decide), if_neg (show ¬ nI 46 = 44 by decide), if_neg (show ¬ nI 46 = 45 by decide), if_pos (show nI 46 = 46 from rfl), bind_rt]
theorem act_49 {x : Int32} {m : St} : f_Mo_act (nI 49) x m = f_Mo_marked x m := by
  unfold f_Mo_act
  rw [if_neg (show ¬ nI 49 = 35 by decide), if_neg (show ¬ nI 49 = 36 by decide), if_neg (show ¬ nI 49 = 37 by decide), if_neg (show ¬ nI 49 = 38 by decide), if_neg (show ¬ nI 49 = 39 by decide), if_neg (show ¬ nI 49 = 40 by decide), if_neg (show ¬ nI 49 = 41 by decide), if_neg (show ¬ nI 49 = 42 by decide), if_neg (show ¬ nI 49 = 43 by decide), if_neg (show ¬ nI 49 = 44 by decide), if_neg (show ¬ nI 49 = 45 by decide), if_neg (show ¬ nI 49 = 46 by decide), if_neg (show ¬ nI 49 = 47 by decide), if_neg (show ¬ nI 49 = 48 by decide), if_pos (show nI 49 = 49 from rfl), bind_rt]
theorem act_50 {x : Int32} {m : St} : f_Mo_act (nI 50) x m = f_Mo_look x m := by
  unfold f_Mo_act
  rw [if_neg (show ¬ nI 50 = 35 by decide), if_neg (show ¬ nI 50 = 36 by decide), if_neg (show ¬ nI 50 = 37 by decide), if_neg (show ¬ nI 50 = 38 by decide), if_neg (show ¬ nI 50 = 39 by decide), if_neg (show ¬ nI 50 = 40 by decide), if_neg (show ¬ nI 50 = 41 by decide), if_neg (show ¬ nI 50 = 42 by decide), if_neg (show ¬ nI 50 = 43 by decide), if_neg (show ¬ nI 50 = 44 by decide), if_neg (show ¬ nI 50 = 45 by decide), if_neg (show ¬ nI 50 = 46 by decide), if_neg (show ¬ nI 50 = 47 by decide), if_neg (show ¬ nI 50 = 48 by decide), if_neg (show ¬ nI 50 = 49 by decide), bind_rt]
theorem pw_39 {B : Nat} {c : St} : f_Ma_performWide B (nI 39) c = f_Ma_push B c := by
  unfold f_Ma_performWide
  rw [if_pos (show nI 39 = 39 from rfl), bind_rt]
theorem pw_40 {B : Nat} {c : St} : f_Ma_performWide B (nI 40) c = f_Ma_pop B c := by
  unfold f_Ma_performWide
  rw [if_neg (show ¬ nI 40 = 39 by decide), if_pos (show nI 40 = 40 from rfl), bind_rt]
theorem pw_41 {B : Nat} {c : St} : f_Ma_performWide B (nI 41) c = f_Ma_allot B (nI 41) c := by
  unfold f_Ma_performWide f_Ma_performWide_J74
  rw [if_neg (show ¬ nI 41 = 39 by decide), if_neg (show ¬ nI 41 = 40 by decide), if_pos (show nI 41 = 41 from rfl), bind_rt]
theorem pw_42 {B : Nat} {c : St} : f_Ma_performWide B (nI 42) c = f_Ma_allot B (nI 42) c := by
  unfold f_Ma_performWide f_Ma_performWide_J74
  rw [if_neg (show ¬ nI 42 = 39 by decide), if_neg (show ¬ nI 42 = 40 by decide), if_neg (show ¬ nI 42 = 41 by decide), if_pos (show nI 42 = 42 from rfl), bind_rt]
theorem pw_43 {B : Nat} {c : St} : f_Ma_performWide B (nI 43) c = f_Ma_grow B c := by
  unfold f_Ma_performWide
  rw [if_neg (show ¬ nI 43 = 39 by decide), if_neg (show ¬ nI 43 = 40 by decide), if_neg (show ¬ nI 43 = 41 by decide), if_neg (show ¬ nI 43 = 42 by decide), if_pos (show nI 43 = 43 from rfl), bind_rt]
theorem pw_44 {B : Nat} {c : St} : f_Ma_performWide B (nI 44) c = f_Ma_giveBack B c := by
  unfold f_Ma_performWide
  rw [if_neg (show ¬ nI 44 = 39 by decide), if_neg (show ¬ nI 44 = 40 by decide), if_neg (show ¬ nI 44 = 41 by decide), if_neg (show ¬ nI 44 = 42 by decide), if_neg (show ¬ nI 44 = 43 by decide), if_pos (show nI 44 = 44 from rfl), bind_rt]
theorem pw_45 {B : Nat} {c : St} : f_Ma_performWide B (nI 45) c = f_Ma_copyBytes B c := by
  unfold f_Ma_performWide
  rw [if_neg (show ¬ nI 45 = 39 by decide), if_neg (show ¬ nI 45 = 40 by decide), if_neg (show ¬ nI 45 = 41 by decide), if_neg (show ¬ nI 45 = 42 by decide), if_neg (show ¬ nI 45 = 43 by decide), if_neg (show ¬ nI 45 = 44 by decide), if_pos (show nI 45 = 45 from rfl), bind_rt]
theorem pw_46 {B : Nat} {c : St} : f_Ma_performWide B (nI 46) c = f_Ma_fillBytes B c := by
  unfold f_Ma_performWide
  rw [if_neg (show ¬ nI 46 = 39 by decide), if_neg (show ¬ nI 46 = 40 by decide), if_neg (show ¬ nI 46 = 41 by decide), if_neg (show ¬ nI 46 = 42 by decide), if_neg (show ¬ nI 46 = 43 by decide), if_neg (show ¬ nI 46 = 44 by decide), if_neg (show ¬ nI 46 = 45 by decide), if_pos (show nI 46 = 46 from rfl), bind_rt]
theorem pw_47 {B : Nat} {c : St} : f_Ma_performWide B (nI 47) c = f_Ma_readInput B c := by
  unfold f_Ma_performWide
  rw [if_neg (show ¬ nI 47 = 39 by decide), if_neg (show ¬ nI 47 = 40 by decide), if_neg (show ¬ nI 47 = 41 by decide), if_neg (show ¬ nI 47 = 42 by decide), if_neg (show ¬ nI 47 = 43 by decide), if_neg (show ¬ nI 47 = 44 by decide), if_neg (show ¬ nI 47 = 45 by decide), if_neg (show ¬ nI 47 = 46 by decide), if_pos (show nI 47 = 47 from rfl), bind_rt]
theorem pw_48 {B : Nat} {c : St} : f_Ma_performWide B (nI 48) c = f_Ma_putOut B c := by
  unfold f_Ma_performWide
  rw [if_neg (show ¬ nI 48 = 39 by decide), if_neg (show ¬ nI 48 = 40 by decide), if_neg (show ¬ nI 48 = 41 by decide), if_neg (show ¬ nI 48 = 42 by decide), if_neg (show ¬ nI 48 = 43 by decide), if_neg (show ¬ nI 48 = 44 by decide), if_neg (show ¬ nI 48 = 45 by decide), if_neg (show ¬ nI 48 = 46 by decide), if_neg (show ¬ nI 48 = 47 by decide), if_pos (show nI 48 = 48 from rfl), bind_rt]
theorem pw_49 {B : Nat} {c : St} : f_Ma_performWide B (nI 49) c = f_Ma_markBytes B c := by
  unfold f_Ma_performWide
  rw [if_neg (show ¬ nI 49 = 39 by decide), if_neg (show ¬ nI 49 = 40 by decide), if_neg (show ¬ nI 49 = 41 by decide), if_neg (show ¬ nI 49 = 42 by decide), if_neg (show ¬ nI 49 = 43 by decide), if_neg (show ¬ nI 49 = 44 by decide), if_neg (show ¬ nI 49 = 45 by decide), if_neg (show ¬ nI 49 = 46 by decide), if_neg (show ¬ nI 49 = 47 by decide), if_neg (show ¬ nI 49 = 48 by decide), if_pos (show nI 49 = 49 from rfl), bind_rt]
theorem pw_50 {B : Nat} {c : St} : f_Ma_performWide B (nI 50) c = f_Ma_look B c := by
  unfold f_Ma_performWide
  rw [if_neg (show ¬ nI 50 = 39 by decide), if_neg (show ¬ nI 50 = 40 by decide), if_neg (show ¬ nI 50 = 41 by decide), if_neg (show ¬ nI 50 = 42 by decide), if_neg (show ¬ nI 50 = 43 by decide), if_neg (show ¬ nI 50 = 44 by decide), if_neg (show ¬ nI 50 = 45 by decide), if_neg (show ¬ nI 50 = 46 by decide), if_neg (show ¬ nI 50 = 47 by decide), if_neg (show ¬ nI 50 = 48 by decide), if_neg (show ¬ nI 50 = 49 by decide), bind_rt]
theorem pp_a {B : Nat} {c : St} {o : Nat} (h : o ≤ 20) : f_Ma_performPlain B (nI o) c = f_Ma_compute B (nI o) c := by
  unfold f_Ma_performPlain
  rw [if_neg (show ¬ 20 < nI o from nI_nlt (a := 20) h (by omega)), bind_rt]
theorem pp_b {B : Nat} {c : St} {o : Nat} (h : 20 < o) (h2 : o ≤ 25) : f_Ma_performPlain B (nI o) c = f_Ma_load B (nI o) c := by
  unfold f_Ma_performPlain
  rw [if_pos (show 20 < nI o from nI_lt (a := 20) h (by omega)), if_neg (show ¬ 25 < nI o from nI_nlt (a := 25) h2 (by omega)), bind_rt]
theorem pp_c {B : Nat} {c : St} {o : Nat} (h : 25 < o) (h2 : o ≤ 28) : f_Ma_performPlain B (nI o) c = f_Ma_store B (nI o) c := by
  unfold f_Ma_performPlain
  rw [if_pos (show 20 < nI o from nI_lt (a := 20) (by omega) (by omega)), if_pos (show 25 < nI o from nI_lt (a := 25) h (by omega)), if_neg (show ¬ 28 < nI o from nI_nlt (a := 28) h2 (by omega)), bind_rt]
theorem pp_d {B : Nat} {c : St} {o : Nat} (h : 28 < o) (h2 : o ≤ 34) : f_Ma_performPlain B (nI o) c = f_Ma_branch B (nI o) c := by
  unfold f_Ma_performPlain
  rw [if_pos (show 20 < nI o from nI_lt (a := 20) (by omega) (by omega)), if_pos (show 25 < nI o from nI_lt (a := 25) (by omega) (by omega)), if_pos (show 28 < nI o from nI_lt (a := 28) h (by omega)), if_neg (show ¬ 34 < nI o from nI_nlt (a := 34) h2 (by omega)), bind_rt]
theorem pp_e {B : Nat} {c : St} {o : Nat} (h : 34 < o) (h2 : o ≤ 38) : f_Ma_performPlain B (nI o) c = f_Ma_jump B (nI o) c := by
  unfold f_Ma_performPlain
  rw [if_pos (show 20 < nI o from nI_lt (a := 20) (by omega) (by omega)), if_pos (show 25 < nI o from nI_lt (a := 25) (by omega) (by omega)), if_pos (show 28 < nI o from nI_lt (a := 28) (by omega) (by omega)), if_pos (show 34 < nI o from nI_lt (a := 34) h (by omega)), bind_rt]
/-- the reference's choice of an instruction -/
noncomputable def dsp (x4 x5 : Int32) (s : St) : Option St :=
  if x4 < 4 then f_Mo_single x4 x5 s else if x4 = 19 then f_Mo_single x4 x5 s else if x4 = 20 then f_Mo_single x4 x5 s else if 19 ≤ x4 then (if 29 ≤ x4 then (if 35 ≤ x4 then f_Mo_act x4 x5 s else f_Mo_branch x4 x5 s) else f_Mo_reach x4 x5 s) else f_Mo_reckon x4 x5 s
theorem o_all {z B n i N P b o : Nat} {t : Int32} {c0 m0 c m : St} (hn : n < 2 ^ 30) (h : SI z B n i N t c0 m0 c m) (hX : PX B P b i N o c0 m0) (hI : INp P c0 m0) (he : c.1 B 11 = 0) :
    ∃ c' m', (if 38 < nI o then f_Ma_performWide B (nI o) c else f_Ma_performPlain B (nI o) c) = some c' ∧ dsp (nI o) (nI (600 * b + 3 * i)) m = some m' ∧ SI z B (n + 4) i N t c0 m0 c' m' := by
  have ho := hX.2.2.2.2.2.2.2.2.2.2.1
  have mono : ∀ {X Y : Option St} {k : Nat}, k ≤ 4 → (∃ c' m', X = some c' ∧ Y = some m' ∧ SI z B (n + k) i N t c0 m0 c' m') → ∃ c' m', X = some c' ∧ Y = some m' ∧ SI z B (n + 4) i N t c0 m0 c' m' := fun hk ⟨c', m', e1, e2, e3⟩ => ⟨c', m', e1, e2, SI_mono e3 (by omega)⟩
  unfold dsp
  by_cases p : o ≤ 38
  · rw [if_neg (show ¬ 38 < nI o from nI_nlt (a := 38) p (by omega))]
    by_cases p1 : o < 4
    · rw [if_pos (show nI o < 4 from nI_lt (b := 4) p1 (by omega)), pp_a (by omega)]
      exact mono (k := 0) (by omega) (o_single h hX he (by omega))
    rw [if_neg (show ¬ nI o < 4 from nI_nlt (b := 4) (by omega) (by omega))]
    by_cases p2 : o = 19
    · rw [if_pos (show nI o = 19 by rw [p2]; rfl), pp_a (by omega)]
      exact mono (k := 0) (by omega) (o_single h hX he (by omega))
    rw [if_neg (show ¬ nI o = 19 from ne_l (k := 19) (by omega) (by omega) p2)]
    by_cases p3 : o = 20
    · rw [if_pos (show nI o = 20 by rw [p3]; rfl), pp_a (by omega)]
      exact mono (k := 0) (by omega) (o_single h hX he (by omega))
    rw [if_neg (show ¬ nI o = 20 from ne_l (k := 20) (by omega) (by omega) p3)]
    by_cases p4 : o < 19
    · rw [if_neg (show ¬ 19 ≤ nI o from nI_ge (b := 19) p4 (by omega)), pp_a (by omega)]
      exact mono (k := 1) (by omega) (o_reckon h hX he (by omega) (by omega))
    rw [if_pos (show 19 ≤ nI o from nI_le (a := 19) (by omega) (by omega))]
    by_cases p5 : o < 29
    · rw [if_neg (show ¬ 29 ≤ nI o from nI_ge (b := 29) p5 (by omega))]
      by_cases p6 : o ≤ 25
      · rw [pp_b (by omega) p6]; exact mono (k := 2) (by omega) (o_load h hX he (by omega) p6)
      · rw [pp_c (by omega) (by omega)]; exact mono (k := 2) (by omega) (o_store h hX (by omega) (by omega))
    rw [if_pos (show 29 ≤ nI o from nI_le (a := 29) (by omega) (by omega))]
    by_cases p6 : o < 35
    · rw [if_neg (show ¬ 35 ≤ nI o from nI_ge (b := 35) p6 (by omega)), pp_d (by omega) (by omega)]
      exact mono (k := 1) (by omega) (o_branch h hX (by omega) (by omega))
    · rw [if_pos (show 35 ≤ nI o from nI_le (a := 35) (by omega) (by omega)), pp_e (by omega) p]
      exact mono (k := 0) (by omega) (o_jump h hX he (by omega) p)
  · rw [if_pos (show 38 < nI o from nI_lt (a := 38) (by omega) (by omega)), if_neg (show ¬ nI o < 4 from nI_nlt (b := 4) (by omega) (by omega)), if_neg (show ¬ nI o = 19 from ne_l (k := 19) (by omega) (by omega) (by omega)), if_neg (show ¬ nI o = 20 from ne_l (k := 20) (by omega) (by omega) (by omega)), if_pos (show 19 ≤ nI o from nI_le (a := 19) (by omega) (by omega)), if_pos (show 29 ≤ nI o from nI_le (a := 29) (by omega) (by omega)), if_pos (show 35 ≤ nI o from nI_le (a := 35) (by omega) (by omega))]
    have hc : o = 39 ∨ o = 40 ∨ o = 41 ∨ o = 42 ∨ o = 43 ∨ o = 44 ∨ o = 45 ∨ o = 46 ∨ o = 47 ∨ o = 48 ∨ o = 49 ∨ o = 50 := by omega
    rcases hc with rfl | rfl | rfl | rfl | rfl | rfl | rfl | rfl | rfl | rfl | rfl | rfl
    · rw [pw_39, act_39]; exact mono (k := 2) (by omega) (o_push h hX he)
    · rw [pw_40, act_40]; exact mono (k := 2) (by omega) (o_pop h hX he)
    · rw [pw_41]; exact mono (k := 1) (by omega) (o_allot h hX he (.inl rfl))
    · rw [pw_42]; exact mono (k := 1) (by omega) (o_allot h hX he (.inr rfl))
    · rw [pw_43, act_43]; exact mono (k := 3) (by omega) (o_grow h hX he)
    · rw [pw_44, act_44]; exact mono (k := 2) (by omega) (o_free h hX)
    · rw [pw_45, act_45]; exact mono (k := 4) (by omega) (o_copy h hX he)
    · rw [pw_46, act_46]; exact mono (k := 3) (by omega) (o_fill h hX he)
    · rw [pw_47]; exact mono (k := 0) (by omega) (o_in h hX hI he)
    · rw [pw_48]; exact mono (k := 2) (by omega) (o_out hn h hX)
    · rw [pw_49, act_49]; exact mono (k := 2) (by omega) (o_mark h hX he)
    · rw [pw_50, act_50]; exact mono (k := 2) (by omega) (o_look h hX he)
/-! between the steps -/
def BS (z B n N : Nat) (t : Int32) (c0 m0 c m : St) : Prop := ∃ i, i ≤ N ∧ (c.1 B 11 = 0 → i < N) ∧ SI z B n i N t c0 m0 (uI c B 10 (nI i)) (uI m 0 69 (nI i))
def WP (B P b N : Nat) (c0 m0 : St) : Prop := isP P ∧ c0.2.2 (mq B) = P ∧ b < 2 ∧ m0.1 0 14 = nI b ∧ N ≤ 200 ∧ c0.1 P 3 = nI N ∧ m0.1 0 16 = nI N ∧ INp P c0 m0 ∧ ∀ i, i < N → ∃ o, PX B P b i N o c0 m0
theorem phi_22 {z i : Nat} : phi z (psi z 22 i).1 (psi z 22 i).2 ≠ some (22, i) := by
  simp [psi, phi]
theorem phi_69 {z : Nat} : phi z (psi z 0 69).1 (psi z 0 69).2 ≠ some (0, 69) := by
  by_cases h : z = 0 <;> simp [psi, phi, h]
theorem SI_Bof2 {z B n n' i i' N : Nat} {t t' : Int32} {c0 m0 c m c' m' : St} (h : SI z B n i N t c0 m0 c m) (hn : n ≤ n') (hR : RB z B c0 m0 c' m') (hc : ∀ k, k ≠ B → k < B + 36 → c'.1 k = c.1 k) (h64 : m'.1 0 64 = m.1 0 64) (h33 : m'.1 33 = m.1 33) (h35 : m'.1 35 = m.1 35) (hX : IX z B n' i' N t' c0 m0 c' m') : SI z B n' i' N t' c0 m0 c' m' := by
  obtain ⟨h1, h2, h3, h4, h5, h6, h7⟩ := h
  exact ⟨hR, LG_of h2 hn (hc _ (by omega) (by omega)) h64, IM_of h3 (hc _ (by omega) (by omega)) (hc _ (by omega) (by omega)) (hc _ (by omega) (by omega)), IS_of h4 (by rw [hc _ (by omega) (by omega)]) (hc _ (by omega) (by omega)) (hc _ (by omega) (by omega)), IR_of h5 (fun k _ _ => hc k (by omega) (by omega)), HI_of h6 (fun k _ _ => hc k (by omega) (by omega)) h33 h35, hX⟩
theorem SI_t {z B n i N : Nat} {t : Int32} {c0 m0 c m : St} (h : SI z B n i N t c0 m0 c m) (t' : Int32) : SI z B n i N t' c0 m0 c (uI m 22 z t') := by
  have hR : RB z B c0 m0 c (uI m 22 z t') := RB_m h.1 phi_22 (by unfold own; omega)
  refine SI_Bof2 h (Nat.le_refl _) hR (fun _ _ _ => rfl) (by rw [uI_n (by omega)]) (uI_n (by omega)) (uI_n (by omega)) ?_
  obtain ⟨a1, a2, a3, a4, a5, a6⟩ := h.2.2.2.2.2.2
  unfold IX
  rw [uI_n (show (0 : Nat) ≠ 22 by omega), uI_v]
  exact ⟨a1, a2, a3, a4, rfl, a6⟩
theorem SI_at {z B n i N q : Nat} {t : Int32} {c0 m0 c m : St} (h : SI z B n i N t c0 m0 c m) : SI z B n q N t c0 m0 (uI c B 9 (nI q)) (uI m 0 69 (nI q)) := by
  have hR : RB z B c0 m0 (uI c B 9 (nI q)) (uI m 0 69 (nI q)) := RB_m (RB_c (d := 0) (j := 9) h.1 rfl (by omega)) phi_69 (by unfold own; omega)
  refine SI_Bof2 h (Nat.le_refl _) hR (fun k hk _ => uI_n hk) (by rw [uI_o (by omega)]) (uI_n (by omega)) (uI_n (by omega)) ?_
  obtain ⟨a1, a2, a3, a4, a5, a6, a7, a8, a9, a10⟩ := h.2.2.2.2.2.2
  unfold IX
  have q' : ∀ j, j ≠ 9 → (uI c B 9 (nI q)).1 B j = c.1 B j := fun j hj => uI_o (by omega)
  rw [q' 8 (by omega), q' 12 (by omega), q' 11 (by omega), q' 10 (by omega), q' 16 (by omega), q' 14 (by omega), q' 18 (by omega), uI_v, uI_n (show B + 36 ≠ B by omega), uI_v, uI_n (show (22 : Nat) ≠ 0 by omega)]
  exact ⟨rfl, rfl, a3, a4, a5, a6, a7, a8, a9, a10⟩
theorem S_step {z B n N P b : Nat} {t : Int32} {c0 m0 c m : St} (hn : n < 2 ^ 30) (hW : WP B P b N c0 m0) (h : BS z B n N t c0 m0 c m) (he : c.1 B 11 = 0) {v1 v2 : Int32} (hv : ¬ v1 ≤ v2) :
    ∃ c' m', f_Ma_advance_L2 B v1 v2 c = some (.inl (v2 + 1, c')) ∧ f_Mo_step m = some m' ∧ BS z B (n + 4) N (t + 1) c0 m0 c' m' := by
  obtain ⟨i, hiN, hi, hS⟩ := h
  have hi := hi he
  obtain ⟨hP, hq, hb, hbk, hN, hc3, hm16, hI, hPX⟩ := hW
  obtain ⟨o, hX⟩ := hPX i hi
  have hz := RB_zb hS.1
  have hl := isP_lt hP
  have gz2 : ∀ {β : Type} (q : Option β), gd (nI z) 2 q = q := fun q => gd_nI hz (by omega)
  have kz : (nI z).toNatClampNeg = z := nI_clamp (by omega)
  have c9 : c.1 B 9 = nI i := by have := SI_9 hS; rw [uI_o (by omega)] at this; exact this
  have m28 : m.1 0 28 = nI z := by have := RB_z hS.1; rw [uI_o (by omega)] at this; exact this
  have m20 : m.1 20 z = nI i := by
    have := RB_eq hS.1 (show phi z 0 10 = some (20, z) from rfl)
    rw [show B + 0 = B from rfl, uI_v, uI_n (by omega)] at this; exact this.symm
  have m22 : m.1 22 z = t := by have := hS.2.2.2.2.2.2.2.2.2.2.1; rw [uI_n (by omega)] at this; exact this
  have hPq : c.2.2 (mq B) = P := by have := RB_c2 hS.1; rw [show c.2.2 = c0.2.2 from congrArg Prod.snd this]; exact hq
  have hop : c.1 (P + 1) i = nI o := by
    have := fr_c hS.1 (k := P + 1) (by omega)
    rw [uI_n (by have := RB_B hS.1; omega)] at this
    rw [this]; exact hX.2.2.2.2.2.2.2.2.1
  -- the two states at the instruction's beginning
  have hS1 := SI_next (SI_t hS (t + 1)) (q := i + 1) (by omega)
  rw [uI_uI] at hS1
  have he1 : (uI c B 10 (nI (i + 1))).1 B 11 = 0 := by rw [uI_o (by omega)]; exact he
  obtain ⟨c1, m1, e1, e2, e3⟩ := o_all hn hS1 hX hI he1
  have hm3 : m1.1 0 28 = nI z := RB_z e3.1
  have eC : f_Ma_advance_L2 B v1 v2 c = f_Ma_advance_J56_1 B v1 v2 c1 := by
    unfold f_Ma_advance_L2
    rw [if_neg hv, if_pos he, hPq, gP_e hP, c9, gd_nI (by omega) (by omega), nI_clamp (by omega), hop, lt_eq, nI_1, lt_eq]
    by_cases g : 38 < nI o
    · rw [if_pos g] at e1 ⊢; rw [e1]; rfl
    · rw [if_neg g] at e1 ⊢; rw [e1]; rfl
  have eM : f_Mo_step m = f_Mo_step_J151 m1 := by
    unfold f_Mo_step f_Mo_step_J91
    rw [m28, gz2, kz, m20, lt_eq, uI_o (show ¬ ((0 : Nat) = 0 ∧ (28 : Nat) = 69) by omega), m28, gz2, gz2, kz, uI_n (show (22 : Nat) ≠ 0 by omega), m22, lt_eq, uI_n (show (0 : Nat) ≠ 22 by omega), uI_o (show ¬ ((0 : Nat) = 0 ∧ (28 : Nat) = 69) by omega), m28, gz2, gz2, kz, uI_n (show (20 : Nat) ≠ 22 by omega), uI_n (show (20 : Nat) ≠ 0 by omega), m20, nI_1, lt_eq]
    have r14 : (uI (uI (uI m 0 69 (nI i)) 22 z (t + 1)) 20 z (nI (i + 1))).1 0 14 = nI b := (RB_0 hS1.1 (by unfold own; omega)).trans hbk
    have r69 : (uI (uI (uI m 0 69 (nI i)) 22 z (t + 1)) 20 z (nI (i + 1))).1 0 69 = nI i := SI_69 hS1
    have r3 : (uI (uI (uI m 0 69 (nI i)) 22 z (t + 1)) 20 z (nI (i + 1))).1 3 (200 * b + i) = nI o := (fr_4 hS1.1 (by omega)).trans hX.2.2.2.2.2.2.2.2.2.1
    rw [r14, r69, show (200 : Int32) * nI b + nI i = nI (200 * b + i) by rw [show (200 : Int32) = nI 200 from rfl, nI_mul, nI_add], show (600 : Int32) * nI b + 3 * nI i = nI (600 * b + 3 * i) by rw [show (600 : Int32) = nI 600 from rfl, show (3 : Int32) = nI 3 from rfl, nI_mul, nI_mul, nI_add], gd_nI (by omega) (by omega), nI_clamp (by omega), r3, lt_eq, lt_eq]
    unfold dsp at e2
    by_cases p1 : nI o < 4
    · rw [if_pos p1] at e2 ⊢; rw [e2]; rfl
    rw [if_neg p1] at e2 ⊢
    by_cases p2 : nI o = 19
    · rw [if_pos p2] at e2 ⊢; rw [e2]; rfl
    rw [if_neg p2] at e2 ⊢
    by_cases p3 : nI o = 20
    · rw [if_pos p3] at e2 ⊢; rw [e2]; rfl
    rw [if_neg p3] at e2 ⊢
    by_cases p4 : 19 ≤ nI o
    · rw [if_pos p4] at e2 ⊢
      by_cases p5 : 29 ≤ nI o
      · rw [if_pos p5] at e2 ⊢
        by_cases p6 : 35 ≤ nI o
        · rw [if_pos p6] at e2 ⊢; rw [e2]; rfl
        · rw [if_neg p6] at e2 ⊢; rw [e2]; rfl
      · rw [if_neg p5] at e2 ⊢; rw [e2]; rfl
    · rw [if_neg p4] at e2 ⊢; rw [e2]; rfl
  rw [eC, eM]
  have s21 : m1.1 21 z = c1.1 B 11 := (RB_eq e3.1 (show phi z 0 11 = some (21, z) from rfl)).symm
  have s16 : m1.1 0 16 = nI N := (RB_0 e3.1 (by unfold own; omega)).trans hm16
  obtain ⟨q, hqN, hq10⟩ := e3.2.2.2.2.2.2.2.2.2.2.2.2.1
  have s20 : m1.1 20 z = nI q := (RB_eq e3.1 (show phi z 0 10 = some (20, z) from rfl)).symm.trans hq10
  have hst := e3.2.2.2.2.2.2.2.2.2.2.2.1
  unfold f_Ma_advance_J56_1 f_Ma_advance_J71_1 f_Mo_step_J151
  rw [hm3, gz2, kz, s21]
  by_cases g0 : c1.1 B 11 = 0
  · rw [if_pos g0, if_pos (show c1.1 B 11 ≤ 0 by rw [g0]; decide), gz2, s20, s16, hq10]
    have hA := SI_at (q := q) e3
    have hq2 : c1.2.2 (mq B) = P := by rw [RB_c2 e3.1]; exact hq
    have c3' : (uI c1 B 9 (nI q)).1 P 3 = nI N := by
      rw [uI_n (by have := RB_B e3.1; omega), fr_c e3.1 (by omega)]; exact hc3
    have same10 : uI (uI c1 B 9 (nI q)) B 10 (nI q) = uI c1 B 9 (nI q) := uI_same (by rw [uI_o (by omega)]; exact hq10)
    unfold f_Ma_goTo
    rw [lt_eq, uI_v, show (uI c1 B 9 (nI q)).2.2 (mq B) = P from hq2, gP_e hP, c3']
    by_cases g1 : q < N
    · rw [if_pos (nI_lt g1 (by omega)), if_pos (nI_lt g1 (by omega))]
      refine ⟨uI c1 B 9 (nI q), m1, rfl, rfl, q, hqN, fun _ => g1, ?_⟩
      rw [same10]; exact hA
    · rw [if_neg (nI_nlt (by omega) (by omega)), if_neg (nI_nlt (by omega) (by omega)), gz2]
      refine ⟨uI (uI c1 B 9 (nI q)) B 11 1, uI m1 21 z 1, rfl, rfl, q, hqN, fun h => ?_, ?_⟩
      · rw [uI_v] at h; exact absurd h (by decide)
      · have hE := SI_end hA
        rw [uI_comm (k := B) (j := 11) (by omega), same10, uI_comm (k := 21) (by omega)]; exact hE
  · have hpos : ¬ c1.1 B 11 ≤ 0 := Int32.not_le.mpr (hst.resolve_left g0)
    rw [if_neg g0, if_neg hpos, gz2, SI_69 e3]
    refine ⟨c1, uI m1 20 z (nI i), rfl, rfl, i, by omega, fun h => absurd h g0, ?_⟩
    rw [uI_same (s := uI m1 20 z (nI i)) (k := 0) (j := 69) (by rw [uI_n (by omega)]; exact SI_69 e3)]
    exact SI_next e3 (by omega)
/-- many steps -/
theorem S_adv {z B N P b V : Nat} {c0 m0 : St} (hW : WP B P b N c0 m0) (hV : V ≤ 1000000) : ∀ (d v n : Nat) (t0 : Int32) (c m : St), v + d = V → n + 4 * d < 2 ^ 30 → BS z B n N (t0 + nI v) c0 m0 c m →
    ∃ v' c' m', v ≤ v' ∧ v' ≤ V ∧ wh (fun a : Int32 × St => f_Ma_advance_L2 B (nI V) a.1 a.2) (nI v, c) = some (nI v', c') ∧ wh (fun a : St => f_Mo_go_L10 (nI V) t0 a) m = some m' ∧ BS z B (n + 4 * (v' - v)) N (t0 + nI v') c0 m0 c' m' := by
  intro d
  induction d with
  | zero =>
    intro v n t0 c m hv hn h
    obtain ⟨i, hiN, hi, hS⟩ := h
    have hz := RB_zb hS.1
    have m28 : m.1 0 28 = nI z := by have := RB_z hS.1; rw [uI_o (by omega)] at this; exact this
    have m22 : m.1 22 z = t0 + nI v := by have := hS.2.2.2.2.2.2.2.2.2.2.1; rw [uI_n (by omega)] at this; exact this
    refine ⟨v, c, m, by omega, by omega, wh_inr ?_, wh_inr ?_, i, hiN, hi, SI_mono hS (by omega)⟩
    · dsimp only; unfold f_Ma_advance_L2; rw [if_pos (nI_le (by omega) (by omega))]
    · unfold f_Mo_go_L10
      rw [m28, gd_nI hz (by omega), nI_clamp (by omega), gd_nI hz (by omega), m22, Int32.add_comm t0, Int32.add_sub_cancel, if_pos (show nI V ≤ nI v from nI_le (by omega) (by omega)), ite_self]
  | succ d ih =>
    intro v n t0 c m hv hn h
    have h' := h
    obtain ⟨i, hiN, hi, hS⟩ := h
    have hz := RB_zb hS.1
    have m28 : m.1 0 28 = nI z := by have := RB_z hS.1; rw [uI_o (by omega)] at this; exact this
    have m22 : m.1 22 z = t0 + nI v := by have := hS.2.2.2.2.2.2.2.2.2.2.1; rw [uI_n (by omega)] at this; exact this
    have m21 : m.1 21 z = c.1 B 11 := by
      have := RB_eq hS.1 (show phi z 0 11 = some (21, z) from rfl)
      rw [show B + 0 = B from rfl, uI_o (by omega), uI_n (by omega)] at this; exact this.symm
    have eM : f_Mo_go_L10 (nI V) t0 m = if c.1 B 11 = 0 then ((f_Mo_step m).bind fun q4 => some (.inl q4)) else some (.inr m) := by
      unfold f_Mo_go_L10
      rw [m28, gd_nI hz (by omega), nI_clamp (by omega), gd_nI hz (by omega), m22, Int32.add_comm t0, Int32.add_sub_cancel, if_neg (show ¬ nI V ≤ nI v from nI_ge (by omega) (by omega)), m21]
    by_cases he : c.1 B 11 = 0
    · obtain ⟨c1, m1, e1, e2, e3⟩ := S_step (by omega) hW h' he (v1 := nI V) (v2 := nI v) (nI_ge (by omega) (by omega))
      rw [Int32.add_assoc, nI_1] at e3
      rw [nI_1] at e1
      obtain ⟨v', c', m', f0, f1, f2, f3, f4⟩ := ih (v + 1) (n + 4) t0 c1 m1 (by omega) (by omega) e3
      refine ⟨v', c', m', by omega, f1, ?_, ?_, ?_⟩
      · rw [wh_inl (by dsimp only; exact e1)]; exact f2
      · rw [if_pos he, e2] at eM
        rw [wh_inl eM]; exact f3
      · rw [show n + 4 * (v' - v) = n + 4 + 4 * (v' - (v + 1)) by omega]; exact f4
    · rw [if_neg he] at eM
      refine ⟨v, c, m, by omega, by omega, wh_inr ?_, wh_inr eM, i, hiN, hi, SI_mono hS (by omega)⟩
      dsimp only; unfold f_Ma_advance_L2; rw [if_neg (nI_ge (by omega) (by omega)), if_neg he]
