/-! ===== all calls agree; the first states ===== -/
theorem sim_all : Sim Rel := ⟨sim_feed, sim_end, sim_assemble, sim_fault, sim_begin, sim_input, sim_suppress, sim_run, sim_state, sim_register, sim_memory, sim_report, sim_output, sim_block, sim_twin⟩
def c00 : St := (fun k => if k = 0 then (fun j => if j = 8 then 200000 else 0) else if k = 2 then (fun j => if j = 11 then -1 else if j = 12 then -1 else 0) else fun _ => 0, va_up (fun _ _ => 0) 4 nmF, fun q => if q = 0 then 10 else if q = 1 then 15 else 999)
def m00 : St := (fun k => if k = 0 then (fun j => if j = 21 then -1 else if j = 22 then -1 else 0) else fun _ => 0, fun _ _ => 0, fun _ => 999)
set_option maxRecDepth 100000 in
theorem nm_ok : ∀ k : Fin 51, nmF k.val = f_Mo_name (nI k.val) := by decide +kernel
theorem c00_far {k j : Nat} (hk : 20 ≤ k) : c00.1 k j = 0 := by
  show (if k = 0 then (fun j => if j = 8 then (200000 : Int32) else 0) else if k = 2 then (fun j => if j = 11 then -1 else if j = 12 then -1 else 0) else fun _ => 0) j = 0
  rw [if_neg (by omega), if_neg (by omega)]
theorem m00_far {k i : Nat} (h : ¬ (k = 0 ∧ (i = 21 ∨ i = 22))) : m00.1 k i = 0 := by
  show (if k = 0 then (fun j => if j = 21 then (-1 : Int32) else if j = 22 then -1 else 0) else fun _ => 0) i = 0
  by_cases k0 : k = 0
  · rw [if_pos k0]
    show (if i = 21 then (-1 : Int32) else if i = 22 then -1 else 0) = 0
    rw [if_neg (by omega), if_neg (by omega)]
  · rw [if_neg k0]
theorem R1_00 {z B : Nat} (hB : 20 ≤ B) (hz : z < 2) : R1 z B (uI c00 B 10 0) m00 := by
  intro d j q hq
  obtain ⟨k, i⟩ := q
  have hr := phi_rlv hq hz
  unfold rlv at hr
  show (uI c00 B 10 0).1 (B + d) j = m00.1 k i
  rw [m00_far (by omega), uI_g2]
  by_cases e : B + d = B ∧ j = 10
  · rw [if_pos e]
  · rw [if_neg e]; exact c00_far (by omega)
theorem Rel_00 : Rel c00 m00 := by
  refine ⟨⟨⟨0, by omega, rfl, rfl, fun i hi => absurd hi (by omega)⟩, rfl, rfl, rfl, fun k hk => nm_ok ⟨k, hk⟩⟩, 0, 0, 0, 0, ⟨by omega, rfl, rfl, by omega, rfl, rfl, .inl ⟨rfl, rfl⟩, R1_00 (by omega) (by omega), R1_00 (by omega) (by omega), ⟨0, by omega, c00_far (by omega)⟩, ⟨0, by omega, c00_far (by omega)⟩⟩, .inl ⟨rfl, rfl, rfl, rfl⟩⟩
