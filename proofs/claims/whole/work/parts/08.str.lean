/-! ===== texts: length and charAt of the class's own String constants ===== -/
section STR
variable {G : GG} {cc : ByteArray} {own : String} {β : Type} {Acc : β → Prop} {o : Option β} {pc index : Nat} {lv : List (Nat × Value)} {st st0 : List Value} {s s' : St}
theorem jr_gets (C : Cx SC G cc own) {c0 n d : String} {v : Value} (hZ : va_Z c0 n d v (gA G) (gs G) (gs G).heap) (hl : Cond.fieldLink own index c0 n d ∈ big) (hd : decode cc pc = .ok (.getstatic index, 3)) (kk : JJ SC G Acc o (pc + 3) lv (v :: st) s) : JJ SC G Acc o pc lv st s := fun ho H locs ls hP hS hl' => va_gets C.1 C.2.1 hZ hS C.2.2.2.1 (C.2.2.2.2.1 _ hl) (fun _ h => h) hd (kk ho H locs ls hP hS hl')
theorem jr_getf (C : Cx SC G cc own) {c0 n d : String} {q : Nat} {v : Value} (hE : va_OF c0 n d v q (gA G) (gs G) (gs G).heap) (hl : Cond.fieldLink own index c0 n d ∈ big) (hd : decode cc pc = .ok (.getfield index, 3)) (kk : JJ SC G Acc o (pc + 3) lv (v :: st) s) : JJ SC G Acc o pc lv (.ref q :: st) s := fun ho H locs ls hP hS hl' => vk_getf C.1 C.2.1 hE hS C.2.2.2.1 (C.2.2.2.2.1 _ hl) (fun _ h => h) hd (kk ho H locs ls hP hS hl')
theorem jr_tlen (C : Cx SC G cc own) {q N : Nat} {f : Nat → Value} {v : Int32} (hT : va_T .byte q N f (gA G) (gs G) (gs G).heap) (hv : Int32.ofNat N = v) (hd : decode cc pc = .ok (.arraylength, 1)) (kk : JJ SC G Acc o (pc + 1) lv (.int v :: st) s) : JJ SC G Acc o pc lv (.ref q :: st) s := fun ho H locs ls hP hS hl' => va_tlen C.1 C.2.1 hT hS hv hd (kk ho H locs ls hP hS hl')
theorem jr_tb (C : Cx SC G cc own) {q N : Nat} {f : Nat → Value} {v : Value} {i : Int32} (hT : va_T .byte q N f (gA G) (gs G) (gs G).heap) (hin : vp_in i N) (hv : f i.toNatClampNeg = v) (hd : decode cc pc = .ok (.baload, 1)) (kk : JJ SC G Acc o (pc + 1) lv (v :: st) s) : JJ SC G Acc o pc lv (.int i :: .ref q :: st) s := fun ho H locs ls hP hS hl' => va_tb C.1 C.2.1 hT hS hin hv hd (kk ho H locs ls hP hS hl')
theorem jr_i2c (C : Cx SC G cc own) {x v : Int32} (hv : (x.toUInt32 % 65536).toInt32 = v) (hd : decode cc pc = .ok (.i2c, 1)) (kk : JJ SC G Acc o (pc + 1) lv (.int v :: st) s) : JJ SC G Acc o pc lv (.int x :: st) s := fun ho H locs ls hP hS hl' => lv_i2c C.1 C.2.1 hd hv (kk ho H locs ls hP hS hl')
theorem tx_of (C : Cx SC G cc own) {i : Nat} (hi : i < 11) : va_OF "java/lang/String" "coder" "B" (.int 0) (ad G (200 + i)) (gA G) (gs G) (gs G).heap ∧ va_OF "java/lang/String" "value" "[B" (.ref (ad G (300 + i))) (ad G (200 + i)) (gA G) (gs G) (gs G).heap ∧ va_T .byte (ad G (300 + i)) (leS.getD i 0) (fun j => .int ((byS.getD i []).getD j 0)) (gA G) (gs G) (gs G).heap := by
  have hX : strX (ad G) (gA G) (gs G) := C.2.2.2.2.2.2.2.2.2
  exact (hX.1.1 i hi).2
theorem cs_of (C : Cx SC G cc own) : va_Z "java/lang/String" "COMPACT_STRINGS" "Z" (.int 1) (gA G) (gs G) (gs G).heap ∧ va_Zq "jdk/internal/util/Preconditions" "SIOOBE_FORMATTER" "Ljava/util/function/BiFunction;" (gA G) (gs G) (gs G).heap := by
  have hX : strX (ad G) (gA G) (gs G) := C.2.2.2.2.2.2.2.2.2
  exact hX.2.2
variable {y : MethodName} {bytes : ByteArray} {maxL fr lo n : Nat} {ret : Option FieldType} {av : (Nat → Nat) → List Value} {As : List Value} {r : (Nat → Nat) → Option Value}
theorem jr_callT (C : Cx SC G cc own) {i : Nat} (hi : i < 11) (hy : y.cls = "java/lang/String") (L : LkV own index y bytes maxL ret n) (hR : fr + 1 ≤ (gR G).frames ∧ 8 + (maxL + 11) + lo ≤ (gR G).locals) (hM : CT SC (gl G) y bytes maxL ret fr lo av s s' r) (hav : av (ad G) = .ref (ad G (200 + i)) :: As) (hn : As.length = n) (hst : st0 = As.reverse ++ .ref (ad G (200 + i)) :: st) (hrm : (st.map fun v => v.category).sum ≤ 8) (d : decode cc pc = .ok (.invokevirtual index, 3))
    (kk : JJ SC G Acc o (pc + 3) lv ((r (ad G)).toList ++ st) s') : JJ SC G Acc o pc lv st0 s := fun ho => by
  refine k_run C (fun H locs ls hP hS hl => ?_) (kk ho)
  have hw := C.2.2.2.2.1
  have hM := hM (gD G) (ad G) (gy G) H.size
  rw [hav] at hM
  subst hst
  have hX : strX (ad G) (gA G) (gs G) := C.2.2.2.2.2.2.2.2.2
  exact va_runV (As := As) (rest := st) ⟨C.1, C.2.1, C.2.2.1, C.2.2.2.1, hw⟩ hM ⟨callB_of n hw (good_big L.1.1) rfl rfl rfl (hw _ L.1.2.2.1) (hw _ L.1.2.1) L.1.2.2.2 hR, hw _ L.2.1, hw _ L.2.2⟩
    ⟨blind C.2.2.2.2.2.2.2.2.1, by rw [hy]; exact vk_recv (adK := fun i => ad G (200 + i)) (i := i) hX.1 hi hS, fun U hU hW => ⟨rfl, by rw [hU], by rw [hU]; exact hP, va_K.moved hW.alike C.2.2.2.2.2.1, wd_D (C.2.2.2.2.2.2.1 s) (fun _ _ => trivial), C.2.2.2.2.2.2.2.2.1 _ _ _ _ U C.2.2.2.2.2.2.2.2.2 (Or.inl hW) (fun q h1 h2 => by rw [hU]; exact hS.2.1 q h1 h2) (aa_in s C hS.1)⟩⟩ rfl hn hl.1 rfl (lv_room hrm) d C.2.2.2.2.2.2.2.1.2
end STR
def RtN (ty : FieldType) (G : GG) (cc : ByteArray) (r : Int32) (s : St) : Prop := ∀ (pc : Nat) (lv : List (Nat × Value)) (v : Int32), narrow ty (.int v) = .int r → decode cc pc = .ok (.ireturn, 1) → KK SC G pc lv [.int v] s
theorem ct_N {ty : FieldType} {l : Launch} {y : MethodName} {cc : ByteArray} {maxL fr lo : Nat} {av : (Nat → Nat) → List Value} {s s' : St} {r : Int32} (hy : plainName y.cls = true) (hlen : ∀ a, (lg_sl (av a)).length ≤ maxL) (body : Bd SC l cc y.cls maxL fr lo av s (fun G => RtN ty G cc r s')) : CT SC l y cc maxL (some ty) fr lo av s s' (fun _ => some (.int r)) := by
  refine ct_mk okX_C (fun G => RtN ty G cc r s') hy hlen ?_ body
  intro G Qc free C hQ hret hlk hfr hq pc lv v hv d H locs ls hP hS hl
  rw [hQ]
  exact zretN C.1 C.2.1 hret hv (fun t ht _ => hq H locs hP hS t ht) (fun q h => hfr _ (hS.2.2 q h)) d hlk
theorem fs_38 : Cond.fieldLink RJ0 38 "java/lang/String" "COMPACT_STRINGS" "Z" ∈ big := mem_big (mem_t1 (List.mem_of_getElem? (i := 76) (by decide +kernel))) (by decide +kernel)
theorem fs_9 : Cond.fieldLink RJ0 9 "java/lang/String" "value" "[B" ∈ big := mem_big (mem_t7 (List.mem_of_getElem? (i := 239) (by decide +kernel))) (by decide +kernel)
theorem fs_15 : Cond.fieldLink RJ0 15 "java/lang/String" "coder" "B" ∈ big := mem_big (mem_t8 (List.mem_of_getElem? (i := 0) (by decide +kernel))) (by decide +kernel)
theorem fs_1053 : Cond.fieldLink RJ0 1053 "jdk/internal/util/Preconditions" "SIOOBE_FORMATTER" "Ljava/util/function/BiFunction;" ∈ big := mem_big (mem_t1 (List.mem_of_getElem? (i := 92) (by decide +kernel))) (by decide +kernel)
theorem ks_coder : LkV RJ0 335 yJ0_coder_7d493 cJ0_coder_7d493 1 (some .byte) 0 := ⟨⟨mem_big (mem_t1 (List.mem_of_getElem? (i := 75) (by decide +kernel))) (by decide +kernel), mem_big (mem_t1 (List.mem_of_getElem? (i := 72) (by decide +kernel))) (by decide +kernel), mem_big (mem_t1 (List.mem_of_getElem? (i := 4) (by decide +kernel))) (by decide +kernel), by decide +kernel⟩, mem_big (mem_t1 (List.mem_of_getElem? (i := 73) (by decide +kernel))) (by decide +kernel), mem_big (mem_t1 (List.mem_of_getElem? (i := 74) (by decide +kernel))) (by decide +kernel)⟩
theorem ks_lat : LkV RJ0 492 yJ0_isLatin1_aae02 cJ0_isLatin1_aae02 1 (some .boolean) 0 := ⟨⟨mem_big (mem_t1 (List.mem_of_getElem? (i := 85) (by decide +kernel))) (by decide +kernel), mem_big (mem_t1 (List.mem_of_getElem? (i := 82) (by decide +kernel))) (by decide +kernel), mem_big (mem_t1 (List.mem_of_getElem? (i := 4) (by decide +kernel))) (by decide +kernel), by decide +kernel⟩, mem_big (mem_t1 (List.mem_of_getElem? (i := 83) (by decide +kernel))) (by decide +kernel), mem_big (mem_t1 (List.mem_of_getElem? (i := 84) (by decide +kernel))) (by decide +kernel)⟩
theorem ks_l1 : LkS RJ0 495 yJ1_charAt_3b067 cJ1_charAt_3b067 2 (some .char) 2 := ⟨⟨mem_big (mem_t1 (List.mem_of_getElem? (i := 88) (by decide +kernel))) (by decide +kernel), mem_big (mem_t1 (List.mem_of_getElem? (i := 86) (by decide +kernel))) (by decide +kernel), mem_big (mem_t1 (List.mem_of_getElem? (i := 5) (by decide +kernel))) (by decide +kernel), by decide +kernel⟩, mem_big (mem_t1 (List.mem_of_getElem? (i := 87) (by decide +kernel))) (by decide +kernel)⟩
theorem ks_ci : LkS RJ1 9 yJ0_checkIndex_df160 cJ0_checkIndex_df160 2 none 2 := ⟨⟨mem_big (mem_t1 (List.mem_of_getElem? (i := 91) (by decide +kernel))) (by decide +kernel), mem_big (mem_t1 (List.mem_of_getElem? (i := 89) (by decide +kernel))) (by decide +kernel), mem_big (mem_t1 (List.mem_of_getElem? (i := 4) (by decide +kernel))) (by decide +kernel), by decide +kernel⟩, mem_big (mem_t1 (List.mem_of_getElem? (i := 90) (by decide +kernel))) (by decide +kernel)⟩
theorem ks_pc : LkS RJ0 1059 yJ3_checkIndex_8e157 cJ3_checkIndex_8e157 3 (some .int) 3 := ⟨⟨mem_big (mem_t1 (List.mem_of_getElem? (i := 96) (by decide +kernel))) (by decide +kernel), mem_big (mem_t1 (List.mem_of_getElem? (i := 94) (by decide +kernel))) (by decide +kernel), mem_big (mem_t1 (List.mem_of_getElem? (i := 6) (by decide +kernel))) (by decide +kernel), by decide +kernel⟩, mem_big (mem_t1 (List.mem_of_getElem? (i := 95) (by decide +kernel))) (by decide +kernel)⟩
theorem c_coder (l : Launch) {i : Nat} (hi : i < 11) (s : St) : CT SC l yJ0_coder_7d493 cJ0_coder_7d493 1 (some .byte) 0 0 (fun a => [.ref (a (200 + i))]) s s (fun _ => some (.int 0)) :=
  ct_N (by decide) (fun _ => Nat.le_of_ble_eq_true rfl) (fun G hl hR hL C hr => by
    have J : JJ SC G (fun _ : Unit => True) (some ()) 0 [(0, .ref (ad G (200 + i)))] [] s := by
      refine jr_gets C (cs_of C).1 fs_38 dJ0_coder_7d493_0 ?_
      refine jr_if_eq C (tgt := 13) dJ0_coder_7d493_3 (by decide) (fun h => absurd h (by decide)) (fun _ => ?_)
      refine jr_aload_n C 0 rfl rfl dJ0_coder_7d493_6 ?_
      refine jr_getf C (tx_of C hi).1 fs_15 dJ0_coder_7d493_7 ?_
      refine jr_goto C (tgt := 14) dJ0_coder_7d493_10 (by decide) ?_
      exact jr_end (fun _ => hr _ _ _ (by decide) dJ0_coder_7d493_14)
    exact J ⟨(), rfl, trivial⟩)
theorem c_isLatin1 (l : Launch) {i : Nat} (hi : i < 11) (s : St) : CT SC l yJ0_isLatin1_aae02 cJ0_isLatin1_aae02 1 (some .boolean) 0 0 (fun a => [.ref (a (200 + i))]) s s (fun _ => some (.int 1)) :=
  ct_Z okX_C (by decide) (fun _ => Nat.le_of_ble_eq_true rfl) (fun G hl hR hL C hr => by
    have J : JJ SC G (fun _ : Unit => True) (some ()) 0 [(0, .ref (ad G (200 + i)))] [] s := by
      refine jr_gets C (cs_of C).1 fs_38 dJ0_isLatin1_aae02_0 ?_
      refine jr_if_eq C (tgt := 17) dJ0_isLatin1_aae02_3 (by decide) (fun h => absurd h (by decide)) (fun _ => ?_)
      refine jr_aload_n C 0 rfl rfl dJ0_isLatin1_aae02_6 ?_
      refine jr_getf C (tx_of C hi).1 fs_15 dJ0_isLatin1_aae02_7 ?_
      refine jr_if_ne C (tgt := 17) dJ0_isLatin1_aae02_10 (by decide) (fun h => absurd rfl h) (fun _ => ?_)
      refine jr_iconst C ic_1 dJ0_isLatin1_aae02_13 ?_
      refine jr_goto C (tgt := 18) dJ0_isLatin1_aae02_14 (by decide) ?_
      exact jr_end (fun _ => hr _ _ _ bN1 dJ0_isLatin1_aae02_18)
    exact J ⟨(), rfl, trivial⟩)
theorem leS_lt {i : Nat} (hi : i < 11) : leS.getD i 0 < 2 ^ 31 := by
  have h : ∀ i, i < 11 → leS.getD i 0 < 2 ^ 31 := by decide
  exact h i hi
theorem c_length (l : Launch) {i : Nat} (hi : i < 11) (s : St) : CT SC l yJ0_length_8abf5 cJ0_length_8abf5 1 (some .int) 1 40 (fun a => [.ref (a (200 + i))]) s s (fun _ => some (.int (nI (leS.getD i 0)))) :=
  ct_I okX_C (by decide) (fun _ => Nat.le_of_ble_eq_true rfl) (fun G hl hR hL C hr => by
    have J : JJ SC G (fun _ : Unit => True) (some ()) 0 [(0, .ref (ad G (200 + i)))] [] s := by
      refine jr_aload_n C 0 rfl rfl dJ0_length_8abf5_0 ?_
      refine jr_getf C (tx_of C hi).2.1 fs_9 dJ0_length_8abf5_1 ?_
      refine jr_tlen C (tx_of C hi).2.2 rfl dJ0_length_8abf5_4 ?_
      refine jr_aload_n C 0 rfl rfl dJ0_length_8abf5_5 ?_
      refine jr_callT C hi rfl ks_coder (rk hR rfl) (c_coder (gl G) hi s) rfl rfl rfl (Nat.le_of_ble_eq_true rfl) dJ0_length_8abf5_6 ?_
      refine jr_ishr (x := nI (leS.getD i 0)) (y := 0) C dJ0_length_8abf5_9 ?_
      rw [sc_shr0 (leS_lt hi)]
      exact jr_end (fun _ => hr _ _ dJ0_length_8abf5_10)
    exact J ⟨(), rfl, trivial⟩)
theorem c_pre (l : Launch) {i n : Int32} {w : Value} (hw : w = .null ∨ ∃ t, w = .ref t) (h0 : ¬ i < 0) (h1 : i < n) (s : St) : CT SC l yJ3_checkIndex_8e157 cJ3_checkIndex_8e157 3 (some .int) 0 0 (fun _ => [.int i, .int n, w]) s s (fun _ => some (.int i)) := by
  refine ct_I okX_C (by decide) (fun _ => by rcases hw with rfl | ⟨t, rfl⟩ <;> exact Nat.le_of_ble_eq_true rfl) (fun G hl hR hL C hr => ?_)
  have J : JJ SC G (fun _ : Unit => True) (some ()) 0 [(0, .int i), (1, .int n), (2, w)] [] s := by
    refine jr_iload_n C 0 rfl rfl dJ3_checkIndex_8e157_0 ?_
    refine jr_if_lt C (tgt := 9) dJ3_checkIndex_8e157_1 (by decide) (fun h => absurd h h0) (fun _ => ?_)
    refine jr_iload_n C 0 rfl rfl dJ3_checkIndex_8e157_4 ?_
    refine jr_iload_n C 1 rfl rfl dJ3_checkIndex_8e157_5 ?_
    refine jr_icmp_lt C (tgt := 16) dJ3_checkIndex_8e157_6 (by decide) (fun _ => ?_) (fun h => absurd h1 h)
    refine jr_iload_n C 0 rfl rfl dJ3_checkIndex_8e157_16 ?_
    exact jr_end (fun _ => hr _ _ dJ3_checkIndex_8e157_17)
  exact J ⟨(), rfl, trivial⟩
theorem c_check (l : Launch) {i n : Int32} (h0 : ¬ i < 0) (h1 : i < n) (s : St) : CT SC l yJ0_checkIndex_df160 cJ0_checkIndex_df160 2 none 1 22 (fun _ => [.int i, .int n]) s s (fun _ => none) :=
  ct_V okX_C (by decide) (fun _ => Nat.le_of_ble_eq_true rfl) (fun G hl hR hL C hr => by
    have J : JJ SC G (fun _ : Unit => True) (some ()) 0 [(0, .int i), (1, .int n)] [] s := by
      refine jr_iload_n C 0 rfl rfl dJ0_checkIndex_df160_0 ?_
      refine jr_iload_n C 1 rfl rfl dJ0_checkIndex_df160_1 ?_
      have fin : ∀ w : Value, (w = .null ∨ ∃ t, w = .ref t) → JJ SC G (fun _ : Unit => True) (some ()) 5 [(0, .int i), (1, .int n)] [w, .int n, .int i] s := by
        intro w hw
        refine jr_callS C ks_pc (rk hR rfl) (c_pre (gl G) hw h0 h1 s) rfl rfl rfl (Nat.le_of_ble_eq_true rfl) dJ0_checkIndex_df160_5 ?_
        refine jr_pop (va := .int i) C rfl dJ0_checkIndex_df160_8 ?_
        exact jr_end (fun _ => hr _ _ dJ0_checkIndex_df160_9)
      rcases (cs_of C).2 with z | ⟨t, z⟩
      · exact jr_gets C z fs_1053 dJ0_checkIndex_df160_2 (fin _ (Or.inl rfl))
      · exact jr_gets C z fs_1053 dJ0_checkIndex_df160_2 (fin _ (Or.inr ⟨t, rfl⟩))
    exact J ⟨(), rfl, trivial⟩)
theorem vp_in_lt {k : Int32} {N : Nat} (h : vp_in k N) (hN : N < 2 ^ 31) : ¬ k < 0 ∧ k < Int32.ofNat N := by
  refine ⟨fun z => h (Or.inl z), ?_⟩
  obtain ⟨j, hj, rfl⟩ := vp_in_of h hN
  exact nI_lt hj hN
theorem c_l1 (l : Launch) {i : Nat} {k : Int32} (hi : i < 11) (hk : vp_in k (leS.getD i 0)) (s : St) : CT SC l yJ1_charAt_3b067 cJ1_charAt_3b067 2 (some .char) 2 43 (fun a => [.ref (a (300 + i)), .int k]) s s (fun _ => some (.int ((byS.getD i []).getD k.toNatClampNeg 0 &&& 255))) :=
  ct_N (by decide) (fun _ => Nat.le_of_ble_eq_true rfl) (fun G hl hR hL C hr => by
    have J : JJ SC G (fun _ : Unit => True) (some ()) 0 [(0, .ref (ad G (300 + i))), (1, .int k)] [] s := by
      refine jr_iload_n C 1 rfl rfl dJ1_charAt_3b067_0 ?_
      refine jr_aload_n C 0 rfl rfl dJ1_charAt_3b067_1 ?_
      refine jr_tlen C (tx_of C hi).2.2 rfl dJ1_charAt_3b067_2 ?_
      refine jr_callS C ks_ci (rk hR rfl) (c_check (gl G) (vp_in_lt hk (leS_lt hi)).1 (vp_in_lt hk (leS_lt hi)).2 s) rfl rfl rfl (Nat.le_of_ble_eq_true rfl) dJ1_charAt_3b067_3 ?_
      refine jr_aload_n C 0 rfl rfl dJ1_charAt_3b067_6 ?_
      refine jr_iload_n C 1 rfl rfl dJ1_charAt_3b067_7 ?_
      refine jr_tb C (tx_of C hi).2.2 hk rfl dJ1_charAt_3b067_8 ?_
      refine jr_sipush C sp_255 dJ1_charAt_3b067_9 ?_
      refine jr_iand C dJ1_charAt_3b067_12 ?_
      refine jr_i2c C (sc_c2 _) dJ1_charAt_3b067_13 ?_
      exact jr_end (fun _ => hr _ _ _ (sc_nar _) dJ1_charAt_3b067_14)
    exact J ⟨(), rfl, trivial⟩)
theorem c_charAt (l : Launch) {i : Nat} {k : Int32} (hi : i < 11) (hk : vp_in k (leS.getD i 0)) (s : St) : CT SC l yJ0_charAt_5068e cJ0_charAt_5068e 2 (some .char) 4 110 (fun a => [.ref (a (200 + i)), .int k]) s s (fun _ => some (.int ((byS.getD i []).getD k.toNatClampNeg 0 &&& 255))) :=
  ct_N (by decide) (fun _ => Nat.le_of_ble_eq_true rfl) (fun G hl hR hL C hr => by
    have J : JJ SC G (fun _ : Unit => True) (some ()) 0 [(0, .ref (ad G (200 + i))), (1, .int k)] [] s := by
      refine jr_aload_n C 0 rfl rfl dJ0_charAt_5068e_0 ?_
      refine jr_callT C hi rfl ks_lat (rk hR rfl) (c_isLatin1 (gl G) hi s) rfl rfl rfl (Nat.le_of_ble_eq_true rfl) dJ0_charAt_5068e_1 ?_
      refine jr_if_eq (x := 1) C (tgt := 16) dJ0_charAt_5068e_4 (by decide) (fun h => absurd h (by decide)) (fun _ => ?_)
      refine jr_aload_n C 0 rfl rfl dJ0_charAt_5068e_7 ?_
      refine jr_getf C (tx_of C hi).2.1 fs_9 dJ0_charAt_5068e_8 ?_
      refine jr_iload_n C 1 rfl rfl dJ0_charAt_5068e_11 ?_
      refine jr_callS C ks_l1 (rk hR rfl) (c_l1 (gl G) hi hk s) rfl rfl rfl (Nat.le_of_ble_eq_true rfl) dJ0_charAt_5068e_12 ?_
      exact jr_end (fun _ => hr _ _ _ (sc_nar _) dJ0_charAt_5068e_15)
    exact J ⟨(), rfl, trivial⟩)
section STR2
variable {G : GG} {cc : ByteArray} {own : String} {β : Type} {Acc : β → Prop} {o : Option β} {pc index t : Nat} {lv : List (Nat × Value)} {st : List Value} {s : St}
theorem jr_strlen (C : Cx SC G cc own) (ht : isT t) (L : LkV own index yJ0_length_8abf5 cJ0_length_8abf5 1 (some .int) 0) (hR : 1 + 1 ≤ (gR G).frames ∧ 8 + (1 + 11) + 40 ≤ (gR G).locals) (hrm : (st.map fun v => v.category).sum ≤ 8) (d : decode cc pc = .ok (.invokevirtual index, 3)) (kk : JJ SC G Acc o (pc + 3) lv (.int (tl t) :: st) s) : JJ SC G Acc o pc lv (.ref (ad G t) :: st) s := by
  obtain ⟨i, rfl⟩ : ∃ i, t = 200 + i := ⟨t - 200, by omega⟩
  have hi : i < 11 := by omega
  refine jr_callT C hi rfl L hR (c_length (gl G) hi s) rfl rfl rfl hrm d ?_
  have e : tl (200 + i) = nI (leS.getD i 0) := by unfold tl tn; rw [Nat.add_sub_cancel_left]
  rw [e] at kk
  exact kk
theorem jr_charAt (C : Cx SC G cc own) {k : Int32} (ht : isT t ∧ vp_inb k (tn t) = true) (L : LkV own index yJ0_charAt_5068e cJ0_charAt_5068e 2 (some .char) 1) (hR : 4 + 1 ≤ (gR G).frames ∧ 8 + (2 + 11) + 110 ≤ (gR G).locals) (hrm : (st.map fun v => v.category).sum ≤ 8) (d : decode cc pc = .ok (.invokevirtual index, 3)) (kk : JJ SC G Acc o (pc + 3) lv (.int (tc t k) :: st) s) : JJ SC G Acc o pc lv (.int k :: .ref (ad G t) :: st) s := by
  obtain ⟨ht, hk⟩ := ht
  obtain ⟨i, rfl⟩ : ∃ i, t = 200 + i := ⟨t - 200, by omega⟩
  have hi : i < 11 := by omega
  have hk : vp_in k (leS.getD i 0) := by
    have h2 := of_decide_eq_true hk
    unfold tn at h2
    rw [Nat.add_sub_cancel_left] at h2
    exact h2
  refine jr_callT C hi rfl L hR (c_charAt (gl G) hi hk s) rfl rfl rfl hrm d ?_
  have e : tc (200 + i) k = (byS.getD i []).getD k.toNatClampNeg 0 &&& 255 := by unfold tc; rw [Nat.add_sub_cancel_left]
  rw [e] at kk
  exact kk
end STR2
