noncomputable def f_Mo_lateName (v0 : Int32) : Int64 :=
  if v0 = 26 then
  29538
  else if v0 = 27 then
  29544
  else if v0 = 28 then
  29559
  else if v0 = 29 then
  6448497
  else if v0 = 30 then
  6450789
  else if v0 = 31 then
  6450292
  else if v0 = 32 then
  6448997
  else if v0 = 33 then
  1651274869
  else if v0 = 34 then
  1650943349
  else if v0 = 35 then
  6974832
  else if v0 = 36 then
  1667329132
  else if v0 = 37 then
  7497076
  else if v0 = 38 then
  1751215220
  else if v0 = 39 then
  1886745448
  else if v0 = 40 then
  7368560
  else if v0 = 41 then
  7234935
  else if v0 = 42 then
  2053468783
  else if v0 = 43 then
  1735552887
  else if v0 = 44 then
  1718773093
  else if v0 = 45 then
  1668247673
  else if v0 = 46 then
  1718185068
  else if v0 = 47 then
  26990
  else if v0 = 48 then
  7304564
  else if v0 = 49 then
  1835102827
  else 1819242347
set_option maxHeartbeats 4000000 in
set_option maxRecDepth 100000 in
theorem t_Mo_lateName (G : GG) (hR : gR G = rmx 0 0) (hL : gL G = 1) (C : Cx SM G cX12_lateName RX12) {Acc : Int64 → Prop}  (v0 : Int32) (s : St) (hr : ∀ v : Int64, Acc v → RtJ SM G cX12_lateName v s) : JJ SM G Acc (some (f_Mo_lateName v0)) 0 [(0, .int v0)] [] s := by
  unfold f_Mo_lateName
  refine jr_iload_n C 0 rfl rfl dX12_lateName_0 ?_
  refine jo_casesP (fun h1 => ?_) (fun h1 => ?_)
  · refine jr_tabIn C dX12_lateName_1 h1 (by decide) (by decide) rfl (tgt := 112) (by decide) ?_
    refine jr_ldc2 C kl_X12_219 dX12_lateName_112 ?_
    exact jr_end (fun h => hr 29538 h _ _ dX12_lateName_115)
  refine jo_casesP (fun h2 => ?_) (fun h2 => ?_)
  · refine jr_tabIn C dX12_lateName_1 h2 (by decide) (by decide) rfl (tgt := 116) (by decide) ?_
    refine jr_ldc2 C kl_X12_221 dX12_lateName_116 ?_
    exact jr_end (fun h => hr 29544 h _ _ dX12_lateName_119)
  refine jo_casesP (fun h3 => ?_) (fun h3 => ?_)
  · refine jr_tabIn C dX12_lateName_1 h3 (by decide) (by decide) rfl (tgt := 120) (by decide) ?_
    refine jr_ldc2 C kl_X12_223 dX12_lateName_120 ?_
    exact jr_end (fun h => hr 29559 h _ _ dX12_lateName_123)
  refine jo_casesP (fun h4 => ?_) (fun h4 => ?_)
  · refine jr_tabIn C dX12_lateName_1 h4 (by decide) (by decide) rfl (tgt := 124) (by decide) ?_
    refine jr_ldc2 C kl_X12_225 dX12_lateName_124 ?_
    exact jr_end (fun h => hr 6448497 h _ _ dX12_lateName_127)
  refine jo_casesP (fun h5 => ?_) (fun h5 => ?_)
  · refine jr_tabIn C dX12_lateName_1 h5 (by decide) (by decide) rfl (tgt := 128) (by decide) ?_
    refine jr_ldc2 C kl_X12_227 dX12_lateName_128 ?_
    exact jr_end (fun h => hr 6450789 h _ _ dX12_lateName_131)
  refine jo_casesP (fun h6 => ?_) (fun h6 => ?_)
  · refine jr_tabIn C dX12_lateName_1 h6 (by decide) (by decide) rfl (tgt := 132) (by decide) ?_
    refine jr_ldc2 C kl_X12_229 dX12_lateName_132 ?_
    exact jr_end (fun h => hr 6450292 h _ _ dX12_lateName_135)
  refine jo_casesP (fun h7 => ?_) (fun h7 => ?_)
  · refine jr_tabIn C dX12_lateName_1 h7 (by decide) (by decide) rfl (tgt := 136) (by decide) ?_
    refine jr_ldc2 C kl_X12_231 dX12_lateName_136 ?_
    exact jr_end (fun h => hr 6448997 h _ _ dX12_lateName_139)
  refine jo_casesP (fun h8 => ?_) (fun h8 => ?_)
  · refine jr_tabIn C dX12_lateName_1 h8 (by decide) (by decide) rfl (tgt := 140) (by decide) ?_
    refine jr_ldc2 C kl_X12_233 dX12_lateName_140 ?_
    exact jr_end (fun h => hr 1651274869 h _ _ dX12_lateName_143)
  refine jo_casesP (fun h9 => ?_) (fun h9 => ?_)
  · refine jr_tabIn C dX12_lateName_1 h9 (by decide) (by decide) rfl (tgt := 144) (by decide) ?_
    refine jr_ldc2 C kl_X12_235 dX12_lateName_144 ?_
    exact jr_end (fun h => hr 1650943349 h _ _ dX12_lateName_147)
  refine jo_casesP (fun h10 => ?_) (fun h10 => ?_)
  · refine jr_tabIn C dX12_lateName_1 h10 (by decide) (by decide) rfl (tgt := 148) (by decide) ?_
    refine jr_ldc2 C kl_X12_237 dX12_lateName_148 ?_
    exact jr_end (fun h => hr 6974832 h _ _ dX12_lateName_151)
  refine jo_casesP (fun h11 => ?_) (fun h11 => ?_)
  · refine jr_tabIn C dX12_lateName_1 h11 (by decide) (by decide) rfl (tgt := 152) (by decide) ?_
    refine jr_ldc2 C kl_X12_239 dX12_lateName_152 ?_
    exact jr_end (fun h => hr 1667329132 h _ _ dX12_lateName_155)
  refine jo_casesP (fun h12 => ?_) (fun h12 => ?_)
  · refine jr_tabIn C dX12_lateName_1 h12 (by decide) (by decide) rfl (tgt := 156) (by decide) ?_
    refine jr_ldc2 C kl_X12_241 dX12_lateName_156 ?_
    exact jr_end (fun h => hr 7497076 h _ _ dX12_lateName_159)
  refine jo_casesP (fun h13 => ?_) (fun h13 => ?_)
  · refine jr_tabIn C dX12_lateName_1 h13 (by decide) (by decide) rfl (tgt := 160) (by decide) ?_
    refine jr_ldc2 C kl_X12_243 dX12_lateName_160 ?_
    exact jr_end (fun h => hr 1751215220 h _ _ dX12_lateName_163)
  refine jo_casesP (fun h14 => ?_) (fun h14 => ?_)
  · refine jr_tabIn C dX12_lateName_1 h14 (by decide) (by decide) rfl (tgt := 164) (by decide) ?_
    refine jr_ldc2 C kl_X12_245 dX12_lateName_164 ?_
    exact jr_end (fun h => hr 1886745448 h _ _ dX12_lateName_167)
  refine jo_casesP (fun h15 => ?_) (fun h15 => ?_)
  · refine jr_tabIn C dX12_lateName_1 h15 (by decide) (by decide) rfl (tgt := 168) (by decide) ?_
    refine jr_ldc2 C kl_X12_247 dX12_lateName_168 ?_
    exact jr_end (fun h => hr 7368560 h _ _ dX12_lateName_171)
  refine jo_casesP (fun h16 => ?_) (fun h16 => ?_)
  · refine jr_tabIn C dX12_lateName_1 h16 (by decide) (by decide) rfl (tgt := 172) (by decide) ?_
    refine jr_ldc2 C kl_X12_249 dX12_lateName_172 ?_
    exact jr_end (fun h => hr 7234935 h _ _ dX12_lateName_175)
  refine jo_casesP (fun h17 => ?_) (fun h17 => ?_)
  · refine jr_tabIn C dX12_lateName_1 h17 (by decide) (by decide) rfl (tgt := 176) (by decide) ?_
    refine jr_ldc2 C kl_X12_251 dX12_lateName_176 ?_
    exact jr_end (fun h => hr 2053468783 h _ _ dX12_lateName_179)
  refine jo_casesP (fun h18 => ?_) (fun h18 => ?_)
  · refine jr_tabIn C dX12_lateName_1 h18 (by decide) (by decide) rfl (tgt := 180) (by decide) ?_
    refine jr_ldc2 C kl_X12_253 dX12_lateName_180 ?_
    exact jr_end (fun h => hr 1735552887 h _ _ dX12_lateName_183)
  refine jo_casesP (fun h19 => ?_) (fun h19 => ?_)
  · refine jr_tabIn C dX12_lateName_1 h19 (by decide) (by decide) rfl (tgt := 184) (by decide) ?_
    refine jr_ldc2 C kl_X12_255 dX12_lateName_184 ?_
    exact jr_end (fun h => hr 1718773093 h _ _ dX12_lateName_187)
  refine jo_casesP (fun h20 => ?_) (fun h20 => ?_)
  · refine jr_tabIn C dX12_lateName_1 h20 (by decide) (by decide) rfl (tgt := 188) (by decide) ?_
    refine jr_ldc2 C kl_X12_257 dX12_lateName_188 ?_
    exact jr_end (fun h => hr 1668247673 h _ _ dX12_lateName_191)
  refine jo_casesP (fun h21 => ?_) (fun h21 => ?_)
  · refine jr_tabIn C dX12_lateName_1 h21 (by decide) (by decide) rfl (tgt := 192) (by decide) ?_
    refine jr_ldc2 C kl_X12_259 dX12_lateName_192 ?_
    exact jr_end (fun h => hr 1718185068 h _ _ dX12_lateName_195)
  refine jo_casesP (fun h22 => ?_) (fun h22 => ?_)
  · refine jr_tabIn C dX12_lateName_1 h22 (by decide) (by decide) rfl (tgt := 196) (by decide) ?_
    refine jr_ldc2 C kl_X12_261 dX12_lateName_196 ?_
    exact jr_end (fun h => hr 26990 h _ _ dX12_lateName_199)
  refine jo_casesP (fun h23 => ?_) (fun h23 => ?_)
  · refine jr_tabIn C dX12_lateName_1 h23 (by decide) (by decide) rfl (tgt := 200) (by decide) ?_
    refine jr_ldc2 C kl_X12_263 dX12_lateName_200 ?_
    exact jr_end (fun h => hr 7304564 h _ _ dX12_lateName_203)
  refine jo_casesP (fun h24 => ?_) (fun h24 => ?_)
  · refine jr_tabIn C dX12_lateName_1 h24 (by decide) (by decide) rfl (tgt := 204) (by decide) ?_
    refine jr_ldc2 C kl_X12_265 dX12_lateName_204 ?_
    exact jr_end (fun h => hr 1835102827 h _ _ dX12_lateName_207)
  refine jr_tabOut C dX12_lateName_1 (by have e0 := lv_neT h1 (a := 26) (by decide); have e1 := lv_neT h2 (a := 27) (by decide); have e2 := lv_neT h3 (a := 28) (by decide); have e3 := lv_neT h4 (a := 29) (by decide); have e4 := lv_neT h5 (a := 30) (by decide); have e5 := lv_neT h6 (a := 31) (by decide); have e6 := lv_neT h7 (a := 32) (by decide); have e7 := lv_neT h8 (a := 33) (by decide); have e8 := lv_neT h9 (a := 34) (by decide); have e9 := lv_neT h10 (a := 35) (by decide); have e10 := lv_neT h11 (a := 36) (by decide); have e11 := lv_neT h12 (a := 37) (by decide); have e12 := lv_neT h13 (a := 38) (by decide); have e13 := lv_neT h14 (a := 39) (by decide); have e14 := lv_neT h15 (a := 40) (by decide); have e15 := lv_neT h16 (a := 41) (by decide); have e16 := lv_neT h17 (a := 42) (by decide); have e17 := lv_neT h18 (a := 43) (by decide); have e18 := lv_neT h19 (a := 44) (by decide); have e19 := lv_neT h20 (a := 45) (by decide); have e20 := lv_neT h21 (a := 46) (by decide); have e21 := lv_neT h22 (a := 47) (by decide); have e22 := lv_neT h23 (a := 48) (by decide); have e23 := lv_neT h24 (a := 49) (by decide); omega) (tgt := 208) (by decide) ?_
  refine jr_ldc2 C kl_X12_267 dX12_lateName_208 ?_
  exact jr_end (fun h => hr 1819242347 h _ _ dX12_lateName_211)
set_option maxRecDepth 100000 in
theorem c_Mo_lateName (l : Launch)  (v0 : Int32) (s : St) : CT SM l yX12_lateName cX12_lateName 1 (some .long) 0 0 (fun a => [.int v0]) s s (fun _ => some (.long (f_Mo_lateName v0))) :=
  ct_J okX_M (by decide) (fun _ => Nat.le_of_ble_eq_true rfl) (fun G hl hR hL C hr => t_Mo_lateName G hR hL C (Acc := fun v => v = (f_Mo_lateName v0))  v0 s (fun v hv => by rw [hv]; exact hr) ⟨_, rfl, rfl⟩)
noncomputable def f_Mo_name (v0 : Int32) : Int64 :=
  if v0 = 0 then
  27753
  else if v0 = 1 then
  28022
  else if v0 = 2 then
  7237492
  else if v0 = 3 then
  7234919
  else if v0 = 4 then
  6382692
  else if v0 = 5 then
  7566690
  else if v0 = 6 then
  7173484
  else if v0 = 7 then
  6580598
  else if v0 = 8 then
  7497069
  else if v0 = 9 then
  6385252
  else if v0 = 10 then
  28530
  else if v0 = 11 then
  7892850
  else if v0 = 12 then
  7563372
  else if v0 = 13 then
  7563378
  else if v0 = 14 then
  7561586
  else if v0 = 15 then
  25969
  else if v0 = 16 then
  28261
  else if v0 = 17 then
  27764
  else if v0 = 18 then
  7107701
  else if v0 = 19 then
  7567458
  else if v0 = 20 then
  7567464
  else if v0 = 21 then
  27746
  else if v0 = 22 then
  7103093
  else if v0 = 23 then
  27752
  else if v0 = 24 then
  7104629
  else if v0 = 25 then
  27767
  else (f_Mo_lateName v0)
set_option maxHeartbeats 4000000 in
set_option maxRecDepth 100000 in
theorem t_Mo_name (G : GG) (hR : gR G = rmx 1 20) (hL : gL G = 1) (C : Cx SM G cX12_name RX12) {Acc : Int64 → Prop}  (v0 : Int32) (s : St) (hr : ∀ v : Int64, Acc v → RtJ SM G cX12_name v s) : JJ SM G Acc (some (f_Mo_name v0)) 0 [(0, .int v0)] [] s := by
  unfold f_Mo_name
  refine jr_iload_n C 0 rfl rfl dX12_name_0 ?_
  refine jo_casesP (fun h1 => ?_) (fun h1 => ?_)
  · refine jr_tabIn C dX12_name_1 h1 (by decide) (by decide) rfl (tgt := 120) (by decide) ?_
    refine jr_ldc2 C kl_X12_163 dX12_name_120 ?_
    exact jr_end (fun h => hr 27753 h _ _ dX12_name_123)
  refine jo_casesP (fun h2 => ?_) (fun h2 => ?_)
  · refine jr_tabIn C dX12_name_1 h2 (by decide) (by decide) rfl (tgt := 124) (by decide) ?_
    refine jr_ldc2 C kl_X12_165 dX12_name_124 ?_
    exact jr_end (fun h => hr 28022 h _ _ dX12_name_127)
  refine jo_casesP (fun h3 => ?_) (fun h3 => ?_)
  · refine jr_tabIn C dX12_name_1 h3 (by decide) (by decide) rfl (tgt := 128) (by decide) ?_
    refine jr_ldc2 C kl_X12_167 dX12_name_128 ?_
    exact jr_end (fun h => hr 7237492 h _ _ dX12_name_131)
  refine jo_casesP (fun h4 => ?_) (fun h4 => ?_)
  · refine jr_tabIn C dX12_name_1 h4 (by decide) (by decide) rfl (tgt := 132) (by decide) ?_
    refine jr_ldc2 C kl_X12_169 dX12_name_132 ?_
    exact jr_end (fun h => hr 7234919 h _ _ dX12_name_135)
  refine jo_casesP (fun h5 => ?_) (fun h5 => ?_)
  · refine jr_tabIn C dX12_name_1 h5 (by decide) (by decide) rfl (tgt := 136) (by decide) ?_
    refine jr_ldc2 C kl_X12_171 dX12_name_136 ?_
    exact jr_end (fun h => hr 6382692 h _ _ dX12_name_139)
  refine jo_casesP (fun h6 => ?_) (fun h6 => ?_)
  · refine jr_tabIn C dX12_name_1 h6 (by decide) (by decide) rfl (tgt := 140) (by decide) ?_
    refine jr_ldc2 C kl_X12_173 dX12_name_140 ?_
    exact jr_end (fun h => hr 7566690 h _ _ dX12_name_143)
  refine jo_casesP (fun h7 => ?_) (fun h7 => ?_)
  · refine jr_tabIn C dX12_name_1 h7 (by decide) (by decide) rfl (tgt := 144) (by decide) ?_
    refine jr_ldc2 C kl_X12_175 dX12_name_144 ?_
    exact jr_end (fun h => hr 7173484 h _ _ dX12_name_147)
  refine jo_casesP (fun h8 => ?_) (fun h8 => ?_)
  · refine jr_tabIn C dX12_name_1 h8 (by decide) (by decide) rfl (tgt := 148) (by decide) ?_
    refine jr_ldc2 C kl_X12_177 dX12_name_148 ?_
    exact jr_end (fun h => hr 6580598 h _ _ dX12_name_151)
  refine jo_casesP (fun h9 => ?_) (fun h9 => ?_)
  · refine jr_tabIn C dX12_name_1 h9 (by decide) (by decide) rfl (tgt := 152) (by decide) ?_
    refine jr_ldc2 C kl_X12_179 dX12_name_152 ?_
    exact jr_end (fun h => hr 7497069 h _ _ dX12_name_155)
  refine jo_casesP (fun h10 => ?_) (fun h10 => ?_)
  · refine jr_tabIn C dX12_name_1 h10 (by decide) (by decide) rfl (tgt := 156) (by decide) ?_
    refine jr_ldc2 C kl_X12_181 dX12_name_156 ?_
    exact jr_end (fun h => hr 6385252 h _ _ dX12_name_159)
  refine jo_casesP (fun h11 => ?_) (fun h11 => ?_)
  · refine jr_tabIn C dX12_name_1 h11 (by decide) (by decide) rfl (tgt := 160) (by decide) ?_
    refine jr_ldc2 C kl_X12_183 dX12_name_160 ?_
    exact jr_end (fun h => hr 28530 h _ _ dX12_name_163)
  refine jo_casesP (fun h12 => ?_) (fun h12 => ?_)
  · refine jr_tabIn C dX12_name_1 h12 (by decide) (by decide) rfl (tgt := 164) (by decide) ?_
    refine jr_ldc2 C kl_X12_185 dX12_name_164 ?_
    exact jr_end (fun h => hr 7892850 h _ _ dX12_name_167)
  refine jo_casesP (fun h13 => ?_) (fun h13 => ?_)
  · refine jr_tabIn C dX12_name_1 h13 (by decide) (by decide) rfl (tgt := 168) (by decide) ?_
    refine jr_ldc2 C kl_X12_187 dX12_name_168 ?_
    exact jr_end (fun h => hr 7563372 h _ _ dX12_name_171)
  refine jo_casesP (fun h14 => ?_) (fun h14 => ?_)
  · refine jr_tabIn C dX12_name_1 h14 (by decide) (by decide) rfl (tgt := 172) (by decide) ?_
    refine jr_ldc2 C kl_X12_189 dX12_name_172 ?_
    exact jr_end (fun h => hr 7563378 h _ _ dX12_name_175)
  refine jo_casesP (fun h15 => ?_) (fun h15 => ?_)
  · refine jr_tabIn C dX12_name_1 h15 (by decide) (by decide) rfl (tgt := 176) (by decide) ?_
    refine jr_ldc2 C kl_X12_191 dX12_name_176 ?_
    exact jr_end (fun h => hr 7561586 h _ _ dX12_name_179)
  refine jo_casesP (fun h16 => ?_) (fun h16 => ?_)
  · refine jr_tabIn C dX12_name_1 h16 (by decide) (by decide) rfl (tgt := 180) (by decide) ?_
    refine jr_ldc2 C kl_X12_193 dX12_name_180 ?_
    exact jr_end (fun h => hr 25969 h _ _ dX12_name_183)
  refine jo_casesP (fun h17 => ?_) (fun h17 => ?_)
  · refine jr_tabIn C dX12_name_1 h17 (by decide) (by decide) rfl (tgt := 184) (by decide) ?_
    refine jr_ldc2 C kl_X12_195 dX12_name_184 ?_
    exact jr_end (fun h => hr 28261 h _ _ dX12_name_187)
  refine jo_casesP (fun h18 => ?_) (fun h18 => ?_)
  · refine jr_tabIn C dX12_name_1 h18 (by decide) (by decide) rfl (tgt := 188) (by decide) ?_
    refine jr_ldc2 C kl_X12_197 dX12_name_188 ?_
    exact jr_end (fun h => hr 27764 h _ _ dX12_name_191)
  refine jo_casesP (fun h19 => ?_) (fun h19 => ?_)
  · refine jr_tabIn C dX12_name_1 h19 (by decide) (by decide) rfl (tgt := 192) (by decide) ?_
    refine jr_ldc2 C kl_X12_199 dX12_name_192 ?_
    exact jr_end (fun h => hr 7107701 h _ _ dX12_name_195)
  refine jo_casesP (fun h20 => ?_) (fun h20 => ?_)
  · refine jr_tabIn C dX12_name_1 h20 (by decide) (by decide) rfl (tgt := 196) (by decide) ?_
    refine jr_ldc2 C kl_X12_201 dX12_name_196 ?_
    exact jr_end (fun h => hr 7567458 h _ _ dX12_name_199)
  refine jo_casesP (fun h21 => ?_) (fun h21 => ?_)
  · refine jr_tabIn C dX12_name_1 h21 (by decide) (by decide) rfl (tgt := 200) (by decide) ?_
    refine jr_ldc2 C kl_X12_203 dX12_name_200 ?_
    exact jr_end (fun h => hr 7567464 h _ _ dX12_name_203)
  refine jo_casesP (fun h22 => ?_) (fun h22 => ?_)
  · refine jr_tabIn C dX12_name_1 h22 (by decide) (by decide) rfl (tgt := 204) (by decide) ?_
    refine jr_ldc2 C kl_X12_205 dX12_name_204 ?_
    exact jr_end (fun h => hr 27746 h _ _ dX12_name_207)
  refine jo_casesP (fun h23 => ?_) (fun h23 => ?_)
  · refine jr_tabIn C dX12_name_1 h23 (by decide) (by decide) rfl (tgt := 208) (by decide) ?_
    refine jr_ldc2 C kl_X12_207 dX12_name_208 ?_
    exact jr_end (fun h => hr 7103093 h _ _ dX12_name_211)
  refine jo_casesP (fun h24 => ?_) (fun h24 => ?_)
  · refine jr_tabIn C dX12_name_1 h24 (by decide) (by decide) rfl (tgt := 212) (by decide) ?_
    refine jr_ldc2 C kl_X12_209 dX12_name_212 ?_
    exact jr_end (fun h => hr 27752 h _ _ dX12_name_215)
  refine jo_casesP (fun h25 => ?_) (fun h25 => ?_)
  · refine jr_tabIn C dX12_name_1 h25 (by decide) (by decide) rfl (tgt := 216) (by decide) ?_
    refine jr_ldc2 C kl_X12_211 dX12_name_216 ?_
    exact jr_end (fun h => hr 7104629 h _ _ dX12_name_219)
  refine jo_casesP (fun h26 => ?_) (fun h26 => ?_)
  · refine jr_tabIn C dX12_name_1 h26 (by decide) (by decide) rfl (tgt := 220) (by decide) ?_
    refine jr_ldc2 C kl_X12_213 dX12_name_220 ?_
    exact jr_end (fun h => hr 27767 h _ _ dX12_name_223)
  refine jr_tabOut C dX12_name_1 (by have e0 := lv_neT h1 (a := 0) (by decide); have e1 := lv_neT h2 (a := 1) (by decide); have e2 := lv_neT h3 (a := 2) (by decide); have e3 := lv_neT h4 (a := 3) (by decide); have e4 := lv_neT h5 (a := 4) (by decide); have e5 := lv_neT h6 (a := 5) (by decide); have e6 := lv_neT h7 (a := 6) (by decide); have e7 := lv_neT h8 (a := 7) (by decide); have e8 := lv_neT h9 (a := 8) (by decide); have e9 := lv_neT h10 (a := 9) (by decide); have e10 := lv_neT h11 (a := 10) (by decide); have e11 := lv_neT h12 (a := 11) (by decide); have e12 := lv_neT h13 (a := 12) (by decide); have e13 := lv_neT h14 (a := 13) (by decide); have e14 := lv_neT h15 (a := 14) (by decide); have e15 := lv_neT h16 (a := 15) (by decide); have e16 := lv_neT h17 (a := 16) (by decide); have e17 := lv_neT h18 (a := 17) (by decide); have e18 := lv_neT h19 (a := 18) (by decide); have e19 := lv_neT h20 (a := 19) (by decide); have e20 := lv_neT h21 (a := 20) (by decide); have e21 := lv_neT h22 (a := 21) (by decide); have e22 := lv_neT h23 (a := 22) (by decide); have e23 := lv_neT h24 (a := 23) (by decide); have e24 := lv_neT h25 (a := 24) (by decide); have e25 := lv_neT h26 (a := 25) (by decide); omega) (tgt := 224) (by decide) ?_
  refine jr_iload_n C 0 rfl rfl dX12_name_224 ?_
  refine jr_callSJ C km_X12_215 (rk hR rfl) (c_Mo_lateName (gl G) v0 s) rfl rfl rfl (Nat.le_of_ble_eq_true rfl) dX12_name_225 ?_
  exact jr_end (fun h => hr (f_Mo_lateName v0) h _ _ dX12_name_228)
set_option maxRecDepth 100000 in
theorem c_Mo_name (l : Launch)  (v0 : Int32) (s : St) : CT SM l yX12_name cX12_name 1 (some .long) 1 20 (fun a => [.int v0]) s s (fun _ => some (.long (f_Mo_name v0))) :=
  ct_J okX_M (by decide) (fun _ => Nat.le_of_ble_eq_true rfl) (fun G hl hR hL C hr => t_Mo_name G hR hL C (Acc := fun v => v = (f_Mo_name v0))  v0 s (fun v hv => by rw [hv]; exact hr) ⟨_, rfl, rfl⟩)
noncomputable def f_Mo_form (v0 : Int32) : Int32 :=
  if v0 = 0 then
  18
  else
  if v0 < 4 then
  17
  else
  if v0 = 19 then
  17
  else
  if v0 = 20 then
  17
  else
  if 19 ≤ v0 then
  (if 29 ≤ v0 then
  (if 35 ≤ v0 then
  (if 37 ≤ v0 then
  (if 39 ≤ v0 then
  (if v0 = 39 then
  1
  else
  if v0 = 40 then
  1
  else
  if v0 = 44 then
  1
  else
  if v0 = 47 then
  1
  else
  if v0 = 48 then
  1
  else
  if v0 = 41 then
  19
  else
  if v0 = 42 then
  19
  else
  if v0 = 49 then
  306
  else
  275)
  else
  0)
  else
  4)
  else
  308)
  else
  274)
  else
  275
set_option maxHeartbeats 4000000 in
set_option maxRecDepth 100000 in
theorem t_Mo_form (G : GG) (hR : gR G = rmx 0 0) (hL : gL G = 1) (C : Cx SM G cX12_form RX12) {Acc : Int32 → Prop}  (v0 : Int32) (s : St) (hr : ∀ v : Int32, Acc v → RtI SM G cX12_form v s) : JJ SM G Acc (some (f_Mo_form v0)) 0 [(0, .int v0)] [] s := by
  unfold f_Mo_form
  refine jr_iload_n C 0 rfl rfl dX12_form_0 ?_
  refine jr_if_ne C (tgt := 7) dX12_form_1 (by decide) (fun h1 => ?_) (fun h1 => ?_)
  · refine jo_negP h1 ?_
    refine jr_iload_n C 0 rfl rfl dX12_form_7 ?_
    refine jr_iconst C ic_4 dX12_form_8 ?_
    refine jr_icmp_lt C (tgt := 24) dX12_form_9 (by decide) (fun h2 => ?_) (fun h2 => ?_)
    · refine jo_posP h2 ?_
      refine jr_bipush C bp_17 dX12_form_24 ?_
      exact jr_end (fun h => hr 17 h _ _ dX12_form_26)
    refine jo_negP h2 ?_
    refine jr_iload_n C 0 rfl rfl dX12_form_12 ?_
    refine jr_bipush C bp_19 dX12_form_13 ?_
    refine jr_icmp_eq C (tgt := 24) dX12_form_15 (by decide) (fun h3 => ?_) (fun h3 => ?_)
    · refine jo_posP h3 ?_
      refine jr_bipush C bp_17 dX12_form_24 ?_
      exact jr_end (fun h => hr 17 h _ _ dX12_form_26)
    refine jo_negP h3 ?_
    refine jr_iload_n C 0 rfl rfl dX12_form_18 ?_
    refine jr_bipush C bp_20 dX12_form_19 ?_
    refine jr_icmp_ne C (tgt := 27) dX12_form_21 (by decide) (fun h4 => ?_) (fun h4 => ?_)
    · refine jo_negP h4 ?_
      refine jr_iload_n C 0 rfl rfl dX12_form_27 ?_
      refine jr_bipush C bp_19 dX12_form_28 ?_
      refine jr_icmp_ge C (tgt := 37) dX12_form_30 (by decide) (fun h5 => ?_) (fun h5 => ?_)
      · refine jo_posP h5 ?_
        refine jr_iload_n C 0 rfl rfl dX12_form_37 ?_
        refine jr_bipush C bp_29 dX12_form_38 ?_
        refine jr_icmp_ge C (tgt := 47) dX12_form_40 (by decide) (fun h6 => ?_) (fun h6 => ?_)
        · refine jo_posP h6 ?_
          refine jr_iload_n C 0 rfl rfl dX12_form_47 ?_
          refine jr_bipush C bp_35 dX12_form_48 ?_
          refine jr_icmp_ge C (tgt := 57) dX12_form_50 (by decide) (fun h7 => ?_) (fun h7 => ?_)
          · refine jo_posP h7 ?_
            refine jr_iload_n C 0 rfl rfl dX12_form_57 ?_
            refine jr_bipush C bp_37 dX12_form_58 ?_
            refine jr_icmp_ge C (tgt := 65) dX12_form_60 (by decide) (fun h8 => ?_) (fun h8 => ?_)
            · refine jo_posP h8 ?_
              refine jr_iload_n C 0 rfl rfl dX12_form_65 ?_
              refine jr_bipush C bp_39 dX12_form_66 ?_
              refine jr_icmp_ge C (tgt := 73) dX12_form_68 (by decide) (fun h9 => ?_) (fun h9 => ?_)
              · refine jo_posP h9 ?_
                refine jr_iload_n C 0 rfl rfl dX12_form_73 ?_
                refine jr_bipush C bp_39 dX12_form_74 ?_
                refine jr_icmp_eq C (tgt := 103) dX12_form_76 (by decide) (fun h10 => ?_) (fun h10 => ?_)
                · refine jo_posP h10 ?_
                  refine jr_iconst C ic_1 dX12_form_103 ?_
                  exact jr_end (fun h => hr 1 h _ _ dX12_form_104)
                refine jo_negP h10 ?_
                refine jr_iload_n C 0 rfl rfl dX12_form_79 ?_
                refine jr_bipush C bp_40 dX12_form_80 ?_
                refine jr_icmp_eq C (tgt := 103) dX12_form_82 (by decide) (fun h11 => ?_) (fun h11 => ?_)
                · refine jo_posP h11 ?_
                  refine jr_iconst C ic_1 dX12_form_103 ?_
                  exact jr_end (fun h => hr 1 h _ _ dX12_form_104)
                refine jo_negP h11 ?_
                refine jr_iload_n C 0 rfl rfl dX12_form_85 ?_
                refine jr_bipush C bp_44 dX12_form_86 ?_
                refine jr_icmp_eq C (tgt := 103) dX12_form_88 (by decide) (fun h12 => ?_) (fun h12 => ?_)
                · refine jo_posP h12 ?_
                  refine jr_iconst C ic_1 dX12_form_103 ?_
                  exact jr_end (fun h => hr 1 h _ _ dX12_form_104)
                refine jo_negP h12 ?_
                refine jr_iload_n C 0 rfl rfl dX12_form_91 ?_
                refine jr_bipush C bp_47 dX12_form_92 ?_
                refine jr_icmp_eq C (tgt := 103) dX12_form_94 (by decide) (fun h13 => ?_) (fun h13 => ?_)
                · refine jo_posP h13 ?_
                  refine jr_iconst C ic_1 dX12_form_103 ?_
                  exact jr_end (fun h => hr 1 h _ _ dX12_form_104)
                refine jo_negP h13 ?_
                refine jr_iload_n C 0 rfl rfl dX12_form_97 ?_
                refine jr_bipush C bp_48 dX12_form_98 ?_
                refine jr_icmp_ne C (tgt := 105) dX12_form_100 (by decide) (fun h14 => ?_) (fun h14 => ?_)
                · refine jo_negP h14 ?_
                  refine jr_iload_n C 0 rfl rfl dX12_form_105 ?_
                  refine jr_bipush C bp_41 dX12_form_106 ?_
                  refine jr_icmp_eq C (tgt := 117) dX12_form_108 (by decide) (fun h15 => ?_) (fun h15 => ?_)
                  · refine jo_posP h15 ?_
                    refine jr_bipush C bp_19 dX12_form_117 ?_
                    exact jr_end (fun h => hr 19 h _ _ dX12_form_119)
                  refine jo_negP h15 ?_
                  refine jr_iload_n C 0 rfl rfl dX12_form_111 ?_
                  refine jr_bipush C bp_42 dX12_form_112 ?_
                  refine jr_icmp_ne C (tgt := 120) dX12_form_114 (by decide) (fun h16 => ?_) (fun h16 => ?_)
                  · refine jo_negP h16 ?_
                    refine jr_iload_n C 0 rfl rfl dX12_form_120 ?_
                    refine jr_bipush C bp_49 dX12_form_121 ?_
                    refine jr_icmp_ne C (tgt := 132) dX12_form_123 (by decide) (fun h17 => ?_) (fun h17 => ?_)
                    · refine jo_negP h17 ?_
                      refine jr_sipush C sp_275 dX12_form_132 ?_
                      exact jr_end (fun h => hr 275 h _ _ dX12_form_135)
                    refine jo_posP h17 ?_
                    refine jr_sipush C sp_306 dX12_form_126 ?_
                    refine jr_goto C (tgt := 135) dX12_form_129 (by decide) ?_
                    exact jr_end (fun h => hr 306 h _ _ dX12_form_135)
                  refine jo_posP h16 ?_
                  refine jr_bipush C bp_19 dX12_form_117 ?_
                  exact jr_end (fun h => hr 19 h _ _ dX12_form_119)
                refine jo_posP h14 ?_
                refine jr_iconst C ic_1 dX12_form_103 ?_
                exact jr_end (fun h => hr 1 h _ _ dX12_form_104)
              refine jo_negP h9 ?_
              refine jr_iconst C ic_0 dX12_form_71 ?_
              exact jr_end (fun h => hr 0 h _ _ dX12_form_72)
            refine jo_negP h8 ?_
            refine jr_iconst C ic_4 dX12_form_63 ?_
            exact jr_end (fun h => hr 4 h _ _ dX12_form_64)
          refine jo_negP h7 ?_
          refine jr_sipush C sp_308 dX12_form_53 ?_
          exact jr_end (fun h => hr 308 h _ _ dX12_form_56)
        refine jo_negP h6 ?_
        refine jr_sipush C sp_274 dX12_form_43 ?_
        exact jr_end (fun h => hr 274 h _ _ dX12_form_46)
      refine jo_negP h5 ?_
      refine jr_sipush C sp_275 dX12_form_33 ?_
      exact jr_end (fun h => hr 275 h _ _ dX12_form_36)
    refine jo_posP h4 ?_
    refine jr_bipush C bp_17 dX12_form_24 ?_
    exact jr_end (fun h => hr 17 h _ _ dX12_form_26)
  refine jo_posP h1 ?_
  refine jr_bipush C bp_18 dX12_form_4 ?_
  exact jr_end (fun h => hr 18 h _ _ dX12_form_6)
set_option maxRecDepth 100000 in
theorem c_Mo_form (l : Launch)  (v0 : Int32) (s : St) : CT SM l yX12_form cX12_form 1 (some .int) 0 0 (fun a => [.int v0]) s s (fun _ => some (.int (f_Mo_form v0))) :=
  ct_I okX_M (by decide) (fun _ => Nat.le_of_ble_eq_true rfl) (fun G hl hR hL C hr => t_Mo_form G hR hL C (Acc := fun v => v = (f_Mo_form v0))  v0 s (fun v hv => by rw [hv]; exact hr) ⟨_, rfl, rfl⟩)
noncomputable def f_Mo_sign (v1 : Int32) (s : St) : Option Int32 :=
  if (s.1 0 3) ≤ v1 then
  some 10
  else
  gd v1 3000 <|
  some ((s.1 2 (v1 : Int32).toNatClampNeg) &&& 255)
set_option maxHeartbeats 4000000 in
set_option maxRecDepth 100000 in
theorem t_Mo_sign (G : GG) (hR : gR G = rmx 0 0) (hL : gL G = 2) (C : Cx SM G cX12_sign RX12) {Acc : Int32 → Prop}  (v1 : Int32) (s : St) (hr : ∀ v : Int32, Acc v → RtI SM G cX12_sign v s) : JJ SM G Acc (f_Mo_sign v1 s) 0 [(0, .ref (ad G 0)), (1, .int v1)] [] s := by
  unfold f_Mo_sign
  refine jr_iload_n C 1 rfl rfl dX12_sign_0 ?_
  refine jr_aload_n C 0 rfl rfl dX12_sign_1 ?_
  refine jr_getI C FX_10 3 oS_0.1 oS_0.2 ff_10_3.1 ff_10_3.2 fl_X12_269 dX12_sign_2 ?_
  refine jr_icmp_ge C (tgt := 21) dX12_sign_5 (by decide) (fun h1 => ?_) (fun h1 => ?_)
  · refine jo_pos h1 ?_
    refine jr_bipush C bp_10 dX12_sign_21 ?_
    exact jr_end (fun h => hr 10 h _ _ dX12_sign_23)
  refine jo_neg h1 ?_
  refine jr_aload_n C 0 rfl rfl dX12_sign_8 ?_
  refine jr_getR C FX_10 2 oS_0.1 oS_0.2 ff_10_2.1 ff_10_2.2 rfl fl_X12_13 dX12_sign_9 ?_
  refine jr_iload_n C 1 rfl rfl dX12_sign_12 ?_
  refine jr_bald C oS_2.1 oS_2.2.1 oS_2.2.2 dX12_sign_13 ?_
  refine jr_sipush C sp_255 dX12_sign_14 ?_
  refine jr_iand C dX12_sign_17 ?_
  refine jr_goto C (tgt := 23) dX12_sign_18 (by decide) ?_
  exact jr_end (fun h => hr ((s.1 2 (v1 : Int32).toNatClampNeg) &&& 255) h _ _ dX12_sign_23)
set_option maxRecDepth 100000 in
theorem c_Mo_sign (l : Launch)  (v1 : Int32) (s : St) {q : Int32} (h : f_Mo_sign v1 s = some q) : CT SM l yX12_sign cX12_sign 2 (some .int) 0 0 (fun a => [.ref (a 0), .int v1]) s s (fun _ => some (.int q)) :=
  ct_I okX_M (by decide) (fun _ => Nat.le_of_ble_eq_true rfl) (fun G hl hR hL C hr => t_Mo_sign G hR hL C (Acc := fun v => v = q)  v1 s (fun v hv => by rw [hv]; exact hr) ⟨_, h, rfl⟩)
noncomputable def f_Mo_fails (v1 : Int32) (v2 : Int32) (s : St) : Option (Int32 × St) :=
  if (s.1 0 20) = 0 then
  (lt (uI s 0 20 v1) fun s2 =>
  lt (uI s2 0 21 v2) fun s3 =>
  lt (uI s3 0 22 (s3.1 0 23)) fun s4 =>
  some (0, s4))
  else
  some (0, s)
set_option maxHeartbeats 4000000 in
set_option maxRecDepth 100000 in
theorem t_Mo_fails (G : GG) (hR : gR G = rmx 0 0) (hL : gL G = 3) (C : Cx SM G cX12_fails RX12) {Acc : (Int32 × St) → Prop}  (v1 : Int32) (v2 : Int32) (s : St) (hr : ∀ v : (Int32 × St), Acc v → RtZ SM G cX12_fails v.1 v.2) : JJ SM G Acc (f_Mo_fails v1 v2 s) 0 [(0, .ref (ad G 0)), (1, .int v1), (2, .int v2)] [] s := by
  unfold f_Mo_fails
  refine jr_aload_n C 0 rfl rfl dX12_fails_0 ?_
  refine jr_getI C FX_10 20 oS_0.1 oS_0.2 ff_10_20.1 ff_10_20.2 fl_X12_272 dX12_fails_1 ?_
  refine jr_if_ne C (tgt := 25) dX12_fails_4 (by decide) (fun h1 => ?_) (fun h1 => ?_)
  · refine jo_neg h1 ?_
    refine jr_iconst C ic_0 dX12_fails_25 ?_
    exact jr_end (fun h => hr (0, s) h _ _ _ bN0 dX12_fails_26)
  refine jo_pos h1 ?_
  refine jr_aload_n C 0 rfl rfl dX12_fails_7 ?_
  refine jr_iload_n C 1 rfl rfl dX12_fails_8 ?_
  refine jr_putI C FX_10 20 oS_0.1 oS_0.2 ff_10_20.1 ff_10_20.2 rfl rfl fl_X12_272 dX12_fails_9 (jr_ltS fun s2 => ?_)
  refine jr_aload_n C 0 rfl rfl dX12_fails_12 ?_
  refine jr_iload_n C 2 rfl rfl dX12_fails_13 ?_
  refine jr_putI C FX_10 21 oS_0.1 oS_0.2 ff_10_21.1 ff_10_21.2 rfl rfl fl_X12_48 dX12_fails_14 (jr_ltS fun s3 => ?_)
  refine jr_aload_n C 0 rfl rfl dX12_fails_17 ?_
  refine jr_aload_n C 0 rfl rfl dX12_fails_18 ?_
  refine jr_getI C FX_10 23 oS_0.1 oS_0.2 ff_10_23.1 ff_10_23.2 fl_X12_275 dX12_fails_19 ?_
  refine jr_putI C FX_10 22 oS_0.1 oS_0.2 ff_10_22.1 ff_10_22.2 rfl rfl fl_X12_52 dX12_fails_22 (jr_ltS fun s4 => ?_)
  refine jr_iconst C ic_0 dX12_fails_25 ?_
  exact jr_end (fun h => hr (0, s4) h _ _ _ bN0 dX12_fails_26)
set_option maxRecDepth 100000 in
theorem c_Mo_fails (l : Launch)  (v1 : Int32) (v2 : Int32) (s : St) {q : (Int32 × St)} (h : f_Mo_fails v1 v2 s = some q) : CT SM l yX12_fails cX12_fails 3 (some .boolean) 0 0 (fun a => [.ref (a 0), .int v1, .int v2]) s q.2 (fun _ => some (.int q.1)) :=
  ct_Z okX_M (by decide) (fun _ => Nat.le_of_ble_eq_true rfl) (fun G hl hR hL C hr => t_Mo_fails G hR hL C (Acc := fun v => v = q)  v1 v2 s (fun v hv => by rw [hv]; exact hr) ⟨_, h, rfl⟩)
noncomputable def f_Mo_isLetter (v0 : Int32) : Int32 :=
  if v0 < 97 then
  0
  else
  if 122 < v0 then
  0
  else
  1
set_option maxHeartbeats 4000000 in
set_option maxRecDepth 100000 in
theorem t_Mo_isLetter (G : GG) (hR : gR G = rmx 0 0) (hL : gL G = 1) (C : Cx SM G cX12_isLetter RX12) {Acc : Int32 → Prop}  (v0 : Int32) (s : St) (hr : ∀ v : Int32, Acc v → RtZ SM G cX12_isLetter v s) : JJ SM G Acc (some (f_Mo_isLetter v0)) 0 [(0, .int v0)] [] s := by
  unfold f_Mo_isLetter
  refine jr_iload_n C 0 rfl rfl dX12_isLetter_0 ?_
  refine jr_bipush C bp_97 dX12_isLetter_1 ?_
  refine jr_icmp_lt C (tgt := 16) dX12_isLetter_3 (by decide) (fun h1 => ?_) (fun h1 => ?_)
  · refine jo_posP h1 ?_
    refine jr_iconst C ic_0 dX12_isLetter_16 ?_
    exact jr_end (fun h => hr 0 h _ _ _ bN0 dX12_isLetter_17)
  refine jo_negP h1 ?_
  refine jr_iload_n C 0 rfl rfl dX12_isLetter_6 ?_
  refine jr_bipush C bp_122 dX12_isLetter_7 ?_
  refine jr_icmp_gt C (tgt := 16) dX12_isLetter_9 (by decide) (fun h2 => ?_) (fun h2 => ?_)
  · refine jo_posP h2 ?_
    refine jr_iconst C ic_0 dX12_isLetter_16 ?_
    exact jr_end (fun h => hr 0 h _ _ _ bN0 dX12_isLetter_17)
  refine jo_negP h2 ?_
  refine jr_iconst C ic_1 dX12_isLetter_12 ?_
  refine jr_goto C (tgt := 17) dX12_isLetter_13 (by decide) ?_
  exact jr_end (fun h => hr 1 h _ _ _ bN1 dX12_isLetter_17)
set_option maxRecDepth 100000 in
theorem c_Mo_isLetter (l : Launch)  (v0 : Int32) (s : St) : CT SM l yX12_isLetter cX12_isLetter 1 (some .boolean) 0 0 (fun a => [.int v0]) s s (fun _ => some (.int (f_Mo_isLetter v0))) :=
  ct_Z okX_M (by decide) (fun _ => Nat.le_of_ble_eq_true rfl) (fun G hl hR hL C hr => t_Mo_isLetter G hR hL C (Acc := fun v => v = (f_Mo_isLetter v0))  v0 s (fun v hv => by rw [hv]; exact hr) ⟨_, rfl, rfl⟩)
noncomputable def f_Mo_isDigit (v0 : Int32) : Int32 :=
  if v0 < 48 then
  0
  else
  if 57 < v0 then
  0
  else
  1
set_option maxHeartbeats 4000000 in
set_option maxRecDepth 100000 in
theorem t_Mo_isDigit (G : GG) (hR : gR G = rmx 0 0) (hL : gL G = 1) (C : Cx SM G cX12_isDigit RX12) {Acc : Int32 → Prop}  (v0 : Int32) (s : St) (hr : ∀ v : Int32, Acc v → RtZ SM G cX12_isDigit v s) : JJ SM G Acc (some (f_Mo_isDigit v0)) 0 [(0, .int v0)] [] s := by
  unfold f_Mo_isDigit
  refine jr_iload_n C 0 rfl rfl dX12_isDigit_0 ?_
  refine jr_bipush C bp_48 dX12_isDigit_1 ?_
  refine jr_icmp_lt C (tgt := 16) dX12_isDigit_3 (by decide) (fun h1 => ?_) (fun h1 => ?_)
  · refine jo_posP h1 ?_
    refine jr_iconst C ic_0 dX12_isDigit_16 ?_
    exact jr_end (fun h => hr 0 h _ _ _ bN0 dX12_isDigit_17)
  refine jo_negP h1 ?_
  refine jr_iload_n C 0 rfl rfl dX12_isDigit_6 ?_
  refine jr_bipush C bp_57 dX12_isDigit_7 ?_
  refine jr_icmp_gt C (tgt := 16) dX12_isDigit_9 (by decide) (fun h2 => ?_) (fun h2 => ?_)
  · refine jo_posP h2 ?_
    refine jr_iconst C ic_0 dX12_isDigit_16 ?_
    exact jr_end (fun h => hr 0 h _ _ _ bN0 dX12_isDigit_17)
  refine jo_negP h2 ?_
  refine jr_iconst C ic_1 dX12_isDigit_12 ?_
  refine jr_goto C (tgt := 17) dX12_isDigit_13 (by decide) ?_
  exact jr_end (fun h => hr 1 h _ _ _ bN1 dX12_isDigit_17)
set_option maxRecDepth 100000 in
theorem c_Mo_isDigit (l : Launch)  (v0 : Int32) (s : St) : CT SM l yX12_isDigit cX12_isDigit 1 (some .boolean) 0 0 (fun a => [.int v0]) s s (fun _ => some (.int (f_Mo_isDigit v0))) :=
  ct_Z okX_M (by decide) (fun _ => Nat.le_of_ble_eq_true rfl) (fun G hl hR hL C hr => t_Mo_isDigit G hR hL C (Acc := fun v => v = (f_Mo_isDigit v0))  v0 s (fun v hv => by rw [hv]; exact hr) ⟨_, rfl, rfl⟩)
noncomputable def f_Mo_isWordSign (v0 : Int32) : Int32 :=
  if (f_Mo_isLetter v0) = 0 then
  (if (f_Mo_isDigit v0) = 0 then
  0
  else
  1)
  else
  1
set_option maxHeartbeats 4000000 in
set_option maxRecDepth 100000 in
theorem t_Mo_isWordSign (G : GG) (hR : gR G = rmx 1 20) (hL : gL G = 1) (C : Cx SM G cX12_isWordSign RX12) {Acc : Int32 → Prop}  (v0 : Int32) (s : St) (hr : ∀ v : Int32, Acc v → RtZ SM G cX12_isWordSign v s) : JJ SM G Acc (some (f_Mo_isWordSign v0)) 0 [(0, .int v0)] [] s := by
  unfold f_Mo_isWordSign
  refine jr_iload_n C 0 rfl rfl dX12_isWordSign_0 ?_
  refine jr_callSI C km_X12_278 (rk hR rfl) (c_Mo_isLetter (gl G) v0 s) rfl rfl rfl (Nat.le_of_ble_eq_true rfl) dX12_isWordSign_1 ?_
  refine jr_if_ne C (tgt := 14) dX12_isWordSign_4 (by decide) (fun h1 => ?_) (fun h1 => ?_)
  · refine jo_negP h1 ?_
    refine jr_iconst C ic_1 dX12_isWordSign_14 ?_
    refine jr_goto C (tgt := 19) dX12_isWordSign_15 (by decide) ?_
    exact jr_end (fun h => hr 1 h _ _ _ bN1 dX12_isWordSign_19)
  refine jo_posP h1 ?_
  refine jr_iload_n C 0 rfl rfl dX12_isWordSign_7 ?_
  refine jr_callSI C km_X12_282 (rk hR rfl) (c_Mo_isDigit (gl G) v0 s) rfl rfl rfl (Nat.le_of_ble_eq_true rfl) dX12_isWordSign_8 ?_
  refine jr_if_eq C (tgt := 18) dX12_isWordSign_11 (by decide) (fun h2 => ?_) (fun h2 => ?_)
  · refine jo_posP h2 ?_
    refine jr_iconst C ic_0 dX12_isWordSign_18 ?_
    exact jr_end (fun h => hr 0 h _ _ _ bN0 dX12_isWordSign_19)
  refine jo_negP h2 ?_
  refine jr_iconst C ic_1 dX12_isWordSign_14 ?_
  refine jr_goto C (tgt := 19) dX12_isWordSign_15 (by decide) ?_
  exact jr_end (fun h => hr 1 h _ _ _ bN1 dX12_isWordSign_19)
set_option maxRecDepth 100000 in
theorem c_Mo_isWordSign (l : Launch)  (v0 : Int32) (s : St) : CT SM l yX12_isWordSign cX12_isWordSign 1 (some .boolean) 1 20 (fun a => [.int v0]) s s (fun _ => some (.int (f_Mo_isWordSign v0))) :=
  ct_Z okX_M (by decide) (fun _ => Nat.le_of_ble_eq_true rfl) (fun G hl hR hL C hr => t_Mo_isWordSign G hR hL C (Acc := fun v => v = (f_Mo_isWordSign v0))  v0 s (fun v hv => by rw [hv]; exact hr) ⟨_, rfl, rfl⟩)
noncomputable def f_Mo_nextNumber_J235_1 (v1 : Int32) (v2 : Int32) (v3 : Int64) (s : St) : Option ((Int64 × St) ⊕ (Int64 × St)) :=
  lt (uI s 0 26 ((s.1 0 26) + 1)) fun s8 =>
  some (.inl (v3, s8))
set_option maxHeartbeats 4000000 in
set_option maxRecDepth 100000 in
theorem t_Mo_nextNumber_J235_1 (G : GG) (hR : gR G = rmx 2 40) (hL : gL G = 7) (C : Cx SM G cX12_nextNumber RX12) {Acc : ((Int64 × St) ⊕ (Int64 × St)) → Prop}  (v1 : Int32) (v2 : Int32) (v3 : Int64) (s : St) (hb1 : ∀ (a3 : Int64) (t : St), Acc (.inl (a3, t)) → KK SM G 190 [(0, .ref (ad G 0)), (1, .int v1), (2, .int v2), (3, .long a3)] [] t) (hx1 : ∀ (a3 : Int64) (t : St), Acc (.inr (a3, t)) → KK SM G 248 [(0, .ref (ad G 0)), (1, .int v1), (2, .int v2), (3, .long a3)] [] t) : JJ SM G Acc (f_Mo_nextNumber_J235_1 v1 v2 v3 s) 235 [(0, .ref (ad G 0)), (1, .int v1), (2, .int v2), (3, .long v3)] [] s := by
  unfold f_Mo_nextNumber_J235_1
  refine jr_aload_n C 0 rfl rfl dX12_nextNumber_235 ?_
  refine jr_dup C rfl dX12_nextNumber_236 ?_
  refine jr_getI C FX_10 26 oS_0.1 oS_0.2 ff_10_26.1 ff_10_26.2 fl_X12_285 dX12_nextNumber_237 ?_
  refine jr_iconst C ic_1 dX12_nextNumber_240 ?_
  refine jr_iadd C dX12_nextNumber_241 ?_
  refine jr_putI C FX_10 26 oS_0.1 oS_0.2 ff_10_26.1 ff_10_26.2 rfl rfl fl_X12_285 dX12_nextNumber_242 (jr_ltS fun s8 => ?_)
  refine jr_goto C (tgt := 190) dX12_nextNumber_245 (by decide) ?_
  exact jr_end (fun h => hb1 v3 s8 h)
noncomputable def f_Mo_nextNumber_L190 (v1 : Int32) (v2 : Int32) (v3 : Int64) (s : St) : Option ((Int64 × St) ⊕ (Int64 × St)) :=
  (f_Mo_sign (s.1 0 26) s).bind fun q4 =>
  if (f_Mo_isDigit q4) = 0 then
  some (.inr (v3, s))
  else
  if 10 ≤ ((s.1 0 26) - v2) then
  f_Mo_nextNumber_J235_1 v1 v2 v3 s
  else
  (f_Mo_sign (s.1 0 26) s).bind fun q9 =>
  lt (((10 * v3) + (q9 : Int32).toInt64) - 48) fun x11 =>
  f_Mo_nextNumber_J235_1 v1 v2 x11 s
set_option maxHeartbeats 4000000 in
set_option maxRecDepth 100000 in
theorem t_Mo_nextNumber_L190 (G : GG) (hR : gR G = rmx 2 40) (hL : gL G = 7) (C : Cx SM G cX12_nextNumber RX12) {Acc : ((Int64 × St) ⊕ (Int64 × St)) → Prop}  (v1 : Int32) (v2 : Int32) (v3 : Int64) (s : St) (hb1 : ∀ (a3 : Int64) (t : St), Acc (.inl (a3, t)) → KK SM G 190 [(0, .ref (ad G 0)), (1, .int v1), (2, .int v2), (3, .long a3)] [] t) (hx1 : ∀ (a3 : Int64) (t : St), Acc (.inr (a3, t)) → KK SM G 248 [(0, .ref (ad G 0)), (1, .int v1), (2, .int v2), (3, .long a3)] [] t) : JJ SM G Acc (f_Mo_nextNumber_L190 v1 v2 v3 s) 190 [(0, .ref (ad G 0)), (1, .int v1), (2, .int v2), (3, .long v3)] [] s := by
  unfold f_Mo_nextNumber_L190
  refine jr_aload_n C 0 rfl rfl dX12_nextNumber_190 ?_
  refine jr_aload_n C 0 rfl rfl dX12_nextNumber_191 ?_
  refine jr_getI C FX_10 26 oS_0.1 oS_0.2 ff_10_26.1 ff_10_26.2 fl_X12_285 dX12_nextNumber_192 ?_
  refine jr_bind (fun q4 e5 => ?_)
  refine jr_callVI C FX_10 km_X12_291 oS_0.1 oS_0.2 (rk hR rfl) (c_Mo_sign (gl G) (s.1 0 26) s e5) rfl rfl rfl (Nat.le_of_ble_eq_true rfl) dX12_nextNumber_195 ?_
  refine jr_callSI C km_X12_282 (rk hR rfl) (c_Mo_isDigit (gl G) q4 s) rfl rfl rfl (Nat.le_of_ble_eq_true rfl) dX12_nextNumber_198 ?_
  refine jr_if_eq C (tgt := 248) dX12_nextNumber_201 (by decide) (fun h6 => ?_) (fun h6 => ?_)
  · refine jo_pos h6 ?_
    exact jr_end (fun h => hx1 v3 s h)
  refine jo_neg h6 ?_
  refine jr_aload_n C 0 rfl rfl dX12_nextNumber_204 ?_
  refine jr_getI C FX_10 26 oS_0.1 oS_0.2 ff_10_26.1 ff_10_26.2 fl_X12_285 dX12_nextNumber_205 ?_
  refine jr_iload_n C 2 rfl rfl dX12_nextNumber_208 ?_
  refine jr_isub C dX12_nextNumber_209 ?_
  refine jr_bipush C bp_10 dX12_nextNumber_210 ?_
  refine jr_icmp_ge C (tgt := 235) dX12_nextNumber_212 (by decide) (fun h7 => ?_) (fun h7 => ?_)
  · refine jo_pos h7 ?_
    exact t_Mo_nextNumber_J235_1 G hR hL C  v1 v2 v3 s hb1 hx1
  refine jo_neg h7 ?_
  refine jr_ldc2 C kl_X12_305 dX12_nextNumber_215 ?_
  refine jr_lload_n C 3 rfl rfl dX12_nextNumber_218 ?_
  refine jr_lmul C dX12_nextNumber_219 ?_
  refine jr_aload_n C 0 rfl rfl dX12_nextNumber_220 ?_
  refine jr_aload_n C 0 rfl rfl dX12_nextNumber_221 ?_
  refine jr_getI C FX_10 26 oS_0.1 oS_0.2 ff_10_26.1 ff_10_26.2 fl_X12_285 dX12_nextNumber_222 ?_
  refine jr_bind (fun q9 e10 => ?_)
  refine jr_callVI C FX_10 km_X12_291 oS_0.1 oS_0.2 (rk hR rfl) (c_Mo_sign (gl G) (s.1 0 26) s e10) rfl rfl rfl (Nat.le_of_ble_eq_true rfl) dX12_nextNumber_225 ?_
  refine jr_i2l C dX12_nextNumber_228 ?_
  refine jr_ladd C dX12_nextNumber_229 ?_
  refine jr_ldc2 C kl_X12_307 dX12_nextNumber_230 ?_
  refine jr_lsub C dX12_nextNumber_233 ?_
  refine jr_ltJ (fun x11 => ?_)
  refine jr_lstore_n C (lv' := [(3, .long x11), (0, .ref (ad G 0)), (1, .int v1), (2, .int v2)]) (ltL hL rfl) rfl rfl dX12_nextNumber_234 ?_
  refine jr_lv [1, 2, 3, 0] rfl ?_
  exact t_Mo_nextNumber_J235_1 G hR hL C  v1 v2 x11 s hb1 hx1
noncomputable def f_Mo_nextNumber_J374 (w0 : Int64) (s : St) : Option St :=
  lt (uI s 0 27 ((w0 : Int64).toInt32)) fun s20 =>
  some s20
set_option maxHeartbeats 4000000 in
set_option maxRecDepth 100000 in
theorem t_Mo_nextNumber_J374 (G : GG) (hR : gR G = rmx 2 40) (hL : gL G = 7) (C : Cx SM G cX12_nextNumber RX12) {Acc : St → Prop}  (w0 : Int64) (s : St) (hr : ∀ v : St, Acc v → RtV SM G cX12_nextNumber v) : JJ SM G Acc (f_Mo_nextNumber_J374 w0 s) 374 [] [.long w0, .ref (ad G 0)] s := by
  unfold f_Mo_nextNumber_J374
  refine jr_l2i C dX12_nextNumber_374 ?_
  refine jr_putI C FX_10 27 oS_0.1 oS_0.2 ff_10_27.1 ff_10_27.2 rfl rfl fl_X12_313 dX12_nextNumber_375 (jr_ltS fun s20 => ?_)
  exact jr_end (fun h => hr s20 h _ _ dX12_nextNumber_378)
noncomputable def f_Mo_nextNumber_J360 (v1 : Int32) (v3 : Int64) (w0 : Int32) (s : St) : Option St :=
  lt (uI s 0 24 w0) fun s18 =>
  if v1 = 0 then
  f_Mo_nextNumber_J374 v3 s18
  else
  f_Mo_nextNumber_J374 (-v3) s18
set_option maxHeartbeats 4000000 in
set_option maxRecDepth 100000 in
theorem t_Mo_nextNumber_J360 (G : GG) (hR : gR G = rmx 2 40) (hL : gL G = 7) (C : Cx SM G cX12_nextNumber RX12) {Acc : St → Prop}  (v1 : Int32) (v3 : Int64) (w0 : Int32) (s : St) (hr : ∀ v : St, Acc v → RtV SM G cX12_nextNumber v) : JJ SM G Acc (f_Mo_nextNumber_J360 v1 v3 w0 s) 360 [(0, .ref (ad G 0)), (1, .int v1), (3, .long v3)] [.int w0, .ref (ad G 0)] s := by
  unfold f_Mo_nextNumber_J360
  refine jr_putI C FX_10 24 oS_0.1 oS_0.2 ff_10_24.1 ff_10_24.2 rfl rfl fl_X12_295 dX12_nextNumber_360 (jr_ltS fun s18 => ?_)
  refine jr_aload_n C 0 rfl rfl dX12_nextNumber_363 ?_
  refine jr_iload_n C 1 rfl rfl dX12_nextNumber_364 ?_
  refine jr_if_eq C (tgt := 373) dX12_nextNumber_365 (by decide) (fun h19 => ?_) (fun h19 => ?_)
  · refine jo_pos h19 ?_
    refine jr_lload_n C 2 rfl rfl dX12_nextNumber_373 ?_
    refine jr_lv [] rfl ?_
    exact t_Mo_nextNumber_J374 G hR hL C  v3 s18 hr
  refine jo_neg h19 ?_
  refine jr_lload_n C 2 rfl rfl dX12_nextNumber_368 ?_
  refine jr_lneg C dX12_nextNumber_369 ?_
  refine jr_goto C (tgt := 374) dX12_nextNumber_370 (by decide) ?_
  refine jr_lv [] rfl ?_
  exact t_Mo_nextNumber_J374 G hR hL C  (-v3) s18 hr
noncomputable def f_Mo_nextNumber_J359 (v1 : Int32) (v3 : Int64) (s : St) : Option St :=
  f_Mo_nextNumber_J360 v1 v3 1 s
set_option maxHeartbeats 4000000 in
set_option maxRecDepth 100000 in
theorem t_Mo_nextNumber_J359 (G : GG) (hR : gR G = rmx 2 40) (hL : gL G = 7) (C : Cx SM G cX12_nextNumber RX12) {Acc : St → Prop}  (v1 : Int32) (v3 : Int64) (s : St) (hr : ∀ v : St, Acc v → RtV SM G cX12_nextNumber v) : JJ SM G Acc (f_Mo_nextNumber_J359 v1 v3 s) 359 [(0, .ref (ad G 0)), (1, .int v1), (3, .long v3)] [.ref (ad G 0)] s := by
  unfold f_Mo_nextNumber_J359
  refine jr_iconst C ic_1 dX12_nextNumber_359 ?_
  exact t_Mo_nextNumber_J360 G hR hL C  v1 v3 1 s hr
noncomputable def f_Mo_nextNumber_J342 (v1 : Int32) (v3 : Int64) (v5 : Int32) (w0 : Int32) (s : St) : Option St :=
  if v5 = 0 then
  f_Mo_nextNumber_J359 v1 v3 s
  else
  if w0 = 0 then
  f_Mo_nextNumber_J359 v1 v3 s
  else
  f_Mo_nextNumber_J360 v1 v3 3 s
set_option maxHeartbeats 4000000 in
set_option maxRecDepth 100000 in
theorem t_Mo_nextNumber_J342 (G : GG) (hR : gR G = rmx 2 40) (hL : gL G = 7) (C : Cx SM G cX12_nextNumber RX12) {Acc : St → Prop}  (v1 : Int32) (v3 : Int64) (v5 : Int32) (w0 : Int32) (s : St) (hr : ∀ v : St, Acc v → RtV SM G cX12_nextNumber v) : JJ SM G Acc (f_Mo_nextNumber_J342 v1 v3 v5 w0 s) 342 [(0, .ref (ad G 0)), (1, .int v1), (3, .long v3), (5, .int v5)] [.int w0] s := by
  unfold f_Mo_nextNumber_J342
  refine jr_istore C (lv' := [(6, .int w0), (0, .ref (ad G 0)), (1, .int v1), (3, .long v3), (5, .int v5)]) (ltL hL rfl) rfl dX12_nextNumber_342 ?_
  refine jr_aload_n C 1 rfl rfl dX12_nextNumber_344 ?_
  refine jr_iload C 4 rfl dX12_nextNumber_345 ?_
  refine jr_if_eq C (tgt := 359) dX12_nextNumber_347 (by decide) (fun h17 => ?_) (fun h17 => ?_)
  · refine jo_pos h17 ?_
    refine jr_lv [1, 2, 3] rfl ?_
    exact t_Mo_nextNumber_J359 G hR hL C  v1 v3 s hr
  refine jo_neg h17 ?_
  refine jr_iload C 0 rfl dX12_nextNumber_350 ?_
  refine jr_if_eq C (tgt := 359) dX12_nextNumber_352 (by decide) (fun h21 => ?_) (fun h21 => ?_)
  · refine jo_pos h21 ?_
    refine jr_lv [1, 2, 3] rfl ?_
    exact t_Mo_nextNumber_J359 G hR hL C  v1 v3 s hr
  refine jo_neg h21 ?_
  refine jr_iconst C ic_3 dX12_nextNumber_355 ?_
  refine jr_goto C (tgt := 360) dX12_nextNumber_356 (by decide) ?_
  refine jr_lv [1, 2, 3] rfl ?_
  exact t_Mo_nextNumber_J360 G hR hL C  v1 v3 3 s hr
noncomputable def f_Mo_nextNumber_J341 (v1 : Int32) (v3 : Int64) (v5 : Int32) (s : St) : Option St :=
  f_Mo_nextNumber_J342 v1 v3 v5 0 s
set_option maxHeartbeats 4000000 in
set_option maxRecDepth 100000 in
theorem t_Mo_nextNumber_J341 (G : GG) (hR : gR G = rmx 2 40) (hL : gL G = 7) (C : Cx SM G cX12_nextNumber RX12) {Acc : St → Prop}  (v1 : Int32) (v3 : Int64) (v5 : Int32) (s : St) (hr : ∀ v : St, Acc v → RtV SM G cX12_nextNumber v) : JJ SM G Acc (f_Mo_nextNumber_J341 v1 v3 v5 s) 341 [(0, .ref (ad G 0)), (1, .int v1), (3, .long v3), (5, .int v5)] [] s := by
  unfold f_Mo_nextNumber_J341
  refine jr_iconst C ic_0 dX12_nextNumber_341 ?_
  exact t_Mo_nextNumber_J342 G hR hL C  v1 v3 v5 0 s hr
noncomputable def f_Mo_nextNumber_J337 (v1 : Int32) (v3 : Int64) (v5 : Int32) (s : St) : Option St :=
  f_Mo_nextNumber_J342 v1 v3 v5 1 s
set_option maxHeartbeats 4000000 in
set_option maxRecDepth 100000 in
theorem t_Mo_nextNumber_J337 (G : GG) (hR : gR G = rmx 2 40) (hL : gL G = 7) (C : Cx SM G cX12_nextNumber RX12) {Acc : St → Prop}  (v1 : Int32) (v3 : Int64) (v5 : Int32) (s : St) (hr : ∀ v : St, Acc v → RtV SM G cX12_nextNumber v) : JJ SM G Acc (f_Mo_nextNumber_J337 v1 v3 v5 s) 337 [(0, .ref (ad G 0)), (1, .int v1), (3, .long v3), (5, .int v5)] [] s := by
  unfold f_Mo_nextNumber_J337
  refine jr_iconst C ic_1 dX12_nextNumber_337 ?_
  refine jr_goto C (tgt := 342) dX12_nextNumber_338 (by decide) ?_
  exact t_Mo_nextNumber_J342 G hR hL C  v1 v3 v5 1 s hr
noncomputable def f_Mo_nextNumber_J297 (v1 : Int32) (v3 : Int64) (v5 : Int32) (s : St) : Option St :=
  (f_Mo_sign (s.1 0 26) s).bind fun q14 =>
  if (f_Mo_isWordSign q14) = 0 then
  ((f_Mo_sign (s.1 0 26) s).bind fun q22 =>
  if q22 < 65 then
  f_Mo_nextNumber_J337 v1 v3 v5 s
  else
  (f_Mo_sign (s.1 0 26) s).bind fun q25 =>
  if q25 ≤ 90 then
  f_Mo_nextNumber_J341 v1 v3 v5 s
  else
  f_Mo_nextNumber_J337 v1 v3 v5 s)
  else
  f_Mo_nextNumber_J341 v1 v3 v5 s
set_option maxHeartbeats 4000000 in
set_option maxRecDepth 100000 in
theorem t_Mo_nextNumber_J297 (G : GG) (hR : gR G = rmx 2 40) (hL : gL G = 7) (C : Cx SM G cX12_nextNumber RX12) {Acc : St → Prop}  (v1 : Int32) (v3 : Int64) (v5 : Int32) (s : St) (hr : ∀ v : St, Acc v → RtV SM G cX12_nextNumber v) : JJ SM G Acc (f_Mo_nextNumber_J297 v1 v3 v5 s) 297 [(0, .ref (ad G 0)), (1, .int v1), (3, .long v3), (5, .int v5)] [] s := by
  unfold f_Mo_nextNumber_J297
  refine jr_aload_n C 0 rfl rfl dX12_nextNumber_297 ?_
  refine jr_aload_n C 0 rfl rfl dX12_nextNumber_298 ?_
  refine jr_getI C FX_10 26 oS_0.1 oS_0.2 ff_10_26.1 ff_10_26.2 fl_X12_285 dX12_nextNumber_299 ?_
  refine jr_bind (fun q14 e15 => ?_)
  refine jr_callVI C FX_10 km_X12_291 oS_0.1 oS_0.2 (rk hR rfl) (c_Mo_sign (gl G) (s.1 0 26) s e15) rfl rfl rfl (Nat.le_of_ble_eq_true rfl) dX12_nextNumber_302 ?_
  refine jr_callSI C km_X12_298 (rk hR rfl) (c_Mo_isWordSign (gl G) q14 s) rfl rfl rfl (Nat.le_of_ble_eq_true rfl) dX12_nextNumber_305 ?_
  refine jr_if_ne C (tgt := 341) dX12_nextNumber_308 (by decide) (fun h16 => ?_) (fun h16 => ?_)
  · refine jo_neg h16 ?_
    exact t_Mo_nextNumber_J341 G hR hL C  v1 v3 v5 s hr
  refine jo_pos h16 ?_
  refine jr_aload_n C 0 rfl rfl dX12_nextNumber_311 ?_
  refine jr_aload_n C 0 rfl rfl dX12_nextNumber_312 ?_
  refine jr_getI C FX_10 26 oS_0.1 oS_0.2 ff_10_26.1 ff_10_26.2 fl_X12_285 dX12_nextNumber_313 ?_
  refine jr_bind (fun q22 e23 => ?_)
  refine jr_callVI C FX_10 km_X12_291 oS_0.1 oS_0.2 (rk hR rfl) (c_Mo_sign (gl G) (s.1 0 26) s e23) rfl rfl rfl (Nat.le_of_ble_eq_true rfl) dX12_nextNumber_316 ?_
  refine jr_bipush C bp_65 dX12_nextNumber_319 ?_
  refine jr_icmp_lt C (tgt := 337) dX12_nextNumber_321 (by decide) (fun h24 => ?_) (fun h24 => ?_)
  · refine jo_pos h24 ?_
    exact t_Mo_nextNumber_J337 G hR hL C  v1 v3 v5 s hr
  refine jo_neg h24 ?_
  refine jr_aload_n C 0 rfl rfl dX12_nextNumber_324 ?_
  refine jr_aload_n C 0 rfl rfl dX12_nextNumber_325 ?_
  refine jr_getI C FX_10 26 oS_0.1 oS_0.2 ff_10_26.1 ff_10_26.2 fl_X12_285 dX12_nextNumber_326 ?_
  refine jr_bind (fun q25 e26 => ?_)
  refine jr_callVI C FX_10 km_X12_291 oS_0.1 oS_0.2 (rk hR rfl) (c_Mo_sign (gl G) (s.1 0 26) s e26) rfl rfl rfl (Nat.le_of_ble_eq_true rfl) dX12_nextNumber_329 ?_
  refine jr_bipush C bp_90 dX12_nextNumber_332 ?_
  refine jr_icmp_le C (tgt := 341) dX12_nextNumber_334 (by decide) (fun h27 => ?_) (fun h27 => ?_)
  · refine jo_pos h27 ?_
    exact t_Mo_nextNumber_J341 G hR hL C  v1 v3 v5 s hr
  refine jo_neg h27 ?_
  exact t_Mo_nextNumber_J337 G hR hL C  v1 v3 v5 s hr
noncomputable def f_Mo_nextNumber_J295 (v1 : Int32) (v3 : Int64) (w0 : Int32) (s : St) : Option St :=
  f_Mo_nextNumber_J297 v1 v3 w0 s
set_option maxHeartbeats 4000000 in
set_option maxRecDepth 100000 in
theorem t_Mo_nextNumber_J295 (G : GG) (hR : gR G = rmx 2 40) (hL : gL G = 7) (C : Cx SM G cX12_nextNumber RX12) {Acc : St → Prop}  (v1 : Int32) (v3 : Int64) (w0 : Int32) (s : St) (hr : ∀ v : St, Acc v → RtV SM G cX12_nextNumber v) : JJ SM G Acc (f_Mo_nextNumber_J295 v1 v3 w0 s) 295 [(0, .ref (ad G 0)), (1, .int v1), (3, .long v3)] [.int w0] s := by
  unfold f_Mo_nextNumber_J295
  refine jr_istore C (lv' := [(5, .int w0), (0, .ref (ad G 0)), (1, .int v1), (3, .long v3)]) (ltL hL rfl) rfl dX12_nextNumber_295 ?_
  refine jr_lv [1, 2, 3, 0] rfl ?_
  exact t_Mo_nextNumber_J297 G hR hL C  v1 v3 w0 s hr
noncomputable def f_Mo_nextNumber_J294 (v1 : Int32) (v3 : Int64) (s : St) : Option St :=
  f_Mo_nextNumber_J295 v1 v3 0 s
set_option maxHeartbeats 4000000 in
set_option maxRecDepth 100000 in
theorem t_Mo_nextNumber_J294 (G : GG) (hR : gR G = rmx 2 40) (hL : gL G = 7) (C : Cx SM G cX12_nextNumber RX12) {Acc : St → Prop}  (v1 : Int32) (v3 : Int64) (s : St) (hr : ∀ v : St, Acc v → RtV SM G cX12_nextNumber v) : JJ SM G Acc (f_Mo_nextNumber_J294 v1 v3 s) 294 [(0, .ref (ad G 0)), (1, .int v1), (3, .long v3)] [] s := by
  unfold f_Mo_nextNumber_J294
  refine jr_iconst C ic_0 dX12_nextNumber_294 ?_
  exact t_Mo_nextNumber_J295 G hR hL C  v1 v3 0 s hr
noncomputable def f_Mo_nextNumber_J290 (v1 : Int32) (v3 : Int64) (s : St) : Option St :=
  f_Mo_nextNumber_J295 v1 v3 1 s
set_option maxHeartbeats 4000000 in
set_option maxRecDepth 100000 in
theorem t_Mo_nextNumber_J290 (G : GG) (hR : gR G = rmx 2 40) (hL : gL G = 7) (C : Cx SM G cX12_nextNumber RX12) {Acc : St → Prop}  (v1 : Int32) (v3 : Int64) (s : St) (hr : ∀ v : St, Acc v → RtV SM G cX12_nextNumber v) : JJ SM G Acc (f_Mo_nextNumber_J290 v1 v3 s) 290 [(0, .ref (ad G 0)), (1, .int v1), (3, .long v3)] [] s := by
  unfold f_Mo_nextNumber_J290
  refine jr_iconst C ic_1 dX12_nextNumber_290 ?_
  refine jr_goto C (tgt := 295) dX12_nextNumber_291 (by decide) ?_
  exact t_Mo_nextNumber_J295 G hR hL C  v1 v3 1 s hr
noncomputable def f_Mo_nextNumber_J190 (v1 : Int32) (v2 : Int32) (v3 : Int64) (s : St) : Option St :=
  (wh (fun a : (Int64 × St) => f_Mo_nextNumber_L190 v1 v2 a.1 a.2) (v3, s)).bind (fun b12 =>
  if (b12.2.1 0 26) ≤ v2 then
  f_Mo_nextNumber_J294 v1 (b12.1) (b12.2)
  else
  if 10 < ((b12.2.1 0 26) - v2) then
  f_Mo_nextNumber_J294 v1 (b12.1) (b12.2)
  else
  if v1 = 0 then
  (if 0 < (lg_cmp (b12.1) 4294967295) then
  f_Mo_nextNumber_J294 v1 (b12.1) (b12.2)
  else
  f_Mo_nextNumber_J290 v1 (b12.1) (b12.2))
  else
  if 0 < (lg_cmp (b12.1) 2147483648) then
  f_Mo_nextNumber_J294 v1 (b12.1) (b12.2)
  else
  f_Mo_nextNumber_J290 v1 (b12.1) (b12.2))
set_option maxHeartbeats 4000000 in
set_option maxRecDepth 100000 in
theorem t_Mo_nextNumber_J190 (G : GG) (hR : gR G = rmx 2 40) (hL : gL G = 7) (C : Cx SM G cX12_nextNumber RX12) {Acc : St → Prop}  (v1 : Int32) (v2 : Int32) (v3 : Int64) (s : St) (hr : ∀ v : St, Acc v → RtV SM G cX12_nextNumber v) : JJ SM G Acc (f_Mo_nextNumber_J190 v1 v2 v3 s) 190 [(0, .ref (ad G 0)), (1, .int v1), (2, .int v2), (3, .long v3)] [] s := by
  unfold f_Mo_nextNumber_J190
  refine jr_loopB (pc := 190) (pcx := 248) (f := fun a : (Int64 × St) => f_Mo_nextNumber_L190 v1 v2 a.1 a.2) (fun a : (Int64 × St) => [(0, .ref (ad G 0)), (1, .int v1), (2, .int v2), (3, .long (a.1))]) (fun a : (Int64 × St) => a.2) (v3, s) (fun a => t_Mo_nextNumber_L190 G hR hL C  v1 v2 a.1 a.2 (fun _ _ h => h) (fun _ _ h => h)) (fun b12 => ?_)
  refine jr_aload_n C 0 rfl rfl dX12_nextNumber_248 ?_
  refine jr_getI C FX_10 26 oS_0.1 oS_0.2 ff_10_26.1 ff_10_26.2 fl_X12_285 dX12_nextNumber_249 ?_
  refine jr_iload_n C 2 rfl rfl dX12_nextNumber_252 ?_
  refine jr_icmp_le C (tgt := 294) dX12_nextNumber_253 (by decide) (fun h13 => ?_) (fun h13 => ?_)
  · refine jo_pos h13 ?_
    refine jr_lv [0, 1, 3] rfl ?_
    exact t_Mo_nextNumber_J294 G hR hL C  v1 (b12.1) (b12.2) hr
  refine jo_neg h13 ?_
  refine jr_aload_n C 0 rfl rfl dX12_nextNumber_256 ?_
  refine jr_getI C FX_10 26 oS_0.1 oS_0.2 ff_10_26.1 ff_10_26.2 fl_X12_285 dX12_nextNumber_257 ?_
  refine jr_iload_n C 2 rfl rfl dX12_nextNumber_260 ?_
  refine jr_isub C dX12_nextNumber_261 ?_
  refine jr_bipush C bp_10 dX12_nextNumber_262 ?_
  refine jr_icmp_gt C (tgt := 294) dX12_nextNumber_264 (by decide) (fun h28 => ?_) (fun h28 => ?_)
  · refine jo_pos h28 ?_
    refine jr_lv [0, 1, 3] rfl ?_
    exact t_Mo_nextNumber_J294 G hR hL C  v1 (b12.1) (b12.2) hr
  refine jo_neg h28 ?_
  refine jr_iload_n C 1 rfl rfl dX12_nextNumber_267 ?_
  refine jr_if_eq C (tgt := 282) dX12_nextNumber_268 (by decide) (fun h29 => ?_) (fun h29 => ?_)
  · refine jo_pos h29 ?_
    refine jr_lload_n C 3 rfl rfl dX12_nextNumber_282 ?_
    refine jr_ldc2 C kl_X12_311 dX12_nextNumber_283 ?_
    refine jr_lcmp C dX12_nextNumber_286 ?_
    refine jr_if_gt C (tgt := 294) dX12_nextNumber_287 (by decide) (fun h30 => ?_) (fun h30 => ?_)
    · refine jo_pos h30 ?_
      refine jr_lv [0, 1, 3] rfl ?_
      exact t_Mo_nextNumber_J294 G hR hL C  v1 (b12.1) (b12.2) hr
    refine jo_neg h30 ?_
    refine jr_lv [0, 1, 3] rfl ?_
    exact t_Mo_nextNumber_J290 G hR hL C  v1 (b12.1) (b12.2) hr
  refine jo_neg h29 ?_
  refine jr_lload_n C 3 rfl rfl dX12_nextNumber_271 ?_
  refine jr_ldc2 C kl_X12_309 dX12_nextNumber_272 ?_
  refine jr_lcmp C dX12_nextNumber_275 ?_
  refine jr_if_gt C (tgt := 294) dX12_nextNumber_276 (by decide) (fun h31 => ?_) (fun h31 => ?_)
  · refine jo_pos h31 ?_
    refine jr_lv [0, 1, 3] rfl ?_
    exact t_Mo_nextNumber_J294 G hR hL C  v1 (b12.1) (b12.2) hr
  refine jo_neg h31 ?_
  refine jr_goto C (tgt := 290) dX12_nextNumber_279 (by decide) ?_
  refine jr_lv [0, 1, 3] rfl ?_
  exact t_Mo_nextNumber_J290 G hR hL C  v1 (b12.1) (b12.2) hr
noncomputable def f_Mo_nextNumber_J143_1 (v1 : Int32) (v2 : Int32) (w0 : Int32) (w1 : Int64) (s : St) : Option ((Int64 × St) ⊕ (Int64 × St)) :=
  lt (w1 ||| (w0 : Int32).toInt64) fun x47 =>
  lt (uI s 0 26 ((s.1 0 26) + 1)) fun s48 =>
  some (.inl (x47, s48))
set_option maxHeartbeats 4000000 in
set_option maxRecDepth 100000 in
theorem t_Mo_nextNumber_J143_1 (G : GG) (hR : gR G = rmx 2 40) (hL : gL G = 7) (C : Cx SM G cX12_nextNumber RX12) {Acc : ((Int64 × St) ⊕ (Int64 × St)) → Prop}  (v1 : Int32) (v2 : Int32) (w0 : Int32) (w1 : Int64) (s : St) (hb1 : ∀ (a3 : Int64) (t : St), Acc (.inl (a3, t)) → KK SM G 61 [(0, .ref (ad G 0)), (1, .int v1), (2, .int v2), (3, .long a3)] [] t) (hx1 : ∀ (a3 : Int64) (t : St), Acc (.inr (a3, t)) → KK SM G 159 [(0, .ref (ad G 0)), (1, .int v1), (2, .int v2), (3, .long a3)] [] t) : JJ SM G Acc (f_Mo_nextNumber_J143_1 v1 v2 w0 w1 s) 143 [(0, .ref (ad G 0)), (1, .int v1), (2, .int v2)] [.int w0, .long w1] s := by
  unfold f_Mo_nextNumber_J143_1
  refine jr_i2l C dX12_nextNumber_143 ?_
  refine jr_lor C dX12_nextNumber_144 ?_
  refine jr_ltJ (fun x47 => ?_)
  refine jr_lstore_n C (lv' := [(3, .long x47), (0, .ref (ad G 0)), (1, .int v1), (2, .int v2)]) (ltL hL rfl) rfl rfl dX12_nextNumber_145 ?_
  refine jr_aload_n C 1 rfl rfl dX12_nextNumber_146 ?_
  refine jr_dup C rfl dX12_nextNumber_147 ?_
  refine jr_getI C FX_10 26 oS_0.1 oS_0.2 ff_10_26.1 ff_10_26.2 fl_X12_285 dX12_nextNumber_148 ?_
  refine jr_iconst C ic_1 dX12_nextNumber_151 ?_
  refine jr_iadd C dX12_nextNumber_152 ?_
  refine jr_putI C FX_10 26 oS_0.1 oS_0.2 ff_10_26.1 ff_10_26.2 rfl rfl fl_X12_285 dX12_nextNumber_153 (jr_ltS fun s48 => ?_)
  refine jr_goto C (tgt := 61) dX12_nextNumber_156 (by decide) ?_
  refine jr_lv [1, 2, 3, 0] rfl ?_
  exact jr_end (fun h => hb1 x47 s48 h)
noncomputable def f_Mo_nextNumber_J101_1 (v1 : Int32) (v2 : Int32) (v3 : Int64) (s : St) : Option ((Int64 × St) ⊕ (Int64 × St)) :=
  (f_Mo_sign (s.1 0 26) s).bind fun q42 =>
  if (f_Mo_isDigit q42) = 0 then
  ((f_Mo_sign (s.1 0 26) s).bind fun q45 =>
  f_Mo_nextNumber_J143_1 v1 v2 (q45 - 87) (v3 <<< ((4 : Int32).toInt64 &&& 63)) s)
  else
  (f_Mo_sign (s.1 0 26) s).bind fun q49 =>
  f_Mo_nextNumber_J143_1 v1 v2 (q49 - 48) (v3 <<< ((4 : Int32).toInt64 &&& 63)) s
set_option maxHeartbeats 4000000 in
set_option maxRecDepth 100000 in
theorem t_Mo_nextNumber_J101_1 (G : GG) (hR : gR G = rmx 2 40) (hL : gL G = 7) (C : Cx SM G cX12_nextNumber RX12) {Acc : ((Int64 × St) ⊕ (Int64 × St)) → Prop}  (v1 : Int32) (v2 : Int32) (v3 : Int64) (s : St) (hb1 : ∀ (a3 : Int64) (t : St), Acc (.inl (a3, t)) → KK SM G 61 [(0, .ref (ad G 0)), (1, .int v1), (2, .int v2), (3, .long a3)] [] t) (hx1 : ∀ (a3 : Int64) (t : St), Acc (.inr (a3, t)) → KK SM G 159 [(0, .ref (ad G 0)), (1, .int v1), (2, .int v2), (3, .long a3)] [] t) : JJ SM G Acc (f_Mo_nextNumber_J101_1 v1 v2 v3 s) 101 [(0, .ref (ad G 0)), (1, .int v1), (2, .int v2), (3, .long v3)] [] s := by
  unfold f_Mo_nextNumber_J101_1
  refine jr_lload_n C 3 rfl rfl dX12_nextNumber_101 ?_
  refine jr_iconst C ic_4 dX12_nextNumber_102 ?_
  refine jr_lshl C dX12_nextNumber_103 ?_
  refine jr_aload_n C 0 rfl rfl dX12_nextNumber_104 ?_
  refine jr_aload_n C 0 rfl rfl dX12_nextNumber_105 ?_
  refine jr_getI C FX_10 26 oS_0.1 oS_0.2 ff_10_26.1 ff_10_26.2 fl_X12_285 dX12_nextNumber_106 ?_
  refine jr_bind (fun q42 e43 => ?_)
  refine jr_callVI C FX_10 km_X12_291 oS_0.1 oS_0.2 (rk hR rfl) (c_Mo_sign (gl G) (s.1 0 26) s e43) rfl rfl rfl (Nat.le_of_ble_eq_true rfl) dX12_nextNumber_109 ?_
  refine jr_callSI C km_X12_282 (rk hR rfl) (c_Mo_isDigit (gl G) q42 s) rfl rfl rfl (Nat.le_of_ble_eq_true rfl) dX12_nextNumber_112 ?_
  refine jr_if_eq C (tgt := 132) dX12_nextNumber_115 (by decide) (fun h44 => ?_) (fun h44 => ?_)
  · refine jo_pos h44 ?_
    refine jr_aload_n C 0 rfl rfl dX12_nextNumber_132 ?_
    refine jr_aload_n C 0 rfl rfl dX12_nextNumber_133 ?_
    refine jr_getI C FX_10 26 oS_0.1 oS_0.2 ff_10_26.1 ff_10_26.2 fl_X12_285 dX12_nextNumber_134 ?_
    refine jr_bind (fun q45 e46 => ?_)
    refine jr_callVI C FX_10 km_X12_291 oS_0.1 oS_0.2 (rk hR rfl) (c_Mo_sign (gl G) (s.1 0 26) s e46) rfl rfl rfl (Nat.le_of_ble_eq_true rfl) dX12_nextNumber_137 ?_
    refine jr_bipush C bp_87 dX12_nextNumber_140 ?_
    refine jr_isub C dX12_nextNumber_142 ?_
    refine jr_lv [0, 1, 2] rfl ?_
    exact t_Mo_nextNumber_J143_1 G hR hL C  v1 v2 (q45 - 87) (v3 <<< ((4 : Int32).toInt64 &&& 63)) s hb1 hx1
  refine jo_neg h44 ?_
  refine jr_aload_n C 0 rfl rfl dX12_nextNumber_118 ?_
  refine jr_aload_n C 0 rfl rfl dX12_nextNumber_119 ?_
  refine jr_getI C FX_10 26 oS_0.1 oS_0.2 ff_10_26.1 ff_10_26.2 fl_X12_285 dX12_nextNumber_120 ?_
  refine jr_bind (fun q49 e50 => ?_)
  refine jr_callVI C FX_10 km_X12_291 oS_0.1 oS_0.2 (rk hR rfl) (c_Mo_sign (gl G) (s.1 0 26) s e50) rfl rfl rfl (Nat.le_of_ble_eq_true rfl) dX12_nextNumber_123 ?_
  refine jr_bipush C bp_48 dX12_nextNumber_126 ?_
  refine jr_isub C dX12_nextNumber_128 ?_
  refine jr_goto C (tgt := 143) dX12_nextNumber_129 (by decide) ?_
  refine jr_lv [0, 1, 2] rfl ?_
  exact t_Mo_nextNumber_J143_1 G hR hL C  v1 v2 (q49 - 48) (v3 <<< ((4 : Int32).toInt64 &&& 63)) s hb1 hx1
noncomputable def f_Mo_nextNumber_L61 (v1 : Int32) (v2 : Int32) (v3 : Int64) (s : St) : Option ((Int64 × St) ⊕ (Int64 × St)) :=
  (f_Mo_sign (s.1 0 26) s).bind fun q39 =>
  if (f_Mo_isDigit q39) = 0 then
  ((f_Mo_sign (s.1 0 26) s).bind fun q51 =>
  if q51 < 97 then
  some (.inr (v3, s))
  else
  (f_Mo_sign (s.1 0 26) s).bind fun q54 =>
  if 102 < q54 then
  some (.inr (v3, s))
  else
  f_Mo_nextNumber_J101_1 v1 v2 v3 s)
  else
  f_Mo_nextNumber_J101_1 v1 v2 v3 s
set_option maxHeartbeats 4000000 in
set_option maxRecDepth 100000 in
theorem t_Mo_nextNumber_L61 (G : GG) (hR : gR G = rmx 2 40) (hL : gL G = 7) (C : Cx SM G cX12_nextNumber RX12) {Acc : ((Int64 × St) ⊕ (Int64 × St)) → Prop}  (v1 : Int32) (v2 : Int32) (v3 : Int64) (s : St) (hb1 : ∀ (a3 : Int64) (t : St), Acc (.inl (a3, t)) → KK SM G 61 [(0, .ref (ad G 0)), (1, .int v1), (2, .int v2), (3, .long a3)] [] t) (hx1 : ∀ (a3 : Int64) (t : St), Acc (.inr (a3, t)) → KK SM G 159 [(0, .ref (ad G 0)), (1, .int v1), (2, .int v2), (3, .long a3)] [] t) : JJ SM G Acc (f_Mo_nextNumber_L61 v1 v2 v3 s) 61 [(0, .ref (ad G 0)), (1, .int v1), (2, .int v2), (3, .long v3)] [] s := by
  unfold f_Mo_nextNumber_L61
  refine jr_aload_n C 0 rfl rfl dX12_nextNumber_61 ?_
  refine jr_aload_n C 0 rfl rfl dX12_nextNumber_62 ?_
  refine jr_getI C FX_10 26 oS_0.1 oS_0.2 ff_10_26.1 ff_10_26.2 fl_X12_285 dX12_nextNumber_63 ?_
  refine jr_bind (fun q39 e40 => ?_)
  refine jr_callVI C FX_10 km_X12_291 oS_0.1 oS_0.2 (rk hR rfl) (c_Mo_sign (gl G) (s.1 0 26) s e40) rfl rfl rfl (Nat.le_of_ble_eq_true rfl) dX12_nextNumber_66 ?_
  refine jr_callSI C km_X12_282 (rk hR rfl) (c_Mo_isDigit (gl G) q39 s) rfl rfl rfl (Nat.le_of_ble_eq_true rfl) dX12_nextNumber_69 ?_
  refine jr_if_ne C (tgt := 101) dX12_nextNumber_72 (by decide) (fun h41 => ?_) (fun h41 => ?_)
  · refine jo_neg h41 ?_
    exact t_Mo_nextNumber_J101_1 G hR hL C  v1 v2 v3 s hb1 hx1
  refine jo_pos h41 ?_
  refine jr_aload_n C 0 rfl rfl dX12_nextNumber_75 ?_
  refine jr_aload_n C 0 rfl rfl dX12_nextNumber_76 ?_
  refine jr_getI C FX_10 26 oS_0.1 oS_0.2 ff_10_26.1 ff_10_26.2 fl_X12_285 dX12_nextNumber_77 ?_
  refine jr_bind (fun q51 e52 => ?_)
  refine jr_callVI C FX_10 km_X12_291 oS_0.1 oS_0.2 (rk hR rfl) (c_Mo_sign (gl G) (s.1 0 26) s e52) rfl rfl rfl (Nat.le_of_ble_eq_true rfl) dX12_nextNumber_80 ?_
  refine jr_bipush C bp_97 dX12_nextNumber_83 ?_
  refine jr_icmp_lt C (tgt := 159) dX12_nextNumber_85 (by decide) (fun h53 => ?_) (fun h53 => ?_)
  · refine jo_pos h53 ?_
    exact jr_end (fun h => hx1 v3 s h)
  refine jo_neg h53 ?_
  refine jr_aload_n C 0 rfl rfl dX12_nextNumber_88 ?_
  refine jr_aload_n C 0 rfl rfl dX12_nextNumber_89 ?_
  refine jr_getI C FX_10 26 oS_0.1 oS_0.2 ff_10_26.1 ff_10_26.2 fl_X12_285 dX12_nextNumber_90 ?_
  refine jr_bind (fun q54 e55 => ?_)
  refine jr_callVI C FX_10 km_X12_291 oS_0.1 oS_0.2 (rk hR rfl) (c_Mo_sign (gl G) (s.1 0 26) s e55) rfl rfl rfl (Nat.le_of_ble_eq_true rfl) dX12_nextNumber_93 ?_
  refine jr_bipush C bp_102 dX12_nextNumber_96 ?_
  refine jr_icmp_gt C (tgt := 159) dX12_nextNumber_98 (by decide) (fun h56 => ?_) (fun h56 => ?_)
  · refine jo_pos h56 ?_
    exact jr_end (fun h => hx1 v3 s h)
  refine jo_neg h56 ?_
  exact t_Mo_nextNumber_J101_1 G hR hL C  v1 v2 v3 s hb1 hx1
noncomputable def f_Mo_nextNumber_J185 (v1 : Int32) (v3 : Int64) (w0 : Int32) (s : St) : Option St :=
  f_Mo_nextNumber_J297 v1 v3 w0 s
set_option maxHeartbeats 4000000 in
set_option maxRecDepth 100000 in
theorem t_Mo_nextNumber_J185 (G : GG) (hR : gR G = rmx 2 40) (hL : gL G = 7) (C : Cx SM G cX12_nextNumber RX12) {Acc : St → Prop}  (v1 : Int32) (v3 : Int64) (w0 : Int32) (s : St) (hr : ∀ v : St, Acc v → RtV SM G cX12_nextNumber v) : JJ SM G Acc (f_Mo_nextNumber_J185 v1 v3 w0 s) 185 [(0, .ref (ad G 0)), (1, .int v1), (3, .long v3)] [.int w0] s := by
  unfold f_Mo_nextNumber_J185
  refine jr_istore C (lv' := [(5, .int w0), (0, .ref (ad G 0)), (1, .int v1), (3, .long v3)]) (ltL hL rfl) rfl dX12_nextNumber_185 ?_
  refine jr_goto C (tgt := 297) dX12_nextNumber_187 (by decide) ?_
  refine jr_lv [1, 2, 3, 0] rfl ?_
  exact t_Mo_nextNumber_J297 G hR hL C  v1 v3 w0 s hr
noncomputable def f_Mo_nextNumber_J184 (v1 : Int32) (v3 : Int64) (s : St) : Option St :=
  f_Mo_nextNumber_J185 v1 v3 0 s
set_option maxHeartbeats 4000000 in
set_option maxRecDepth 100000 in
theorem t_Mo_nextNumber_J184 (G : GG) (hR : gR G = rmx 2 40) (hL : gL G = 7) (C : Cx SM G cX12_nextNumber RX12) {Acc : St → Prop}  (v1 : Int32) (v3 : Int64) (s : St) (hr : ∀ v : St, Acc v → RtV SM G cX12_nextNumber v) : JJ SM G Acc (f_Mo_nextNumber_J184 v1 v3 s) 184 [(0, .ref (ad G 0)), (1, .int v1), (3, .long v3)] [] s := by
  unfold f_Mo_nextNumber_J184
  refine jr_iconst C ic_0 dX12_nextNumber_184 ?_
  exact t_Mo_nextNumber_J185 G hR hL C  v1 v3 0 s hr
noncomputable def f_Mo_nextNumber_J17 (v1 : Int32) (w0 : Int32) (s : St) : Option St :=
  lt (uI s 0 26 w0) fun s2 =>
  if v1 = 0 then
  ((f_Mo_sign w0 s2).bind fun q32 =>
  if q32 = 48 then
  ((f_Mo_sign (w0 + 1) s2).bind fun q35 =>
  if q35 = 120 then
  (lt (uI s2 0 26 (w0 + 2)) fun s38 =>
  (wh (fun a : (Int64 × St) => f_Mo_nextNumber_L61 v1 w0 a.1 a.2) (0, s38)).bind (fun b57 =>
  if ((b57.2.1 0 26) - w0) ≤ 2 then
  f_Mo_nextNumber_J184 v1 (b57.1) (b57.2)
  else
  if 10 < ((b57.2.1 0 26) - w0) then
  f_Mo_nextNumber_J184 v1 (b57.1) (b57.2)
  else
  f_Mo_nextNumber_J185 v1 (b57.1) 1 (b57.2)))
  else
  f_Mo_nextNumber_J190 v1 w0 0 s2)
  else
  f_Mo_nextNumber_J190 v1 w0 0 s2)
  else
  f_Mo_nextNumber_J190 v1 w0 0 s2
set_option maxHeartbeats 4000000 in
set_option maxRecDepth 100000 in
theorem t_Mo_nextNumber_J17 (G : GG) (hR : gR G = rmx 2 40) (hL : gL G = 7) (C : Cx SM G cX12_nextNumber RX12) {Acc : St → Prop}  (v1 : Int32) (w0 : Int32) (s : St) (hr : ∀ v : St, Acc v → RtV SM G cX12_nextNumber v) : JJ SM G Acc (f_Mo_nextNumber_J17 v1 w0 s) 17 [(0, .ref (ad G 0)), (1, .int v1)] [.int w0] s := by
  unfold f_Mo_nextNumber_J17
  refine jr_istore_n C (lv' := [(2, .int w0), (0, .ref (ad G 0)), (1, .int v1)]) (ltL hL rfl) rfl rfl dX12_nextNumber_17 ?_
  refine jr_aload_n C 1 rfl rfl dX12_nextNumber_18 ?_
  refine jr_iload_n C 0 rfl rfl dX12_nextNumber_19 ?_
  refine jr_putI C FX_10 26 oS_0.1 oS_0.2 ff_10_26.1 ff_10_26.2 rfl rfl fl_X12_285 dX12_nextNumber_20 (jr_ltS fun s2 => ?_)
  refine jr_lconst C (v := 0) (by decide) dX12_nextNumber_23 ?_
  refine jr_lstore_n C (lv' := [(3, .long 0), (2, .int w0), (0, .ref (ad G 0)), (1, .int v1)]) (ltL hL rfl) rfl rfl dX12_nextNumber_24 ?_
  refine jr_iconst C ic_1 dX12_nextNumber_25 ?_
  refine jr_istore C (lv' := [(5, .int 1), (3, .long 0), (2, .int w0), (0, .ref (ad G 0)), (1, .int v1)]) (ltL hL rfl) rfl dX12_nextNumber_26 ?_
  refine jr_iload_n C 4 rfl rfl dX12_nextNumber_28 ?_
  refine jr_if_ne C (tgt := 190) dX12_nextNumber_29 (by decide) (fun h3 => ?_) (fun h3 => ?_)
  · refine jo_neg h3 ?_
    refine jr_lv [3, 4, 2, 1] rfl ?_
    exact t_Mo_nextNumber_J190 G hR hL C  v1 w0 0 s2 hr
  refine jo_pos h3 ?_
  refine jr_aload_n C 3 rfl rfl dX12_nextNumber_32 ?_
  refine jr_iload_n C 2 rfl rfl dX12_nextNumber_33 ?_
  refine jr_bind (fun q32 e33 => ?_)
  refine jr_callVI C FX_10 km_X12_291 oS_0.1 oS_0.2 (rk hR rfl) (c_Mo_sign (gl G) w0 s2 e33) rfl rfl rfl (Nat.le_of_ble_eq_true rfl) dX12_nextNumber_34 ?_
  refine jr_bipush C bp_48 dX12_nextNumber_37 ?_
  refine jr_icmp_ne C (tgt := 190) dX12_nextNumber_39 (by decide) (fun h34 => ?_) (fun h34 => ?_)
  · refine jo_neg h34 ?_
    refine jr_lv [3, 4, 2, 1] rfl ?_
    exact t_Mo_nextNumber_J190 G hR hL C  v1 w0 0 s2 hr
  refine jo_pos h34 ?_
  refine jr_aload_n C 3 rfl rfl dX12_nextNumber_42 ?_
  refine jr_iload_n C 2 rfl rfl dX12_nextNumber_43 ?_
  refine jr_iconst C ic_1 dX12_nextNumber_44 ?_
  refine jr_iadd C dX12_nextNumber_45 ?_
  refine jr_bind (fun q35 e36 => ?_)
  refine jr_callVI C FX_10 km_X12_291 oS_0.1 oS_0.2 (rk hR rfl) (c_Mo_sign (gl G) (w0 + 1) s2 e36) rfl rfl rfl (Nat.le_of_ble_eq_true rfl) dX12_nextNumber_46 ?_
  refine jr_bipush C bp_120 dX12_nextNumber_49 ?_
  refine jr_icmp_ne C (tgt := 190) dX12_nextNumber_51 (by decide) (fun h37 => ?_) (fun h37 => ?_)
  · refine jo_neg h37 ?_
    refine jr_lv [3, 4, 2, 1] rfl ?_
    exact t_Mo_nextNumber_J190 G hR hL C  v1 w0 0 s2 hr
  refine jo_pos h37 ?_
  refine jr_aload_n C 3 rfl rfl dX12_nextNumber_54 ?_
  refine jr_iload_n C 2 rfl rfl dX12_nextNumber_55 ?_
  refine jr_iconst C ic_2 dX12_nextNumber_56 ?_
  refine jr_iadd C dX12_nextNumber_57 ?_
  refine jr_putI C FX_10 26 oS_0.1 oS_0.2 ff_10_26.1 ff_10_26.2 rfl rfl fl_X12_285 dX12_nextNumber_58 (jr_ltS fun s38 => ?_)
  refine jr_lv [3, 4, 2, 1] rfl ?_
  refine jr_loopB (pc := 61) (pcx := 159) (f := fun a : (Int64 × St) => f_Mo_nextNumber_L61 v1 w0 a.1 a.2) (fun a : (Int64 × St) => [(0, .ref (ad G 0)), (1, .int v1), (2, .int w0), (3, .long (a.1))]) (fun a : (Int64 × St) => a.2) (0, s38) (fun a => t_Mo_nextNumber_L61 G hR hL C  v1 w0 a.1 a.2 (fun _ _ h => h) (fun _ _ h => h)) (fun b57 => ?_)
  refine jr_aload_n C 0 rfl rfl dX12_nextNumber_159 ?_
  refine jr_getI C FX_10 26 oS_0.1 oS_0.2 ff_10_26.1 ff_10_26.2 fl_X12_285 dX12_nextNumber_160 ?_
  refine jr_iload_n C 2 rfl rfl dX12_nextNumber_163 ?_
  refine jr_isub C dX12_nextNumber_164 ?_
  refine jr_iconst C ic_2 dX12_nextNumber_165 ?_
  refine jr_icmp_le C (tgt := 184) dX12_nextNumber_166 (by decide) (fun h58 => ?_) (fun h58 => ?_)
  · refine jo_pos h58 ?_
    refine jr_lv [0, 1, 3] rfl ?_
    exact t_Mo_nextNumber_J184 G hR hL C  v1 (b57.1) (b57.2) hr
  refine jo_neg h58 ?_
  refine jr_aload_n C 0 rfl rfl dX12_nextNumber_169 ?_
  refine jr_getI C FX_10 26 oS_0.1 oS_0.2 ff_10_26.1 ff_10_26.2 fl_X12_285 dX12_nextNumber_170 ?_
  refine jr_iload_n C 2 rfl rfl dX12_nextNumber_173 ?_
  refine jr_isub C dX12_nextNumber_174 ?_
  refine jr_bipush C bp_10 dX12_nextNumber_175 ?_
  refine jr_icmp_gt C (tgt := 184) dX12_nextNumber_177 (by decide) (fun h59 => ?_) (fun h59 => ?_)
  · refine jo_pos h59 ?_
    refine jr_lv [0, 1, 3] rfl ?_
    exact t_Mo_nextNumber_J184 G hR hL C  v1 (b57.1) (b57.2) hr
  refine jo_neg h59 ?_
  refine jr_iconst C ic_1 dX12_nextNumber_180 ?_
  refine jr_goto C (tgt := 185) dX12_nextNumber_181 (by decide) ?_
  refine jr_lv [0, 1, 3] rfl ?_
  exact t_Mo_nextNumber_J185 G hR hL C  v1 (b57.1) 1 (b57.2) hr
noncomputable def f_Mo_nextNumber (v1 : Int32) (s : St) : Option St :=
  if v1 = 0 then
  f_Mo_nextNumber_J17 v1 (s.1 0 25) s
  else
  f_Mo_nextNumber_J17 v1 ((s.1 0 25) + 1) s
set_option maxHeartbeats 4000000 in
set_option maxRecDepth 100000 in
theorem t_Mo_nextNumber (G : GG) (hR : gR G = rmx 2 40) (hL : gL G = 7) (C : Cx SM G cX12_nextNumber RX12) {Acc : St → Prop}  (v1 : Int32) (s : St) (hr : ∀ v : St, Acc v → RtV SM G cX12_nextNumber v) : JJ SM G Acc (f_Mo_nextNumber v1 s) 0 [(0, .ref (ad G 0)), (1, .int v1)] [] s := by
  unfold f_Mo_nextNumber
  refine jr_iload_n C 1 rfl rfl dX12_nextNumber_0 ?_
  refine jr_if_eq C (tgt := 13) dX12_nextNumber_1 (by decide) (fun h1 => ?_) (fun h1 => ?_)
  · refine jo_pos h1 ?_
    refine jr_aload_n C 0 rfl rfl dX12_nextNumber_13 ?_
    refine jr_getI C FX_10 25 oS_0.1 oS_0.2 ff_10_25.1 ff_10_25.2 fl_X12_288 dX12_nextNumber_14 ?_
    exact t_Mo_nextNumber_J17 G hR hL C  v1 (s.1 0 25) s hr
  refine jo_neg h1 ?_
  refine jr_aload_n C 0 rfl rfl dX12_nextNumber_4 ?_
  refine jr_getI C FX_10 25 oS_0.1 oS_0.2 ff_10_25.1 ff_10_25.2 fl_X12_288 dX12_nextNumber_5 ?_
  refine jr_iconst C ic_1 dX12_nextNumber_8 ?_
  refine jr_iadd C dX12_nextNumber_9 ?_
  refine jr_goto C (tgt := 17) dX12_nextNumber_10 (by decide) ?_
  exact t_Mo_nextNumber_J17 G hR hL C  v1 ((s.1 0 25) + 1) s hr
set_option maxRecDepth 100000 in
theorem c_Mo_nextNumber (l : Launch)  (v1 : Int32) (s : St) {q : St} (h : f_Mo_nextNumber v1 s = some q) : CT SM l yX12_nextNumber cX12_nextNumber 7 none 2 40 (fun a => [.ref (a 0), .int v1]) s q (fun _ => none) :=
  ct_V okX_M (by decide) (fun _ => Nat.le_of_ble_eq_true rfl) (fun G hl hR hL C hr => t_Mo_nextNumber G hR hL C (Acc := fun v => v = q)  v1 s (fun v hv => by rw [hv]; exact hr) ⟨_, h, rfl⟩)
noncomputable def f_Mo_next_L8  (s : St) : Option (St ⊕ St) :=
  (f_Mo_sign (s.1 0 25) s).bind fun q2 =>
  if q2 = 32 then
  (lt (uI s 0 25 ((s.1 0 25) + 1)) fun s5 =>
  some (.inl s5))
  else
  some (.inr s)
set_option maxHeartbeats 4000000 in
set_option maxRecDepth 100000 in
theorem t_Mo_next_L8 (G : GG) (hR : gR G = rmx 3 66) (hL : gL G = 2) (C : Cx SM G cX12_next RX12) {Acc : (St ⊕ St) → Prop}   (s : St) (hb1 : ∀  (t : St), Acc (.inl t) → KK SM G 8 [(0, .ref (ad G 0))] [] t) (hx1 : ∀  (t : St), Acc (.inr t) → KK SM G 34 [(0, .ref (ad G 0))] [] t) : JJ SM G Acc (f_Mo_next_L8 s) 8 [(0, .ref (ad G 0))] [] s := by
  unfold f_Mo_next_L8
  refine jr_aload_n C 0 rfl rfl dX12_next_8 ?_
  refine jr_aload_n C 0 rfl rfl dX12_next_9 ?_
  refine jr_getI C FX_10 25 oS_0.1 oS_0.2 ff_10_25.1 ff_10_25.2 fl_X12_288 dX12_next_10 ?_
  refine jr_bind (fun q2 e3 => ?_)
  refine jr_callVI C FX_10 km_X12_291 oS_0.1 oS_0.2 (rk hR rfl) (c_Mo_sign (gl G) (s.1 0 25) s e3) rfl rfl rfl (Nat.le_of_ble_eq_true rfl) dX12_next_13 ?_
  refine jr_bipush C bp_32 dX12_next_16 ?_
  refine jr_icmp_ne C (tgt := 34) dX12_next_18 (by decide) (fun h4 => ?_) (fun h4 => ?_)
  · refine jo_neg h4 ?_
    exact jr_end (fun h => hx1 s h)
  refine jo_pos h4 ?_
  refine jr_aload_n C 0 rfl rfl dX12_next_21 ?_
  refine jr_dup C rfl dX12_next_22 ?_
  refine jr_getI C FX_10 25 oS_0.1 oS_0.2 ff_10_25.1 ff_10_25.2 fl_X12_288 dX12_next_23 ?_
  refine jr_iconst C ic_1 dX12_next_26 ?_
  refine jr_iadd C dX12_next_27 ?_
  refine jr_putI C FX_10 25 oS_0.1 oS_0.2 ff_10_25.1 ff_10_25.2 rfl rfl fl_X12_288 dX12_next_28 (jr_ltS fun s5 => ?_)
  refine jr_goto C (tgt := 8) dX12_next_31 (by decide) ?_
  exact jr_end (fun h => hb1 s5 h)
noncomputable def f_Mo_next_J201 (w0 : Int32) (s : St) : Option St :=
  (f_Mo_nextNumber w0 s).bind fun q17 =>
  some q17
set_option maxHeartbeats 4000000 in
set_option maxRecDepth 100000 in
theorem t_Mo_next_J201 (G : GG) (hR : gR G = rmx 3 66) (hL : gL G = 2) (C : Cx SM G cX12_next RX12) {Acc : St → Prop}  (w0 : Int32) (s : St) (hr : ∀ v : St, Acc v → RtV SM G cX12_next v) : JJ SM G Acc (f_Mo_next_J201 w0 s) 201 [] [.int w0, .ref (ad G 0)] s := by
  unfold f_Mo_next_J201
  refine jr_bind (fun q17 e18 => ?_)
  refine jr_callVV C FX_10 km_X12_301 oS_0.1 oS_0.2 (rk hR rfl) (c_Mo_nextNumber (gl G) w0 s e18) rfl rfl rfl (Nat.le_of_ble_eq_true rfl) dX12_next_201 ?_
  refine jr_goto C (tgt := 232) dX12_next_204 (by decide) ?_
  exact jr_end (fun h => hr q17 h _ _ dX12_next_232)
noncomputable def f_Mo_next_J189 (v1 : Int32) (s : St) : Option St :=
  if v1 = 45 then
  f_Mo_next_J201 1 s
  else
  f_Mo_next_J201 0 s
set_option maxHeartbeats 4000000 in
set_option maxRecDepth 100000 in
theorem t_Mo_next_J189 (G : GG) (hR : gR G = rmx 3 66) (hL : gL G = 2) (C : Cx SM G cX12_next RX12) {Acc : St → Prop}  (v1 : Int32) (s : St) (hr : ∀ v : St, Acc v → RtV SM G cX12_next v) : JJ SM G Acc (f_Mo_next_J189 v1 s) 189 [(0, .ref (ad G 0)), (1, .int v1)] [] s := by
  unfold f_Mo_next_J189
  refine jr_aload_n C 0 rfl rfl dX12_next_189 ?_
  refine jr_iload_n C 1 rfl rfl dX12_next_190 ?_
  refine jr_bipush C bp_45 dX12_next_191 ?_
  refine jr_icmp_ne C (tgt := 200) dX12_next_193 (by decide) (fun h16 => ?_) (fun h16 => ?_)
  · refine jo_neg h16 ?_
    refine jr_iconst C ic_0 dX12_next_200 ?_
    refine jr_lv [] rfl ?_
    exact t_Mo_next_J201 G hR hL C  0 s hr
  refine jo_pos h16 ?_
  refine jr_iconst C ic_1 dX12_next_196 ?_
  refine jr_goto C (tgt := 201) dX12_next_197 (by decide) ?_
  refine jr_lv [] rfl ?_
  exact t_Mo_next_J201 G hR hL C  1 s hr
noncomputable def f_Mo_next_J229 (w0 : Int32) (s : St) : Option St :=
  lt (uI s 0 24 w0) fun s22 =>
  some s22
set_option maxHeartbeats 4000000 in
set_option maxRecDepth 100000 in
theorem t_Mo_next_J229 (G : GG) (hR : gR G = rmx 3 66) (hL : gL G = 2) (C : Cx SM G cX12_next RX12) {Acc : St → Prop}  (w0 : Int32) (s : St) (hr : ∀ v : St, Acc v → RtV SM G cX12_next v) : JJ SM G Acc (f_Mo_next_J229 w0 s) 229 [] [.int w0, .ref (ad G 0)] s := by
  unfold f_Mo_next_J229
  refine jr_putI C FX_10 24 oS_0.1 oS_0.2 ff_10_24.1 ff_10_24.2 rfl rfl fl_X12_295 dX12_next_229 (jr_ltS fun s22 => ?_)
  exact jr_end (fun h => hr s22 h _ _ dX12_next_232)
noncomputable def f_Mo_next_L123  (s : St) : Option (St ⊕ St) :=
  (f_Mo_sign (s.1 0 26) s).bind fun q23 =>
  if (f_Mo_isWordSign q23) = 0 then
  some (.inr s)
  else
  lt (uI s 0 26 ((s.1 0 26) + 1)) fun s26 =>
  some (.inl s26)
set_option maxHeartbeats 4000000 in
set_option maxRecDepth 100000 in
theorem t_Mo_next_L123 (G : GG) (hR : gR G = rmx 3 66) (hL : gL G = 2) (C : Cx SM G cX12_next RX12) {Acc : (St ⊕ St) → Prop}   (s : St) (hb1 : ∀  (t : St), Acc (.inl t) → KK SM G 123 [(0, .ref (ad G 0))] [] t) (hx1 : ∀  (t : St), Acc (.inr t) → KK SM G 150 [(0, .ref (ad G 0))] [] t) : JJ SM G Acc (f_Mo_next_L123 s) 123 [(0, .ref (ad G 0))] [] s := by
  unfold f_Mo_next_L123
  refine jr_aload_n C 0 rfl rfl dX12_next_123 ?_
  refine jr_aload_n C 0 rfl rfl dX12_next_124 ?_
  refine jr_getI C FX_10 26 oS_0.1 oS_0.2 ff_10_26.1 ff_10_26.2 fl_X12_285 dX12_next_125 ?_
  refine jr_bind (fun q23 e24 => ?_)
  refine jr_callVI C FX_10 km_X12_291 oS_0.1 oS_0.2 (rk hR rfl) (c_Mo_sign (gl G) (s.1 0 26) s e24) rfl rfl rfl (Nat.le_of_ble_eq_true rfl) dX12_next_128 ?_
  refine jr_callSI C km_X12_298 (rk hR rfl) (c_Mo_isWordSign (gl G) q23 s) rfl rfl rfl (Nat.le_of_ble_eq_true rfl) dX12_next_131 ?_
  refine jr_if_eq C (tgt := 150) dX12_next_134 (by decide) (fun h25 => ?_) (fun h25 => ?_)
  · refine jo_pos h25 ?_
    exact jr_end (fun h => hx1 s h)
  refine jo_neg h25 ?_
  refine jr_aload_n C 0 rfl rfl dX12_next_137 ?_
  refine jr_dup C rfl dX12_next_138 ?_
  refine jr_getI C FX_10 26 oS_0.1 oS_0.2 ff_10_26.1 ff_10_26.2 fl_X12_285 dX12_next_139 ?_
  refine jr_iconst C ic_1 dX12_next_142 ?_
  refine jr_iadd C dX12_next_143 ?_
  refine jr_putI C FX_10 26 oS_0.1 oS_0.2 ff_10_26.1 ff_10_26.2 rfl rfl fl_X12_285 dX12_next_144 (jr_ltS fun s26 => ?_)
  refine jr_goto C (tgt := 123) dX12_next_147 (by decide) ?_
  exact jr_end (fun h => hb1 s26 h)
noncomputable def f_Mo_next_J170 (w0 : Int32) (s : St) : Option St :=
  lt (uI s 0 24 w0) fun s29 =>
  some s29
set_option maxHeartbeats 4000000 in
set_option maxRecDepth 100000 in
theorem t_Mo_next_J170 (G : GG) (hR : gR G = rmx 3 66) (hL : gL G = 2) (C : Cx SM G cX12_next RX12) {Acc : St → Prop}  (w0 : Int32) (s : St) (hr : ∀ v : St, Acc v → RtV SM G cX12_next v) : JJ SM G Acc (f_Mo_next_J170 w0 s) 170 [] [.int w0, .ref (ad G 0)] s := by
  unfold f_Mo_next_J170
  refine jr_putI C FX_10 24 oS_0.1 oS_0.2 ff_10_24.1 ff_10_24.2 rfl rfl fl_X12_295 dX12_next_170 (jr_ltS fun s29 => ?_)
  refine jr_goto C (tgt := 232) dX12_next_173 (by decide) ?_
  exact jr_end (fun h => hr s29 h _ _ dX12_next_232)
noncomputable def f_Mo_next_J75  (s : St) : Option St :=
  (f_Mo_sign (s.1 0 25) s).bind fun q10 =>
  lt (uI s 0 26 ((s.1 0 25) + 1)) fun s12 =>
  if q10 = 10 then
  (lt (uI s12 0 24 0) fun s30 =>
  lt (uI s30 0 26 (s30.1 0 25)) fun s31 =>
  some s31)
  else
  if (f_Mo_isLetter q10) = 0 then
  (if q10 = 45 then
  f_Mo_next_J189 q10 s12
  else
  if (f_Mo_isDigit q10) = 0 then
  (if q10 = 44 then
  f_Mo_next_J229 4 s12
  else
  if q10 = 58 then
  f_Mo_next_J229 5 s12
  else
  f_Mo_next_J229 1 s12)
  else
  f_Mo_next_J189 q10 s12)
  else
  (wh (fun a : St => f_Mo_next_L123  a) s12).bind (fun b27 =>
  if ((b27.1 0 26) - (b27.1 0 25)) ≤ 8 then
  f_Mo_next_J170 2 b27
  else
  f_Mo_next_J170 1 b27)
set_option maxHeartbeats 4000000 in
set_option maxRecDepth 100000 in
theorem t_Mo_next_J75 (G : GG) (hR : gR G = rmx 3 66) (hL : gL G = 2) (C : Cx SM G cX12_next RX12) {Acc : St → Prop}   (s : St) (hr : ∀ v : St, Acc v → RtV SM G cX12_next v) : JJ SM G Acc (f_Mo_next_J75 s) 75 [(0, .ref (ad G 0))] [] s := by
  unfold f_Mo_next_J75
  refine jr_aload_n C 0 rfl rfl dX12_next_75 ?_
  refine jr_aload_n C 0 rfl rfl dX12_next_76 ?_
  refine jr_getI C FX_10 25 oS_0.1 oS_0.2 ff_10_25.1 ff_10_25.2 fl_X12_288 dX12_next_77 ?_
  refine jr_bind (fun q10 e11 => ?_)
  refine jr_callVI C FX_10 km_X12_291 oS_0.1 oS_0.2 (rk hR rfl) (c_Mo_sign (gl G) (s.1 0 25) s e11) rfl rfl rfl (Nat.le_of_ble_eq_true rfl) dX12_next_80 ?_
  refine jr_istore_n C (lv' := [(1, .int q10), (0, .ref (ad G 0))]) (ltL hL rfl) rfl rfl dX12_next_83 ?_
  refine jr_aload_n C 1 rfl rfl dX12_next_84 ?_
  refine jr_aload_n C 1 rfl rfl dX12_next_85 ?_
  refine jr_getI C FX_10 25 oS_0.1 oS_0.2 ff_10_25.1 ff_10_25.2 fl_X12_288 dX12_next_86 ?_
  refine jr_iconst C ic_1 dX12_next_89 ?_
  refine jr_iadd C dX12_next_90 ?_
  refine jr_putI C FX_10 26 oS_0.1 oS_0.2 ff_10_26.1 ff_10_26.2 rfl rfl fl_X12_285 dX12_next_91 (jr_ltS fun s12 => ?_)
  refine jr_iload_n C 0 rfl rfl dX12_next_94 ?_
  refine jr_bipush C bp_10 dX12_next_95 ?_
  refine jr_icmp_ne C (tgt := 116) dX12_next_97 (by decide) (fun h13 => ?_) (fun h13 => ?_)
  · refine jo_neg h13 ?_
    refine jr_iload_n C 0 rfl rfl dX12_next_116 ?_
    refine jr_callSI C km_X12_278 (rk hR rfl) (c_Mo_isLetter (gl G) q10 s12) rfl rfl rfl (Nat.le_of_ble_eq_true rfl) dX12_next_117 ?_
    refine jr_if_eq C (tgt := 176) dX12_next_120 (by decide) (fun h14 => ?_) (fun h14 => ?_)
    · refine jo_pos h14 ?_
      refine jr_iload_n C 0 rfl rfl dX12_next_176 ?_
      refine jr_bipush C bp_45 dX12_next_177 ?_
      refine jr_icmp_eq C (tgt := 189) dX12_next_179 (by decide) (fun h15 => ?_) (fun h15 => ?_)
      · refine jo_pos h15 ?_
        refine jr_lv [1, 0] rfl ?_
        exact t_Mo_next_J189 G hR hL C  q10 s12 hr
      refine jo_neg h15 ?_
      refine jr_iload_n C 0 rfl rfl dX12_next_182 ?_
      refine jr_callSI C km_X12_282 (rk hR rfl) (c_Mo_isDigit (gl G) q10 s12) rfl rfl rfl (Nat.le_of_ble_eq_true rfl) dX12_next_183 ?_
      refine jr_if_eq C (tgt := 207) dX12_next_186 (by decide) (fun h19 => ?_) (fun h19 => ?_)
      · refine jo_pos h19 ?_
        refine jr_aload_n C 1 rfl rfl dX12_next_207 ?_
        refine jr_iload_n C 0 rfl rfl dX12_next_208 ?_
        refine jr_bipush C bp_44 dX12_next_209 ?_
        refine jr_icmp_ne C (tgt := 218) dX12_next_211 (by decide) (fun h20 => ?_) (fun h20 => ?_)
        · refine jo_neg h20 ?_
          refine jr_iload_n C 0 rfl rfl dX12_next_218 ?_
          refine jr_bipush C bp_58 dX12_next_219 ?_
          refine jr_icmp_ne C (tgt := 228) dX12_next_221 (by decide) (fun h21 => ?_) (fun h21 => ?_)
          · refine jo_neg h21 ?_
            refine jr_iconst C ic_1 dX12_next_228 ?_
            refine jr_lv [] rfl ?_
            exact t_Mo_next_J229 G hR hL C  1 s12 hr
          refine jo_pos h21 ?_
          refine jr_iconst C ic_5 dX12_next_224 ?_
          refine jr_goto C (tgt := 229) dX12_next_225 (by decide) ?_
          refine jr_lv [] rfl ?_
          exact t_Mo_next_J229 G hR hL C  5 s12 hr
        refine jo_pos h20 ?_
        refine jr_iconst C ic_4 dX12_next_214 ?_
        refine jr_goto C (tgt := 229) dX12_next_215 (by decide) ?_
        refine jr_lv [] rfl ?_
        exact t_Mo_next_J229 G hR hL C  4 s12 hr
      refine jo_neg h19 ?_
      refine jr_lv [1, 0] rfl ?_
      exact t_Mo_next_J189 G hR hL C  q10 s12 hr
    refine jo_neg h14 ?_
    refine jr_lv [1] rfl ?_
    refine jr_loopB (pc := 123) (pcx := 150) (f := fun a : St => f_Mo_next_L123  a) (fun a : St => [(0, .ref (ad G 0))]) (fun a : St => a) s12 (fun a => t_Mo_next_L123 G hR hL C   a (fun _ h => h) (fun _ h => h)) (fun b27 => ?_)
    refine jr_aload_n C 0 rfl rfl dX12_next_150 ?_
    refine jr_aload_n C 0 rfl rfl dX12_next_151 ?_
    refine jr_getI C FX_10 26 oS_0.1 oS_0.2 ff_10_26.1 ff_10_26.2 fl_X12_285 dX12_next_152 ?_
    refine jr_aload_n C 0 rfl rfl dX12_next_155 ?_
    refine jr_getI C FX_10 25 oS_0.1 oS_0.2 ff_10_25.1 ff_10_25.2 fl_X12_288 dX12_next_156 ?_
    refine jr_isub C dX12_next_159 ?_
    refine jr_bipush C bp_8 dX12_next_160 ?_
    refine jr_icmp_le C (tgt := 169) dX12_next_162 (by decide) (fun h28 => ?_) (fun h28 => ?_)
    · refine jo_pos h28 ?_
      refine jr_iconst C ic_2 dX12_next_169 ?_
      refine jr_lv [] rfl ?_
      exact t_Mo_next_J170 G hR hL C  2 b27 hr
    refine jo_neg h28 ?_
    refine jr_iconst C ic_1 dX12_next_165 ?_
    refine jr_goto C (tgt := 170) dX12_next_166 (by decide) ?_
    refine jr_lv [] rfl ?_
    exact t_Mo_next_J170 G hR hL C  1 b27 hr
  refine jo_pos h13 ?_
  refine jr_aload_n C 1 rfl rfl dX12_next_100 ?_
  refine jr_iconst C ic_0 dX12_next_101 ?_
  refine jr_putI C FX_10 24 oS_0.1 oS_0.2 ff_10_24.1 ff_10_24.2 rfl rfl fl_X12_295 dX12_next_102 (jr_ltS fun s30 => ?_)
  refine jr_aload_n C 1 rfl rfl dX12_next_105 ?_
  refine jr_aload_n C 1 rfl rfl dX12_next_106 ?_
  refine jr_getI C FX_10 25 oS_0.1 oS_0.2 ff_10_25.1 ff_10_25.2 fl_X12_288 dX12_next_107 ?_
  refine jr_putI C FX_10 26 oS_0.1 oS_0.2 ff_10_26.1 ff_10_26.2 rfl rfl fl_X12_285 dX12_next_110 (jr_ltS fun s31 => ?_)
  refine jr_goto C (tgt := 232) dX12_next_113 (by decide) ?_
  exact jr_end (fun h => hr s31 h _ _ dX12_next_232)
noncomputable def f_Mo_next_L49  (s : St) : Option (St ⊕ St) :=
  (f_Mo_sign (s.1 0 25) s).bind fun q32 =>
  if q32 = 10 then
  some (.inr s)
  else
  lt (uI s 0 25 ((s.1 0 25) + 1)) fun s35 =>
  some (.inl s35)
set_option maxHeartbeats 4000000 in
set_option maxRecDepth 100000 in
theorem t_Mo_next_L49 (G : GG) (hR : gR G = rmx 3 66) (hL : gL G = 2) (C : Cx SM G cX12_next RX12) {Acc : (St ⊕ St) → Prop}   (s : St) (hb1 : ∀  (t : St), Acc (.inl t) → KK SM G 49 [(0, .ref (ad G 0))] [] t) (hx1 : ∀  (t : St), Acc (.inr t) → KK SM G 75 [(0, .ref (ad G 0))] [] t) : JJ SM G Acc (f_Mo_next_L49 s) 49 [(0, .ref (ad G 0))] [] s := by
  unfold f_Mo_next_L49
  refine jr_aload_n C 0 rfl rfl dX12_next_49 ?_
  refine jr_aload_n C 0 rfl rfl dX12_next_50 ?_
  refine jr_getI C FX_10 25 oS_0.1 oS_0.2 ff_10_25.1 ff_10_25.2 fl_X12_288 dX12_next_51 ?_
  refine jr_bind (fun q32 e33 => ?_)
  refine jr_callVI C FX_10 km_X12_291 oS_0.1 oS_0.2 (rk hR rfl) (c_Mo_sign (gl G) (s.1 0 25) s e33) rfl rfl rfl (Nat.le_of_ble_eq_true rfl) dX12_next_54 ?_
  refine jr_bipush C bp_10 dX12_next_57 ?_
  refine jr_icmp_eq C (tgt := 75) dX12_next_59 (by decide) (fun h34 => ?_) (fun h34 => ?_)
  · refine jo_pos h34 ?_
    exact jr_end (fun h => hx1 s h)
  refine jo_neg h34 ?_
  refine jr_aload_n C 0 rfl rfl dX12_next_62 ?_
  refine jr_dup C rfl dX12_next_63 ?_
  refine jr_getI C FX_10 25 oS_0.1 oS_0.2 ff_10_25.1 ff_10_25.2 fl_X12_288 dX12_next_64 ?_
  refine jr_iconst C ic_1 dX12_next_67 ?_
  refine jr_iadd C dX12_next_68 ?_
  refine jr_putI C FX_10 25 oS_0.1 oS_0.2 ff_10_25.1 ff_10_25.2 rfl rfl fl_X12_288 dX12_next_69 (jr_ltS fun s35 => ?_)
  refine jr_goto C (tgt := 49) dX12_next_72 (by decide) ?_
  exact jr_end (fun h => hb1 s35 h)
noncomputable def f_Mo_next  (s : St) : Option St :=
  lt (uI s 0 25 (s.1 0 26)) fun s1 =>
  (wh (fun a : St => f_Mo_next_L8  a) s1).bind (fun b6 =>
  (f_Mo_sign (b6.1 0 25) b6).bind fun q7 =>
  if q7 = 59 then
  ((wh (fun a : St => f_Mo_next_L49  a) b6).bind (fun b36 =>
  f_Mo_next_J75 b36))
  else
  f_Mo_next_J75 b6)
set_option maxHeartbeats 4000000 in
set_option maxRecDepth 100000 in
theorem t_Mo_next (G : GG) (hR : gR G = rmx 3 66) (hL : gL G = 2) (C : Cx SM G cX12_next RX12) {Acc : St → Prop}   (s : St) (hr : ∀ v : St, Acc v → RtV SM G cX12_next v) : JJ SM G Acc (f_Mo_next s) 0 [(0, .ref (ad G 0))] [] s := by
  unfold f_Mo_next
  refine jr_aload_n C 0 rfl rfl dX12_next_0 ?_
  refine jr_aload_n C 0 rfl rfl dX12_next_1 ?_
  refine jr_getI C FX_10 26 oS_0.1 oS_0.2 ff_10_26.1 ff_10_26.2 fl_X12_285 dX12_next_2 ?_
  refine jr_putI C FX_10 25 oS_0.1 oS_0.2 ff_10_25.1 ff_10_25.2 rfl rfl fl_X12_288 dX12_next_5 (jr_ltS fun s1 => ?_)
  refine jr_loopB (pc := 8) (pcx := 34) (f := fun a : St => f_Mo_next_L8  a) (fun a : St => [(0, .ref (ad G 0))]) (fun a : St => a) s1 (fun a => t_Mo_next_L8 G hR hL C   a (fun _ h => h) (fun _ h => h)) (fun b6 => ?_)
  refine jr_aload_n C 0 rfl rfl dX12_next_34 ?_
  refine jr_aload_n C 0 rfl rfl dX12_next_35 ?_
  refine jr_getI C FX_10 25 oS_0.1 oS_0.2 ff_10_25.1 ff_10_25.2 fl_X12_288 dX12_next_36 ?_
  refine jr_bind (fun q7 e8 => ?_)
  refine jr_callVI C FX_10 km_X12_291 oS_0.1 oS_0.2 (rk hR rfl) (c_Mo_sign (gl G) (b6.1 0 25) b6 e8) rfl rfl rfl (Nat.le_of_ble_eq_true rfl) dX12_next_39 ?_
  refine jr_istore_n C (lv' := [(1, .int q7), (0, .ref (ad G 0))]) (ltL hL rfl) rfl rfl dX12_next_42 ?_
  refine jr_iload_n C 0 rfl rfl dX12_next_43 ?_
  refine jr_bipush C bp_59 dX12_next_44 ?_
  refine jr_icmp_ne C (tgt := 75) dX12_next_46 (by decide) (fun h9 => ?_) (fun h9 => ?_)
  · refine jo_neg h9 ?_
    refine jr_lv [1] rfl ?_
    exact t_Mo_next_J75 G hR hL C   b6 hr
  refine jo_pos h9 ?_
  refine jr_lv [1] rfl ?_
  refine jr_loopB (pc := 49) (pcx := 75) (f := fun a : St => f_Mo_next_L49  a) (fun a : St => [(0, .ref (ad G 0))]) (fun a : St => a) b6 (fun a => t_Mo_next_L49 G hR hL C   a (fun _ h => h) (fun _ h => h)) (fun b36 => ?_)
  exact t_Mo_next_J75 G hR hL C   b36 hr
set_option maxRecDepth 100000 in
theorem c_Mo_next (l : Launch)   (s : St) {q : St} (h : f_Mo_next s = some q) : CT SM l yX12_next cX12_next 2 none 3 66 (fun a => [.ref (a 0)]) s q (fun _ => none) :=
  ct_V okX_M (by decide) (fun _ => Nat.le_of_ble_eq_true rfl) (fun G hl hR hL C hr => t_Mo_next G hR hL C (Acc := fun v => v = q)   s (fun v hv => by rw [hv]; exact hr) ⟨_, h, rfl⟩)
noncomputable def f_Mo_wrong_J14 (w0 : Int32) (s : St) : Option (Int32 × St) :=
  (f_Mo_fails w0 (s.1 0 25) s).bind fun q2 =>
  some ((bN (q2.1)), q2.2)
set_option maxHeartbeats 4000000 in
set_option maxRecDepth 100000 in
theorem t_Mo_wrong_J14 (G : GG) (hR : gR G = rmx 1 22) (hL : gL G = 1) (C : Cx SM G cX12_wrong RX12) {Acc : (Int32 × St) → Prop}  (w0 : Int32) (s : St) (hr : ∀ v : (Int32 × St), Acc v → RtZ SM G cX12_wrong v.1 v.2) : JJ SM G Acc (f_Mo_wrong_J14 w0 s) 14 [(0, .ref (ad G 0))] [.int w0, .ref (ad G 0)] s := by
  unfold f_Mo_wrong_J14
  refine jr_aload_n C 0 rfl rfl dX12_wrong_14 ?_
  refine jr_getI C FX_10 25 oS_0.1 oS_0.2 ff_10_25.1 ff_10_25.2 fl_X12_288 dX12_wrong_15 ?_
  refine jr_bind (fun q2 e3 => ?_)
  refine jr_callVI C FX_10 km_X12_316 oS_0.1 oS_0.2 (rk hR rfl) (c_Mo_fails (gl G) w0 (s.1 0 25) s e3) rfl rfl rfl (Nat.le_of_ble_eq_true rfl) dX12_wrong_18 ?_
  exact jr_end (fun h => hr ((bN (q2.1)), q2.2) h _ _ _ rfl dX12_wrong_21)
noncomputable def f_Mo_wrong  (s : St) : Option (Int32 × St) :=
  if (s.1 0 24) = 1 then
  f_Mo_wrong_J14 1 s
  else
  f_Mo_wrong_J14 2 s
set_option maxHeartbeats 4000000 in
set_option maxRecDepth 100000 in
theorem t_Mo_wrong (G : GG) (hR : gR G = rmx 1 22) (hL : gL G = 1) (C : Cx SM G cX12_wrong RX12) {Acc : (Int32 × St) → Prop}   (s : St) (hr : ∀ v : (Int32 × St), Acc v → RtZ SM G cX12_wrong v.1 v.2) : JJ SM G Acc (f_Mo_wrong s) 0 [(0, .ref (ad G 0))] [] s := by
  unfold f_Mo_wrong
  refine jr_aload_n C 0 rfl rfl dX12_wrong_0 ?_
  refine jr_aload_n C 0 rfl rfl dX12_wrong_1 ?_
  refine jr_getI C FX_10 24 oS_0.1 oS_0.2 ff_10_24.1 ff_10_24.2 fl_X12_295 dX12_wrong_2 ?_
  refine jr_iconst C ic_1 dX12_wrong_5 ?_
  refine jr_icmp_ne C (tgt := 13) dX12_wrong_6 (by decide) (fun h1 => ?_) (fun h1 => ?_)
  · refine jo_neg h1 ?_
    refine jr_iconst C ic_2 dX12_wrong_13 ?_
    exact t_Mo_wrong_J14 G hR hL C  2 s hr
  refine jo_pos h1 ?_
  refine jr_iconst C ic_1 dX12_wrong_9 ?_
  refine jr_goto C (tgt := 14) dX12_wrong_10 (by decide) ?_
  exact t_Mo_wrong_J14 G hR hL C  1 s hr
set_option maxRecDepth 100000 in
theorem c_Mo_wrong (l : Launch)   (s : St) {q : (Int32 × St)} (h : f_Mo_wrong s = some q) : CT SM l yX12_wrong cX12_wrong 1 (some .boolean) 1 22 (fun a => [.ref (a 0)]) s q.2 (fun _ => some (.int q.1)) :=
  ct_Z okX_M (by decide) (fun _ => Nat.le_of_ble_eq_true rfl) (fun G hl hR hL C hr => t_Mo_wrong G hR hL C (Acc := fun v => v = q)   s (fun v hv => by rw [hv]; exact hr) ⟨_, h, rfl⟩)
noncomputable def f_Mo_instruction_L7 (v1 : Int64) (v3 : Int32) (s : St) : Option ((Int64 × Int32) ⊕ (Int64 × Int32)) :=
  if (s.1 0 26) ≤ v3 then
  some (.inr (v1, v3))
  else
  (f_Mo_sign v3 s).bind fun q3 =>
  lt ((v1 <<< ((8 : Int32).toInt64 &&& 63)) ||| (q3 : Int32).toInt64) fun x5 =>
  some (.inl (x5, (v3 + 1)))
set_option maxHeartbeats 4000000 in
set_option maxRecDepth 100000 in
theorem t_Mo_instruction_L7 (G : GG) (hR : gR G = rmx 2 40) (hL : gL G = 4) (C : Cx SM G cX12_instruction RX12) {Acc : ((Int64 × Int32) ⊕ (Int64 × Int32)) → Prop}  (v1 : Int64) (v3 : Int32) (s : St) (hb1 : ∀ (a1 : Int64) (a3 : Int32), Acc (.inl (a1, a3)) → KK SM G 7 [(0, .ref (ad G 0)), (1, .long a1), (3, .int a3)] [] s) (hx1 : ∀ (a1 : Int64) (a3 : Int32), Acc (.inr (a1, a3)) → KK SM G 33 [(0, .ref (ad G 0)), (1, .long a1), (3, .int a3)] [] s) : JJ SM G Acc (f_Mo_instruction_L7 v1 v3 s) 7 [(0, .ref (ad G 0)), (1, .long v1), (3, .int v3)] [] s := by
  unfold f_Mo_instruction_L7
  refine jr_iload_n C 2 rfl rfl dX12_instruction_7 ?_
  refine jr_aload_n C 0 rfl rfl dX12_instruction_8 ?_
  refine jr_getI C FX_10 26 oS_0.1 oS_0.2 ff_10_26.1 ff_10_26.2 fl_X12_285 dX12_instruction_9 ?_
  refine jr_icmp_ge C (tgt := 33) dX12_instruction_12 (by decide) (fun h2 => ?_) (fun h2 => ?_)
  · refine jo_pos h2 ?_
    exact jr_end (fun h => hx1 v1 v3 h)
  refine jo_neg h2 ?_
  refine jr_lload_n C 1 rfl rfl dX12_instruction_15 ?_
  refine jr_bipush C bp_8 dX12_instruction_16 ?_
  refine jr_lshl C dX12_instruction_18 ?_
  refine jr_aload_n C 0 rfl rfl dX12_instruction_19 ?_
  refine jr_iload_n C 2 rfl rfl dX12_instruction_20 ?_
  refine jr_bind (fun q3 e4 => ?_)
  refine jr_callVI C FX_10 km_X12_291 oS_0.1 oS_0.2 (rk hR rfl) (c_Mo_sign (gl G) v3 s e4) rfl rfl rfl (Nat.le_of_ble_eq_true rfl) dX12_instruction_21 ?_
  refine jr_i2l C dX12_instruction_24 ?_
  refine jr_lor C dX12_instruction_25 ?_
  refine jr_ltJ (fun x5 => ?_)
  refine jr_lstore_n C (lv' := [(1, .long x5), (0, .ref (ad G 0)), (3, .int v3)]) (ltL hL rfl) rfl rfl dX12_instruction_26 ?_
  refine jr_iinc C 2 rfl ii_1 (lv' := [(3, .int (v3 + 1)), (1, .long x5), (0, .ref (ad G 0))]) (ltL hL rfl) rfl dX12_instruction_27 ?_
  refine jr_goto C (tgt := 7) dX12_instruction_30 (by decide) ?_
  refine jr_lv [2, 1, 0] rfl ?_
  exact jr_end (fun h => hb1 x5 (v3 + 1) h)
noncomputable def f_Mo_instruction_L35 (v1 : Int64) (v3 : Int32) (s : St) : Option (Int32 ⊕ (Int32 ⊕ Int32)) :=
  if 51 ≤ v3 then
  some (.inr (.inl v3))
  else
  if (lg_cmp (f_Mo_name v3) v1) = 0 then
  some (.inr (.inr v3))
  else
  some (.inl (v3 + 1))
set_option maxHeartbeats 4000000 in
set_option maxRecDepth 100000 in
theorem t_Mo_instruction_L35 (G : GG) (hR : gR G = rmx 2 40) (hL : gL G = 4) (C : Cx SM G cX12_instruction RX12) {Acc : (Int32 ⊕ (Int32 ⊕ Int32)) → Prop}  (v1 : Int64) (v3 : Int32) (s : St) (hb1 : ∀ (a3 : Int32), Acc (.inl a3) → KK SM G 35 [(1, .long v1), (3, .int a3)] [] s) (hx1 : ∀ (a3 : Int32), Acc (.inr (.inl a3)) → KK SM G 58 [(1, .long v1), (3, .int a3)] [] s) (hr : ∀ v : Int32, Acc (.inr (.inr v)) → RtI SM G cX12_instruction v s) : JJ SM G Acc (f_Mo_instruction_L35 v1 v3 s) 35 [(1, .long v1), (3, .int v3)] [] s := by
  unfold f_Mo_instruction_L35
  refine jr_iload_n C 1 rfl rfl dX12_instruction_35 ?_
  refine jr_bipush C bp_51 dX12_instruction_36 ?_
  refine jr_icmp_ge C (tgt := 58) dX12_instruction_38 (by decide) (fun h7 => ?_) (fun h7 => ?_)
  · refine jo_pos h7 ?_
    exact jr_end (fun h => hx1 v3 h)
  refine jo_neg h7 ?_
  refine jr_iload_n C 1 rfl rfl dX12_instruction_41 ?_
  refine jr_callSJ C km_X12_320 (rk hR rfl) (c_Mo_name (gl G) v3 s) rfl rfl rfl (Nat.le_of_ble_eq_true rfl) dX12_instruction_42 ?_
  refine jr_lload_n C 0 rfl rfl dX12_instruction_45 ?_
  refine jr_lcmp C dX12_instruction_46 ?_
  refine jr_if_ne C (tgt := 52) dX12_instruction_47 (by decide) (fun h8 => ?_) (fun h8 => ?_)
  · refine jo_neg h8 ?_
    refine jr_iinc C 1 rfl ii_1 (lv' := [(3, .int (v3 + 1)), (1, .long v1)]) (ltL hL rfl) rfl dX12_instruction_52 ?_
    refine jr_goto C (tgt := 35) dX12_instruction_55 (by decide) ?_
    refine jr_lv [1, 0] rfl ?_
    exact jr_end (fun h => hb1 (v3 + 1) h)
  refine jo_pos h8 ?_
  refine jr_iload_n C 1 rfl rfl dX12_instruction_50 ?_
  exact jr_end (fun h => hr v3 h _ _ dX12_instruction_51)
noncomputable def f_Mo_instruction  (s : St) : Option Int32 :=
  lt (s.1 0 25) fun x1 =>
  (wh (fun a : (Int64 × Int32) => f_Mo_instruction_L7 a.1 a.2 s) (0, x1)).bind (fun b6 =>
  (wh (fun a : Int32 => f_Mo_instruction_L35 (b6.1) a s) 0).bind (Sum.elim (fun b9 =>
  some (-1)) some))
set_option maxHeartbeats 4000000 in
set_option maxRecDepth 100000 in
theorem t_Mo_instruction (G : GG) (hR : gR G = rmx 2 40) (hL : gL G = 4) (C : Cx SM G cX12_instruction RX12) {Acc : Int32 → Prop}   (s : St) (hr : ∀ v : Int32, Acc v → RtI SM G cX12_instruction v s) : JJ SM G Acc (f_Mo_instruction s) 0 [(0, .ref (ad G 0))] [] s := by
  unfold f_Mo_instruction
  refine jr_lconst C (v := 0) (by decide) dX12_instruction_0 ?_
  refine jr_lstore_n C (lv' := [(1, .long 0), (0, .ref (ad G 0))]) (ltL hL rfl) rfl rfl dX12_instruction_1 ?_
  refine jr_aload_n C 1 rfl rfl dX12_instruction_2 ?_
  refine jr_getI C FX_10 25 oS_0.1 oS_0.2 ff_10_25.1 ff_10_25.2 fl_X12_288 dX12_instruction_3 ?_
  refine jr_ltI (fun x1 => ?_)
  refine jr_istore_n C (lv' := [(3, .int x1), (1, .long 0), (0, .ref (ad G 0))]) (ltL hL rfl) rfl rfl dX12_instruction_6 ?_
  refine jr_lv [2, 1, 0] rfl ?_
  refine jr_loopB (pc := 7) (pcx := 33) (f := fun a : (Int64 × Int32) => f_Mo_instruction_L7 a.1 a.2 s) (fun a : (Int64 × Int32) => [(0, .ref (ad G 0)), (1, .long (a.1)), (3, .int (a.2))]) (fun a : (Int64 × Int32) => s) (0, x1) (fun a => t_Mo_instruction_L7 G hR hL C  a.1 a.2 s (fun _ _ h => h) (fun _ _ h => h)) (fun b6 => ?_)
  refine jr_iconst C ic_0 dX12_instruction_33 ?_
  refine jr_istore_n C (lv' := [(3, .int 0), (0, .ref (ad G 0)), (1, .long (b6.1))]) (ltL hL rfl) rfl rfl dX12_instruction_34 ?_
  refine jr_lv [2, 0] rfl ?_
  refine jr_loopE (pc := 35) (pcx := 58) (f := fun a : Int32 => f_Mo_instruction_L35 (b6.1) a s) (fun a : Int32 => [(1, .long (b6.1)), (3, .int a)]) (fun a : Int32 => s) 0 (fun a => t_Mo_instruction_L35 G hR hL C  (b6.1) a s (fun _ h => h) (fun _ h => h) hr) (fun b9 => ?_)
  refine jr_iconst C ic_m1 dX12_instruction_58 ?_
  exact jr_end (fun h => hr (-1) h _ _ dX12_instruction_59)
set_option maxRecDepth 100000 in
theorem c_Mo_instruction (l : Launch)   (s : St) {q : Int32} (h : f_Mo_instruction s = some q) : CT SM l yX12_instruction cX12_instruction 4 (some .int) 2 40 (fun a => [.ref (a 0)]) s s (fun _ => some (.int q)) :=
  ct_I okX_M (by decide) (fun _ => Nat.le_of_ble_eq_true rfl) (fun G hl hR hL C hr => t_Mo_instruction G hR hL C (Acc := fun v => v = q)   s (fun v hv => by rw [hv]; exact hr) ⟨_, h, rfl⟩)
noncomputable def f_Mo_named  (s : St) : Option Int32 :=
  if (s.1 0 24) = 2 then
  (if ((s.1 0 26) - (s.1 0 25)) = 2 then
  ((f_Mo_sign (s.1 0 25) s).bind fun q3 =>
  if q3 = 114 then
  ((f_Mo_sign ((s.1 0 25) + 1) s).bind fun q6 =>
  if q6 < 48 then
  some (-1)
  else
  (f_Mo_sign ((s.1 0 25) + 1) s).bind fun q9 =>
  if 55 < q9 then
  some (-1)
  else
  (f_Mo_sign ((s.1 0 25) + 1) s).bind fun q12 =>
  some (q12 - 48))
  else
  some (-1))
  else
  some (-1))
  else
  some (-1)
set_option maxHeartbeats 4000000 in
set_option maxRecDepth 100000 in
theorem t_Mo_named (G : GG) (hR : gR G = rmx 1 21) (hL : gL G = 1) (C : Cx SM G cX12_named RX12) {Acc : Int32 → Prop}   (s : St) (hr : ∀ v : Int32, Acc v → RtI SM G cX12_named v s) : JJ SM G Acc (f_Mo_named s) 0 [(0, .ref (ad G 0))] [] s := by
  unfold f_Mo_named
  refine jr_aload_n C 0 rfl rfl dX12_named_0 ?_
  refine jr_getI C FX_10 24 oS_0.1 oS_0.2 ff_10_24.1 ff_10_24.2 fl_X12_295 dX12_named_1 ?_
  refine jr_iconst C ic_2 dX12_named_4 ?_
  refine jr_icmp_ne C (tgt := 80) dX12_named_5 (by decide) (fun h1 => ?_) (fun h1 => ?_)
  · refine jo_neg h1 ?_
    refine jr_iconst C ic_m1 dX12_named_80 ?_
    exact jr_end (fun h => hr (-1) h _ _ dX12_named_81)
  refine jo_pos h1 ?_
  refine jr_aload_n C 0 rfl rfl dX12_named_8 ?_
  refine jr_getI C FX_10 26 oS_0.1 oS_0.2 ff_10_26.1 ff_10_26.2 fl_X12_285 dX12_named_9 ?_
  refine jr_aload_n C 0 rfl rfl dX12_named_12 ?_
  refine jr_getI C FX_10 25 oS_0.1 oS_0.2 ff_10_25.1 ff_10_25.2 fl_X12_288 dX12_named_13 ?_
  refine jr_isub C dX12_named_16 ?_
  refine jr_iconst C ic_2 dX12_named_17 ?_
  refine jr_icmp_ne C (tgt := 80) dX12_named_18 (by decide) (fun h2 => ?_) (fun h2 => ?_)
  · refine jo_neg h2 ?_
    refine jr_iconst C ic_m1 dX12_named_80 ?_
    exact jr_end (fun h => hr (-1) h _ _ dX12_named_81)
  refine jo_pos h2 ?_
  refine jr_aload_n C 0 rfl rfl dX12_named_21 ?_
  refine jr_aload_n C 0 rfl rfl dX12_named_22 ?_
  refine jr_getI C FX_10 25 oS_0.1 oS_0.2 ff_10_25.1 ff_10_25.2 fl_X12_288 dX12_named_23 ?_
  refine jr_bind (fun q3 e4 => ?_)
  refine jr_callVI C FX_10 km_X12_291 oS_0.1 oS_0.2 (rk hR rfl) (c_Mo_sign (gl G) (s.1 0 25) s e4) rfl rfl rfl (Nat.le_of_ble_eq_true rfl) dX12_named_26 ?_
  refine jr_bipush C bp_114 dX12_named_29 ?_
  refine jr_icmp_ne C (tgt := 80) dX12_named_31 (by decide) (fun h5 => ?_) (fun h5 => ?_)
  · refine jo_neg h5 ?_
    refine jr_iconst C ic_m1 dX12_named_80 ?_
    exact jr_end (fun h => hr (-1) h _ _ dX12_named_81)
  refine jo_pos h5 ?_
  refine jr_aload_n C 0 rfl rfl dX12_named_34 ?_
  refine jr_aload_n C 0 rfl rfl dX12_named_35 ?_
  refine jr_getI C FX_10 25 oS_0.1 oS_0.2 ff_10_25.1 ff_10_25.2 fl_X12_288 dX12_named_36 ?_
  refine jr_iconst C ic_1 dX12_named_39 ?_
  refine jr_iadd C dX12_named_40 ?_
  refine jr_bind (fun q6 e7 => ?_)
  refine jr_callVI C FX_10 km_X12_291 oS_0.1 oS_0.2 (rk hR rfl) (c_Mo_sign (gl G) ((s.1 0 25) + 1) s e7) rfl rfl rfl (Nat.le_of_ble_eq_true rfl) dX12_named_41 ?_
  refine jr_bipush C bp_48 dX12_named_44 ?_
  refine jr_icmp_lt C (tgt := 80) dX12_named_46 (by decide) (fun h8 => ?_) (fun h8 => ?_)
  · refine jo_pos h8 ?_
    refine jr_iconst C ic_m1 dX12_named_80 ?_
    exact jr_end (fun h => hr (-1) h _ _ dX12_named_81)
  refine jo_neg h8 ?_
  refine jr_aload_n C 0 rfl rfl dX12_named_49 ?_
  refine jr_aload_n C 0 rfl rfl dX12_named_50 ?_
  refine jr_getI C FX_10 25 oS_0.1 oS_0.2 ff_10_25.1 ff_10_25.2 fl_X12_288 dX12_named_51 ?_
  refine jr_iconst C ic_1 dX12_named_54 ?_
  refine jr_iadd C dX12_named_55 ?_
  refine jr_bind (fun q9 e10 => ?_)
  refine jr_callVI C FX_10 km_X12_291 oS_0.1 oS_0.2 (rk hR rfl) (c_Mo_sign (gl G) ((s.1 0 25) + 1) s e10) rfl rfl rfl (Nat.le_of_ble_eq_true rfl) dX12_named_56 ?_
  refine jr_bipush C bp_55 dX12_named_59 ?_
  refine jr_icmp_gt C (tgt := 80) dX12_named_61 (by decide) (fun h11 => ?_) (fun h11 => ?_)
  · refine jo_pos h11 ?_
    refine jr_iconst C ic_m1 dX12_named_80 ?_
    exact jr_end (fun h => hr (-1) h _ _ dX12_named_81)
  refine jo_neg h11 ?_
  refine jr_aload_n C 0 rfl rfl dX12_named_64 ?_
  refine jr_aload_n C 0 rfl rfl dX12_named_65 ?_
  refine jr_getI C FX_10 25 oS_0.1 oS_0.2 ff_10_25.1 ff_10_25.2 fl_X12_288 dX12_named_66 ?_
  refine jr_iconst C ic_1 dX12_named_69 ?_
  refine jr_iadd C dX12_named_70 ?_
  refine jr_bind (fun q12 e13 => ?_)
  refine jr_callVI C FX_10 km_X12_291 oS_0.1 oS_0.2 (rk hR rfl) (c_Mo_sign (gl G) ((s.1 0 25) + 1) s e13) rfl rfl rfl (Nat.le_of_ble_eq_true rfl) dX12_named_71 ?_
  refine jr_bipush C bp_48 dX12_named_74 ?_
  refine jr_isub C dX12_named_76 ?_
  refine jr_goto C (tgt := 81) dX12_named_77 (by decide) ?_
  exact jr_end (fun h => hr (q12 - 48) h _ _ dX12_named_81)
set_option maxRecDepth 100000 in
theorem c_Mo_named (l : Launch)   (s : St) {q : Int32} (h : f_Mo_named s = some q) : CT SM l yX12_named cX12_named 1 (some .int) 1 21 (fun a => [.ref (a 0)]) s s (fun _ => some (.int q)) :=
  ct_I okX_M (by decide) (fun _ => Nat.le_of_ble_eq_true rfl) (fun G hl hR hL C hr => t_Mo_named G hR hL C (Acc := fun v => v = q)   s (fun v hv => by rw [hv]; exact hr) ⟨_, h, rfl⟩)
noncomputable def f_Mo_isSame_J51_1 (v1 : Int32) (v2 : Int32) (v3 : Int32) (v6 : Int32) (w0 : Int32) (s : St) : Option ((Int32 × Int32) ⊕ (Int32 × Int32)) :=
  some (.inl (w0, (v6 + 1)))
set_option maxHeartbeats 4000000 in
set_option maxRecDepth 100000 in
theorem t_Mo_isSame_J51_1 (G : GG) (hR : gR G = rmx 1 21) (hL : gL G = 7) (C : Cx SM G cX12_isSame RX12) {Acc : ((Int32 × Int32) ⊕ (Int32 × Int32)) → Prop}  (v1 : Int32) (v2 : Int32) (v3 : Int32) (v6 : Int32) (w0 : Int32) (s : St) (hb1 : ∀ (a5 : Int32) (a6 : Int32), Acc (.inl (a5, a6)) → KK SM G 16 [(0, .ref (ad G 0)), (1, .int v1), (2, .int v2), (3, .int v3), (5, .int a5), (6, .int a6)] [] s) (hx1 : ∀ (a5 : Int32) (a6 : Int32), Acc (.inr (a5, a6)) → KK SM G 59 [(0, .ref (ad G 0)), (1, .int v1), (2, .int v2), (3, .int v3), (5, .int a5), (6, .int a6)] [] s) : JJ SM G Acc (f_Mo_isSame_J51_1 v1 v2 v3 v6 w0 s) 51 [(0, .ref (ad G 0)), (1, .int v1), (2, .int v2), (3, .int v3), (6, .int v6)] [.int w0] s := by
  unfold f_Mo_isSame_J51_1
  refine jr_istore C (lv' := [(5, .int w0), (0, .ref (ad G 0)), (1, .int v1), (2, .int v2), (3, .int v3), (6, .int v6)]) (ltL hL rfl) rfl dX12_isSame_51 ?_
  refine jr_iinc C 5 rfl ii_1 (lv' := [(6, .int (v6 + 1)), (5, .int w0), (0, .ref (ad G 0)), (1, .int v1), (2, .int v2), (3, .int v3)]) (ltL hL rfl) rfl dX12_isSame_53 ?_
  refine jr_goto C (tgt := 16) dX12_isSame_56 (by decide) ?_
  refine jr_lv [2, 3, 4, 5, 1, 0] rfl ?_
  exact jr_end (fun h => hb1 w0 (v6 + 1) h)
noncomputable def f_Mo_isSame_L16 (v1 : Int32) (v2 : Int32) (v3 : Int32) (v5 : Int32) (v6 : Int32) (s : St) : Option ((Int32 × Int32) ⊕ (Int32 × Int32)) :=
  if v5 = 0 then
  some (.inr (v5, v6))
  else
  if v2 ≤ v6 then
  some (.inr (v5, v6))
  else
  (f_Mo_sign (v1 + v6) s).bind fun q4 =>
  (f_Mo_sign (v3 + v6) s).bind fun q6 =>
  if q4 = q6 then
  f_Mo_isSame_J51_1 v1 v2 v3 v6 1 s
  else
  f_Mo_isSame_J51_1 v1 v2 v3 v6 0 s
set_option maxHeartbeats 4000000 in
set_option maxRecDepth 100000 in
theorem t_Mo_isSame_L16 (G : GG) (hR : gR G = rmx 1 21) (hL : gL G = 7) (C : Cx SM G cX12_isSame RX12) {Acc : ((Int32 × Int32) ⊕ (Int32 × Int32)) → Prop}  (v1 : Int32) (v2 : Int32) (v3 : Int32) (v5 : Int32) (v6 : Int32) (s : St) (hb1 : ∀ (a5 : Int32) (a6 : Int32), Acc (.inl (a5, a6)) → KK SM G 16 [(0, .ref (ad G 0)), (1, .int v1), (2, .int v2), (3, .int v3), (5, .int a5), (6, .int a6)] [] s) (hx1 : ∀ (a5 : Int32) (a6 : Int32), Acc (.inr (a5, a6)) → KK SM G 59 [(0, .ref (ad G 0)), (1, .int v1), (2, .int v2), (3, .int v3), (5, .int a5), (6, .int a6)] [] s) : JJ SM G Acc (f_Mo_isSame_L16 v1 v2 v3 v5 v6 s) 16 [(0, .ref (ad G 0)), (1, .int v1), (2, .int v2), (3, .int v3), (5, .int v5), (6, .int v6)] [] s := by
  unfold f_Mo_isSame_L16
  refine jr_iload C 4 rfl dX12_isSame_16 ?_
  refine jr_if_eq C (tgt := 59) dX12_isSame_18 (by decide) (fun h2 => ?_) (fun h2 => ?_)
  · refine jo_pos h2 ?_
    exact jr_end (fun h => hx1 v5 v6 h)
  refine jo_neg h2 ?_
  refine jr_iload C 5 rfl dX12_isSame_21 ?_
  refine jr_iload_n C 2 rfl rfl dX12_isSame_23 ?_
  refine jr_icmp_ge C (tgt := 59) dX12_isSame_24 (by decide) (fun h3 => ?_) (fun h3 => ?_)
  · refine jo_pos h3 ?_
    exact jr_end (fun h => hx1 v5 v6 h)
  refine jo_neg h3 ?_
  refine jr_aload_n C 0 rfl rfl dX12_isSame_27 ?_
  refine jr_iload_n C 1 rfl rfl dX12_isSame_28 ?_
  refine jr_iload C 5 rfl dX12_isSame_29 ?_
  refine jr_iadd C dX12_isSame_31 ?_
  refine jr_bind (fun q4 e5 => ?_)
  refine jr_callVI C FX_10 km_X12_291 oS_0.1 oS_0.2 (rk hR rfl) (c_Mo_sign (gl G) (v1 + v6) s e5) rfl rfl rfl (Nat.le_of_ble_eq_true rfl) dX12_isSame_32 ?_
  refine jr_aload_n C 0 rfl rfl dX12_isSame_35 ?_
  refine jr_iload_n C 3 rfl rfl dX12_isSame_36 ?_
  refine jr_iload C 5 rfl dX12_isSame_37 ?_
  refine jr_iadd C dX12_isSame_39 ?_
  refine jr_bind (fun q6 e7 => ?_)
  refine jr_callVI C FX_10 km_X12_291 oS_0.1 oS_0.2 (rk hR rfl) (c_Mo_sign (gl G) (v3 + v6) s e7) rfl rfl rfl (Nat.le_of_ble_eq_true rfl) dX12_isSame_40 ?_
  refine jr_icmp_ne C (tgt := 50) dX12_isSame_43 (by decide) (fun h8 => ?_) (fun h8 => ?_)
  · refine jo_neg h8 ?_
    refine jr_iconst C ic_0 dX12_isSame_50 ?_
    refine jr_lv [0, 1, 2, 3, 5] rfl ?_
    exact t_Mo_isSame_J51_1 G hR hL C  v1 v2 v3 v6 0 s hb1 hx1
  refine jo_pos h8 ?_
  refine jr_iconst C ic_1 dX12_isSame_46 ?_
  refine jr_goto C (tgt := 51) dX12_isSame_47 (by decide) ?_
  refine jr_lv [0, 1, 2, 3, 5] rfl ?_
  exact t_Mo_isSame_J51_1 G hR hL C  v1 v2 v3 v6 1 s hb1 hx1
noncomputable def f_Mo_isSame_J11 (v1 : Int32) (v2 : Int32) (v3 : Int32) (w0 : Int32) (s : St) : Option Int32 :=
  (wh (fun a : (Int32 × Int32) => f_Mo_isSame_L16 v1 v2 v3 a.1 a.2 s) (w0, 0)).bind (fun b9 =>
  some (bN (b9.1)))
set_option maxHeartbeats 4000000 in
set_option maxRecDepth 100000 in
theorem t_Mo_isSame_J11 (G : GG) (hR : gR G = rmx 1 21) (hL : gL G = 7) (C : Cx SM G cX12_isSame RX12) {Acc : Int32 → Prop}  (v1 : Int32) (v2 : Int32) (v3 : Int32) (w0 : Int32) (s : St) (hr : ∀ v : Int32, Acc v → RtZ SM G cX12_isSame v s) : JJ SM G Acc (f_Mo_isSame_J11 v1 v2 v3 w0 s) 11 [(0, .ref (ad G 0)), (1, .int v1), (2, .int v2), (3, .int v3)] [.int w0] s := by
  unfold f_Mo_isSame_J11
  refine jr_istore C (lv' := [(5, .int w0), (0, .ref (ad G 0)), (1, .int v1), (2, .int v2), (3, .int v3)]) (ltL hL rfl) rfl dX12_isSame_11 ?_
  refine jr_iconst C ic_0 dX12_isSame_13 ?_
  refine jr_istore C (lv' := [(6, .int 0), (5, .int w0), (0, .ref (ad G 0)), (1, .int v1), (2, .int v2), (3, .int v3)]) (ltL hL rfl) rfl dX12_isSame_14 ?_
  refine jr_lv [2, 3, 4, 5, 1, 0] rfl ?_
  refine jr_loopB (pc := 16) (pcx := 59) (f := fun a : (Int32 × Int32) => f_Mo_isSame_L16 v1 v2 v3 a.1 a.2 s) (fun a : (Int32 × Int32) => [(0, .ref (ad G 0)), (1, .int v1), (2, .int v2), (3, .int v3), (5, .int (a.1)), (6, .int (a.2))]) (fun a : (Int32 × Int32) => s) (w0, 0) (fun a => t_Mo_isSame_L16 G hR hL C  v1 v2 v3 a.1 a.2 s (fun _ _ h => h) (fun _ _ h => h)) (fun b9 => ?_)
  refine jr_iload C 4 rfl dX12_isSame_59 ?_
  exact jr_end (fun h => hr (bN (b9.1)) h _ _ _ rfl dX12_isSame_61)
noncomputable def f_Mo_isSame (v1 : Int32) (v2 : Int32) (v3 : Int32) (v4 : Int32) (s : St) : Option Int32 :=
  if v2 = v4 then
  f_Mo_isSame_J11 v1 v2 v3 1 s
  else
  f_Mo_isSame_J11 v1 v2 v3 0 s
set_option maxHeartbeats 4000000 in
set_option maxRecDepth 100000 in
theorem t_Mo_isSame (G : GG) (hR : gR G = rmx 1 21) (hL : gL G = 7) (C : Cx SM G cX12_isSame RX12) {Acc : Int32 → Prop}  (v1 : Int32) (v2 : Int32) (v3 : Int32) (v4 : Int32) (s : St) (hr : ∀ v : Int32, Acc v → RtZ SM G cX12_isSame v s) : JJ SM G Acc (f_Mo_isSame v1 v2 v3 v4 s) 0 [(0, .ref (ad G 0)), (1, .int v1), (2, .int v2), (3, .int v3), (4, .int v4)] [] s := by
  unfold f_Mo_isSame
  refine jr_iload_n C 2 rfl rfl dX12_isSame_0 ?_
  refine jr_iload C 4 rfl dX12_isSame_1 ?_
  refine jr_icmp_ne C (tgt := 10) dX12_isSame_3 (by decide) (fun h1 => ?_) (fun h1 => ?_)
  · refine jo_neg h1 ?_
    refine jr_iconst C ic_0 dX12_isSame_10 ?_
    refine jr_lv [0, 1, 2, 3] rfl ?_
    exact t_Mo_isSame_J11 G hR hL C  v1 v2 v3 0 s hr
  refine jo_pos h1 ?_
  refine jr_iconst C ic_1 dX12_isSame_6 ?_
  refine jr_goto C (tgt := 11) dX12_isSame_7 (by decide) ?_
  refine jr_lv [0, 1, 2, 3] rfl ?_
  exact t_Mo_isSame_J11 G hR hL C  v1 v2 v3 1 s hr
set_option maxRecDepth 100000 in
theorem c_Mo_isSame (l : Launch)  (v1 : Int32) (v2 : Int32) (v3 : Int32) (v4 : Int32) (s : St) {q : Int32} (h : f_Mo_isSame v1 v2 v3 v4 s = some q) : CT SM l yX12_isSame cX12_isSame 7 (some .boolean) 1 21 (fun a => [.ref (a 0), .int v1, .int v2, .int v3, .int v4]) s s (fun _ => some (.int q)) :=
  ct_Z okX_M (by decide) (fun _ => Nat.le_of_ble_eq_true rfl) (fun G hl hR hL C hr => t_Mo_isSame G hR hL C (Acc := fun v => v = q)  v1 v2 v3 v4 s (fun v hv => by rw [hv]; exact hr) ⟨_, h, rfl⟩)
noncomputable def f_Mo_labelOf_L2 (v1 : Int32) (v2 : Int32) (v3 : Int32) (s : St) : Option (Int32 ⊕ (Int32 ⊕ Int32)) :=
  if (s.1 0 17) ≤ v3 then
  some (.inr (.inl v3))
  else
  gd v3 201 <|
  gd v3 201 <|
  (f_Mo_isSame v1 v2 (s.1 6 (v3 : Int32).toNatClampNeg) (s.1 7 (v3 : Int32).toNatClampNeg) s).bind fun q2 =>
  if q2 = 0 then
  some (.inl (v3 + 1))
  else
  some (.inr (.inr v3))
set_option maxHeartbeats 4000000 in
set_option maxRecDepth 100000 in
theorem t_Mo_labelOf_L2 (G : GG) (hR : gR G = rmx 2 47) (hL : gL G = 4) (C : Cx SM G cX12_labelOf RX12) {Acc : (Int32 ⊕ (Int32 ⊕ Int32)) → Prop}  (v1 : Int32) (v2 : Int32) (v3 : Int32) (s : St) (hb1 : ∀ (a3 : Int32), Acc (.inl a3) → KK SM G 2 [(0, .ref (ad G 0)), (1, .int v1), (2, .int v2), (3, .int a3)] [] s) (hx1 : ∀ (a3 : Int32), Acc (.inr (.inl a3)) → KK SM G 39 [(0, .ref (ad G 0)), (1, .int v1), (2, .int v2), (3, .int a3)] [] s) (hr : ∀ v : Int32, Acc (.inr (.inr v)) → RtI SM G cX12_labelOf v s) : JJ SM G Acc (f_Mo_labelOf_L2 v1 v2 v3 s) 2 [(0, .ref (ad G 0)), (1, .int v1), (2, .int v2), (3, .int v3)] [] s := by
  unfold f_Mo_labelOf_L2
  refine jr_iload_n C 3 rfl rfl dX12_labelOf_2 ?_
  refine jr_aload_n C 0 rfl rfl dX12_labelOf_3 ?_
  refine jr_getI C FX_10 17 oS_0.1 oS_0.2 ff_10_17.1 ff_10_17.2 fl_X12_323 dX12_labelOf_4 ?_
  refine jr_icmp_ge C (tgt := 39) dX12_labelOf_7 (by decide) (fun h1 => ?_) (fun h1 => ?_)
  · refine jo_pos h1 ?_
    exact jr_end (fun h => hx1 v3 h)
  refine jo_neg h1 ?_
  refine jr_aload_n C 0 rfl rfl dX12_labelOf_10 ?_
  refine jr_iload_n C 1 rfl rfl dX12_labelOf_11 ?_
  refine jr_iload_n C 2 rfl rfl dX12_labelOf_12 ?_
  refine jr_aload_n C 0 rfl rfl dX12_labelOf_13 ?_
  refine jr_getR C FX_10 7 oS_0.1 oS_0.2 ff_10_7.1 ff_10_7.2 rfl fl_X12_27 dX12_labelOf_14 ?_
  refine jr_iload_n C 3 rfl rfl dX12_labelOf_17 ?_
  refine jr_iald C oS_6.1 oS_6.2.1 oS_6.2.2 dX12_labelOf_18 ?_
  refine jr_aload_n C 0 rfl rfl dX12_labelOf_19 ?_
  refine jr_getR C FX_10 8 oS_0.1 oS_0.2 ff_10_8.1 ff_10_8.2 rfl fl_X12_30 dX12_labelOf_20 ?_
  refine jr_iload_n C 3 rfl rfl dX12_labelOf_23 ?_
  refine jr_iald C oS_7.1 oS_7.2.1 oS_7.2.2 dX12_labelOf_24 ?_
  refine jr_bind (fun q2 e3 => ?_)
  refine jr_callVI C FX_10 km_X12_326 oS_0.1 oS_0.2 (rk hR rfl) (c_Mo_isSame (gl G) v1 v2 (s.1 6 (v3 : Int32).toNatClampNeg) (s.1 7 (v3 : Int32).toNatClampNeg) s e3) rfl rfl rfl (Nat.le_of_ble_eq_true rfl) dX12_labelOf_25 ?_
  refine jr_if_eq C (tgt := 33) dX12_labelOf_28 (by decide) (fun h4 => ?_) (fun h4 => ?_)
  · refine jo_pos h4 ?_
    refine jr_iinc C 3 rfl ii_1 (lv' := [(3, .int (v3 + 1)), (0, .ref (ad G 0)), (1, .int v1), (2, .int v2)]) (ltL hL rfl) rfl dX12_labelOf_33 ?_
    refine jr_goto C (tgt := 2) dX12_labelOf_36 (by decide) ?_
    refine jr_lv [1, 2, 3, 0] rfl ?_
    exact jr_end (fun h => hb1 (v3 + 1) h)
  refine jo_neg h4 ?_
  refine jr_iload_n C 3 rfl rfl dX12_labelOf_31 ?_
  exact jr_end (fun h => hr v3 h _ _ dX12_labelOf_32)
noncomputable def f_Mo_labelOf (v1 : Int32) (v2 : Int32) (s : St) : Option Int32 :=
  (wh (fun a : Int32 => f_Mo_labelOf_L2 v1 v2 a s) 0).bind (Sum.elim (fun b5 =>
  some (-1)) some)
set_option maxHeartbeats 4000000 in
set_option maxRecDepth 100000 in
theorem t_Mo_labelOf (G : GG) (hR : gR G = rmx 2 47) (hL : gL G = 4) (C : Cx SM G cX12_labelOf RX12) {Acc : Int32 → Prop}  (v1 : Int32) (v2 : Int32) (s : St) (hr : ∀ v : Int32, Acc v → RtI SM G cX12_labelOf v s) : JJ SM G Acc (f_Mo_labelOf v1 v2 s) 0 [(0, .ref (ad G 0)), (1, .int v1), (2, .int v2)] [] s := by
  unfold f_Mo_labelOf
  refine jr_iconst C ic_0 dX12_labelOf_0 ?_
  refine jr_istore_n C (lv' := [(3, .int 0), (0, .ref (ad G 0)), (1, .int v1), (2, .int v2)]) (ltL hL rfl) rfl rfl dX12_labelOf_1 ?_
  refine jr_lv [1, 2, 3, 0] rfl ?_
  refine jr_loopE (pc := 2) (pcx := 39) (f := fun a : Int32 => f_Mo_labelOf_L2 v1 v2 a s) (fun a : Int32 => [(0, .ref (ad G 0)), (1, .int v1), (2, .int v2), (3, .int a)]) (fun a : Int32 => s) 0 (fun a => t_Mo_labelOf_L2 G hR hL C  v1 v2 a s (fun _ h => h) (fun _ h => h) hr) (fun b5 => ?_)
  refine jr_iconst C ic_m1 dX12_labelOf_39 ?_
  exact jr_end (fun h => hr (-1) h _ _ dX12_labelOf_40)
set_option maxRecDepth 100000 in
theorem c_Mo_labelOf (l : Launch)  (v1 : Int32) (v2 : Int32) (s : St) {q : Int32} (h : f_Mo_labelOf v1 v2 s = some q) : CT SM l yX12_labelOf cX12_labelOf 4 (some .int) 2 47 (fun a => [.ref (a 0), .int v1, .int v2]) s s (fun _ => some (.int q)) :=
  ct_I okX_M (by decide) (fun _ => Nat.le_of_ble_eq_true rfl) (fun G hl hR hL C hr => t_Mo_labelOf G hR hL C (Acc := fun v => v = q)  v1 v2 s (fun v hv => by rw [hv]; exact hr) ⟨_, h, rfl⟩)
