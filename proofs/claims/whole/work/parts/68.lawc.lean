/-! the law's cases, each over the contracts of its two calls -/
set_option maxRecDepth 100000 in
set_option maxHeartbeats 4000000 in
theorem law_addStation {p : Program} {l : Launch} {e : Env} {s : State} {m : MethodId} {below : List Frame} {meth : Method} {c : Code} {H : Heap} {locs : List Loc} {cells slots : Nat} {Q : State → Prop} {Z : gZ} {cL : ClassId} {A : Nat → Prop} {ls : Array Slot} {b L : Nat} {xs : Nat → Int32} (F : gF Z p m s #[Value.ref b] meth c cL_law 9 RL ret) (hxK : xK s) (hxZ : xZ A s s.heap) (hKL : gKL Z cL s) (hnC : nC s) (hX : va_X b L xs s s.heap) (hbl : b < s.heap.size) (hbA : ¬ A b) (hL3 : L ≤ 3584) {i : Nat} (hi : i + 6 < L) {ax o : Nat} {AR : Nat → Nat} (hl : lv_has ls 9 [(0, .ref b), (1, .ref ax), (2, .ref (AR 0)), (3, .ref o), (4, .int (nI i))]) {ws1 : va_W} {f : Nat → Int64} {N N' : St} (G : gG Z A s ((ws1 ++ [(o, outE cL f)]) ++ wR Z AR N 16) H locs) {k bb : Int32} {P C : va_W → Prop} {rmL rmR : Room} {mc ms mc2 ms2 : Nat} {x1 x2 x3 x4 x5 x6 : Int32} (ex1 : (xs (i + 1)) = x1) (ex2 : (xs (i + 2)) = x2) (ex3 : (xs (i + 3)) = x3) (ex4 : (xs (i + 4)) = x4) (ex5 : (xs (i + 5)) = x5) (ex6 : (xs (i + 6)) = x6) (hL : gL Z cL l yL_addStation cL_addStation 9 [(0, 18, 21, 13), (0, 18, 25, 15)] rmL [.ref ax, .int x1, .int x2, .int x3, .int x4, .int x5, .int x6, .ref o] (ws1 ++ [(o, outE cL f)]) k P mc ms) (hrL : rmL.cells = mc ∧ rmL.slots = ms) (hRL : rmL.frames + 1 ≤ room_1.frames ∧ 8 + (9 + 11) + rmL.locals ≤ room_1.locals) (hR : gM Z l yX8_addStation cX8_addStation 8 (some .int) rmR [.ref (AR 0), .int x1, .int x2, .int x3, .int x4, .int x5, .int x6] (wR Z AR N 16) (some (.int bb)) (wR Z AR N' 16) mc2 ms2) (hrR : rmR.cells = mc2 ∧ rmR.slots = ms2) (hRR : rmR.frames + 1 ≤ room_1.frames ∧ 8 + (8 + 11) + rmR.locals ≤ room_1.locals) (hroom : cells + mc + mc2 ≤ room_1.cells ∧ slots + ms + ms2 ≤ room_1.slots) (hk : N' 1 0 0 = k) (hP : ∀ w, P w → ∃ (ws2 : va_W) (g : Nat → Int64), w = ws2 ++ [(o, outE cL g)] ∧ (k = 0 → g 0 = bb.toInt64) ∧ C ws2) (kk : ∀ (H : Heap) (locs : List Loc) (ws2 : va_W) (g : Nat → Int64) (ls : Array Slot), C ws2 → gG Z A s ((ws2 ++ [(o, outE cL g)]) ++ wR Z AR N' 16) H locs → lv_has ls 9 [(0, .ref b), (1, .ref ax), (2, .ref (AR 0)), (3, .ref o), (4, .int (nI i))] → W p l e room_1 s m #[Value.ref b] below meth c H locs (cells + mc + mc2) (slots + ms + ms2) Q (F0 m 1524 ls [])) : W p l e room_1 s m #[Value.ref b] below meth c H locs cells slots Q (F0 m 140 ls []) := by
  subst ex1 ex2 ex3 ex4 ex5 ex6
  have hx := F.1
  have hb := F.2.1
  refine lv_aload_n hx hb dL_law_140 rfl (lv_at hl 1 rfl) ?_
  refine gl_arg (k := 1) F G hX hbl hbA (by omega) hL3 (lv_at hl 0 rfl) (lv_at hl 4 rfl) dL_law_141 dL_law_142 dL_law_144 dL_law_145 dL_law_146 rfl ?_
  refine gl_arg (k := 2) F G hX hbl hbA (by omega) hL3 (lv_at hl 0 rfl) (lv_at hl 4 rfl) dL_law_147 dL_law_148 dL_law_150 dL_law_151 dL_law_152 rfl ?_
  refine gl_arg (k := 3) F G hX hbl hbA (by omega) hL3 (lv_at hl 0 rfl) (lv_at hl 4 rfl) dL_law_153 dL_law_154 dL_law_156 dL_law_157 dL_law_158 rfl ?_
  refine gl_arg (k := 4) F G hX hbl hbA (by omega) hL3 (lv_at hl 0 rfl) (lv_at hl 4 rfl) dL_law_159 dL_law_160 dL_law_162 dL_law_163 dL_law_164 rfl ?_
  refine gl_arg (k := 5) F G hX hbl hbA (by omega) hL3 (lv_at hl 0 rfl) (lv_at hl 4 rfl) dL_law_165 dL_law_166 dL_law_168 dL_law_169 dL_law_170 rfl ?_
  refine gl_argB (k := 6) F G hX hbl hbA (by omega) hL3 (lv_at hl 0 rfl) (lv_at hl 4 rfl) dL_law_171 dL_law_172 dL_law_174 dL_law_176 dL_law_177 rfl ?_
  refine lv_aload_n hx hb dL_law_178 rfl (lv_at hl 3 rfl) ?_
  refine gl_callL F hxK hxZ hKL hnC G (n := 8) (As := [.ref ax, .int (xs (i + 1)), .int (xs (i + 2)), .int (xs (i + 3)), .int (xs (i + 4)), .int (xs (i + 5)), .int (xs (i + 6)), .ref o]) (rest := []) hL wc_addStation w1_0 ⟨⟨by decide +kernel, by decide +kernel⟩, by decide +kernel⟩ w2_41 w2_40 rfl hrL hRL rfl (Nat.le_of_ble_eq_true rfl) hl.1 ⟨by omega, by omega⟩ dL_law_179 (fun H locs w hw G => ?_)
  obtain ⟨ws2, g, rfl, hg, hC⟩ := hP w hw
  refine lv_istore (lv' := [(5, .int k), (0, .ref b), (1, .ref ax), (2, .ref (AR 0)), (3, .ref o), (4, .int (nI i))]) hx hb dL_law_182 hl (by decide) rfl (fun ls hl => ?_)
  refine lv_aload_n hx hb dL_law_184 rfl (lv_at hl 3 rfl) ?_
  refine gl_arg (k := 1) F G hX hbl hbA (by omega) hL3 (lv_at hl 1 rfl) (lv_at hl 5 rfl) dL_law_185 dL_law_186 dL_law_188 dL_law_189 dL_law_190 rfl ?_
  refine gl_arg (k := 2) F G hX hbl hbA (by omega) hL3 (lv_at hl 1 rfl) (lv_at hl 5 rfl) dL_law_191 dL_law_192 dL_law_194 dL_law_195 dL_law_196 rfl ?_
  refine gl_arg (k := 3) F G hX hbl hbA (by omega) hL3 (lv_at hl 1 rfl) (lv_at hl 5 rfl) dL_law_197 dL_law_198 dL_law_200 dL_law_201 dL_law_202 rfl ?_
  refine gl_arg (k := 4) F G hX hbl hbA (by omega) hL3 (lv_at hl 1 rfl) (lv_at hl 5 rfl) dL_law_203 dL_law_204 dL_law_206 dL_law_207 dL_law_208 rfl ?_
  refine gl_arg (k := 5) F G hX hbl hbA (by omega) hL3 (lv_at hl 1 rfl) (lv_at hl 5 rfl) dL_law_209 dL_law_210 dL_law_212 dL_law_213 dL_law_214 rfl ?_
  refine gl_argB (k := 6) F G hX hbl hbA (by omega) hL3 (lv_at hl 1 rfl) (lv_at hl 5 rfl) dL_law_215 dL_law_216 dL_law_218 dL_law_220 dL_law_221 rfl ?_
  refine ge_callV F G.comm (ci := 8) (k := 0) (As := [.int (xs (i + 1)), .int (xs (i + 2)), .int (xs (i + 3)), .int (xs (i + 4)), .int (xs (i + 5)), .int (xs (i + 6))]) (rest := []) hR.toE kY_X8_addStation kV_X8_addStation (gR_model (Nat.le_refl 16)) rfl rfl w4_114 rfl hrR hRR rfl (Nat.le_of_ble_eq_true rfl) hl.1 ⟨by omega, by omega⟩ dL_law_222 rfl (fun H locs w hw G => ?_)
  subst hw
  refine lv_istore (lv' := [(6, .int bb), (5, .int k), (0, .ref b), (1, .ref ax), (2, .ref (AR 0)), (3, .ref o), (4, .int (nI i))]) hx hb dL_law_225 hl (by decide) rfl (fun ls hl => ?_)
  refine lv_aload_n hx hb dL_law_227 rfl (lv_at hl 4 rfl) ?_
  refine ge_callV F G (ci := 8) (k := 0) (As := []) (rest := []) (c_X8_thrown Z l AR N' 16 (Nat.le_refl 16)).toE kY_X8_thrown kV_X8_thrown (gR_model (Nat.le_refl 16)) rfl rfl w4_110 rfl ⟨rfl, rfl⟩ ⟨(Nat.le_of_ble_eq_true rfl), (Nat.le_of_ble_eq_true rfl)⟩ rfl (Nat.le_of_ble_eq_true rfl) hl.1 ⟨hroom.1, hroom.2⟩ dL_law_228 rfl (fun H locs w hw G => ?_)
  subst hw
  rw [hk]
  refine lv_iload hx hb dL_law_231 (lv_at hl 1 rfl) ?_
  refine lv_icmp_eq (tgt := 238) hx hb dL_law_233 (by decide) (fun h => ?_) (fun h => absurd rfl h)
  refine lv_iload hx hb dL_law_238 (lv_at hl 1 rfl) ?_
  have fin : W p l e room_1 s m #[Value.ref b] below meth c H locs (cells + mc + mc2) (slots + ms + ms2) Q (F0 m 255 ls []) := by
    refine lv_goto (tgt := 1524) hx hb dL_law_255 (by decide) ?_
    exact kk H locs ws2 g ls hC G.comm (lv_sub hl [2, 3, 4, 5, 6] rfl)
  refine lv_if_ne (tgt := 255) hx hb dL_law_240 (by decide) (fun h => fin) (fun h => ?_)
  have h0 : k = 0 := h
  refine lv_aload_n hx hb dL_law_243 rfl (lv_at hl 5 rfl) ?_
  refine lv_iconst (v := 0) hx hb dL_law_244 rfl ?_
  refine gl_lald F hKL G.comm dL_law_245 ?_
  refine lv_iload hx hb dL_law_246 (lv_at hl 0 rfl) ?_
  refine lv_i2l (v := bb.toInt64) hx hb dL_law_248 rfl ?_
  rw [hg h0]
  refine W.lcmp hx hb dL_law_249 ?_
  rw [cmp_self]
  exact lv_if_eq (tgt := 255) hx hb dL_law_250 (by decide) (fun _ => fin) (fun h => absurd rfl h)
set_option maxRecDepth 100000 in
set_option maxHeartbeats 4000000 in
theorem law_join {p : Program} {l : Launch} {e : Env} {s : State} {m : MethodId} {below : List Frame} {meth : Method} {c : Code} {H : Heap} {locs : List Loc} {cells slots : Nat} {Q : State → Prop} {Z : gZ} {cL : ClassId} {A : Nat → Prop} {ls : Array Slot} {b L : Nat} {xs : Nat → Int32} (F : gF Z p m s #[Value.ref b] meth c cL_law 9 RL ret) (hxK : xK s) (hxZ : xZ A s s.heap) (hKL : gKL Z cL s) (hnC : nC s) (hX : va_X b L xs s s.heap) (hbl : b < s.heap.size) (hbA : ¬ A b) (hL3 : L ≤ 3584) {i : Nat} (hi : i + 6 < L) {ax o : Nat} {AR : Nat → Nat} (hl : lv_has ls 9 [(0, .ref b), (1, .ref ax), (2, .ref (AR 0)), (3, .ref o), (4, .int (nI i))]) {ws1 : va_W} {f : Nat → Int64} {N N' : St} (G : gG Z A s ((ws1 ++ [(o, outE cL f)]) ++ wR Z AR N 16) H locs) {k bb : Int32} {P C : va_W → Prop} {rmL rmR : Room} {mc ms mc2 ms2 : Nat} {x1 x2 : Int32} (ex1 : (xs (i + 1)) = x1) (ex2 : (xs (i + 2)) = x2) (hL : gL Z cL l yL_join cL_join 5 [(0, 10, 13, 13), (0, 10, 17, 15)] rmL [.ref ax, .int x1, .int x2, .ref o] (ws1 ++ [(o, outE cL f)]) k P mc ms) (hrL : rmL.cells = mc ∧ rmL.slots = ms) (hRL : rmL.frames + 1 ≤ room_1.frames ∧ 8 + (5 + 11) + rmL.locals ≤ room_1.locals) (hR : gM Z l yX8_join cX8_join 3 (some .int) rmR [.ref (AR 0), .int x1, .int x2] (wR Z AR N 16) (some (.int bb)) (wR Z AR N' 16) mc2 ms2) (hrR : rmR.cells = mc2 ∧ rmR.slots = ms2) (hRR : rmR.frames + 1 ≤ room_1.frames ∧ 8 + (3 + 11) + rmR.locals ≤ room_1.locals) (hroom : cells + mc + mc2 ≤ room_1.cells ∧ slots + ms + ms2 ≤ room_1.slots) (hk : N' 1 0 0 = k) (hP : ∀ w, P w → ∃ (ws2 : va_W) (g : Nat → Int64), w = ws2 ++ [(o, outE cL g)] ∧ (k = 0 → g 0 = bb.toInt64) ∧ C ws2) (kk : ∀ (H : Heap) (locs : List Loc) (ws2 : va_W) (g : Nat → Int64) (ls : Array Slot), C ws2 → gG Z A s ((ws2 ++ [(o, outE cL g)]) ++ wR Z AR N' 16) H locs → lv_has ls 9 [(0, .ref b), (1, .ref ax), (2, .ref (AR 0)), (3, .ref o), (4, .int (nI i))] → W p l e room_1 s m #[Value.ref b] below meth c H locs (cells + mc + mc2) (slots + ms + ms2) Q (F0 m 1524 ls [])) : W p l e room_1 s m #[Value.ref b] below meth c H locs cells slots Q (F0 m 258 ls []) := by
  subst ex1 ex2
  have hx := F.1
  have hb := F.2.1
  refine lv_aload_n hx hb dL_law_258 rfl (lv_at hl 1 rfl) ?_
  refine gl_arg (k := 1) F G hX hbl hbA (by omega) hL3 (lv_at hl 0 rfl) (lv_at hl 4 rfl) dL_law_259 dL_law_260 dL_law_262 dL_law_263 dL_law_264 rfl ?_
  refine gl_arg (k := 2) F G hX hbl hbA (by omega) hL3 (lv_at hl 0 rfl) (lv_at hl 4 rfl) dL_law_265 dL_law_266 dL_law_268 dL_law_269 dL_law_270 rfl ?_
  refine lv_aload_n hx hb dL_law_271 rfl (lv_at hl 3 rfl) ?_
  refine gl_callL F hxK hxZ hKL hnC G (n := 4) (As := [.ref ax, .int (xs (i + 1)), .int (xs (i + 2)), .ref o]) (rest := []) hL wc_join w1_0 ⟨⟨by decide +kernel, by decide +kernel⟩, by decide +kernel⟩ w2_173 w2_172 rfl hrL hRL rfl (Nat.le_of_ble_eq_true rfl) hl.1 ⟨by omega, by omega⟩ dL_law_272 (fun H locs w hw G => ?_)
  obtain ⟨ws2, g, rfl, hg, hC⟩ := hP w hw
  refine lv_istore (lv' := [(5, .int k), (0, .ref b), (1, .ref ax), (2, .ref (AR 0)), (3, .ref o), (4, .int (nI i))]) hx hb dL_law_275 hl (by decide) rfl (fun ls hl => ?_)
  refine lv_aload_n hx hb dL_law_277 rfl (lv_at hl 3 rfl) ?_
  refine gl_arg (k := 1) F G hX hbl hbA (by omega) hL3 (lv_at hl 1 rfl) (lv_at hl 5 rfl) dL_law_278 dL_law_279 dL_law_281 dL_law_282 dL_law_283 rfl ?_
  refine gl_arg (k := 2) F G hX hbl hbA (by omega) hL3 (lv_at hl 1 rfl) (lv_at hl 5 rfl) dL_law_284 dL_law_285 dL_law_287 dL_law_288 dL_law_289 rfl ?_
  refine ge_callV F G.comm (ci := 8) (k := 0) (As := [.int (xs (i + 1)), .int (xs (i + 2))]) (rest := []) hR.toE kY_X8_join kV_X8_join (gR_model (Nat.le_refl 16)) rfl rfl w4_128 rfl hrR hRR rfl (Nat.le_of_ble_eq_true rfl) hl.1 ⟨by omega, by omega⟩ dL_law_290 rfl (fun H locs w hw G => ?_)
  subst hw
  refine lv_istore (lv' := [(6, .int bb), (5, .int k), (0, .ref b), (1, .ref ax), (2, .ref (AR 0)), (3, .ref o), (4, .int (nI i))]) hx hb dL_law_293 hl (by decide) rfl (fun ls hl => ?_)
  refine lv_aload_n hx hb dL_law_295 rfl (lv_at hl 4 rfl) ?_
  refine ge_callV F G (ci := 8) (k := 0) (As := []) (rest := []) (c_X8_thrown Z l AR N' 16 (Nat.le_refl 16)).toE kY_X8_thrown kV_X8_thrown (gR_model (Nat.le_refl 16)) rfl rfl w4_110 rfl ⟨rfl, rfl⟩ ⟨(Nat.le_of_ble_eq_true rfl), (Nat.le_of_ble_eq_true rfl)⟩ rfl (Nat.le_of_ble_eq_true rfl) hl.1 ⟨hroom.1, hroom.2⟩ dL_law_296 rfl (fun H locs w hw G => ?_)
  subst hw
  rw [hk]
  refine lv_iload hx hb dL_law_299 (lv_at hl 1 rfl) ?_
  refine lv_icmp_eq (tgt := 306) hx hb dL_law_301 (by decide) (fun h => ?_) (fun h => absurd rfl h)
  refine lv_iload hx hb dL_law_306 (lv_at hl 1 rfl) ?_
  have fin : W p l e room_1 s m #[Value.ref b] below meth c H locs (cells + mc + mc2) (slots + ms + ms2) Q (F0 m 323 ls []) := by
    refine lv_goto (tgt := 1524) hx hb dL_law_323 (by decide) ?_
    exact kk H locs ws2 g ls hC G.comm (lv_sub hl [2, 3, 4, 5, 6] rfl)
  refine lv_if_ne (tgt := 323) hx hb dL_law_308 (by decide) (fun h => fin) (fun h => ?_)
  have h0 : k = 0 := h
  refine lv_aload_n hx hb dL_law_311 rfl (lv_at hl 5 rfl) ?_
  refine lv_iconst (v := 0) hx hb dL_law_312 rfl ?_
  refine gl_lald F hKL G.comm dL_law_313 ?_
  refine lv_iload hx hb dL_law_314 (lv_at hl 0 rfl) ?_
  refine lv_i2l (v := bb.toInt64) hx hb dL_law_316 rfl ?_
  rw [hg h0]
  refine W.lcmp hx hb dL_law_317 ?_
  rw [cmp_self]
  exact lv_if_eq (tgt := 323) hx hb dL_law_318 (by decide) (fun _ => fin) (fun h => absurd rfl h)
set_option maxRecDepth 100000 in
set_option maxHeartbeats 4000000 in
theorem law_turn {p : Program} {l : Launch} {e : Env} {s : State} {m : MethodId} {below : List Frame} {meth : Method} {c : Code} {H : Heap} {locs : List Loc} {cells slots : Nat} {Q : State → Prop} {Z : gZ} {cL : ClassId} {A : Nat → Prop} {ls : Array Slot} {b L : Nat} {xs : Nat → Int32} (F : gF Z p m s #[Value.ref b] meth c cL_law 9 RL ret) (hxK : xK s) (hxZ : xZ A s s.heap) (hKL : gKL Z cL s) (hnC : nC s) (hX : va_X b L xs s s.heap) (hbl : b < s.heap.size) (hbA : ¬ A b) (hL3 : L ≤ 3584) {i : Nat} (hi : i + 6 < L) {ax o : Nat} {AR : Nat → Nat} (hl : lv_has ls 9 [(0, .ref b), (1, .ref ax), (2, .ref (AR 0)), (3, .ref o), (4, .int (nI i))]) {ws1 : va_W} {f : Nat → Int64} {N N' : St} (G : gG Z A s ((ws1 ++ [(o, outE cL f)]) ++ wR Z AR N 16) H locs) {k bb : Int32} {P C : va_W → Prop} {rmL rmR : Room} {mc ms mc2 ms2 : Nat} {x1 x2 : Int32} (ex1 : (xs (i + 1)) = x1) (ex2 : (xs (i + 2)) = x2) (hL : gL Z cL l yL_turn cL_turn 5 [(0, 10, 13, 24), (0, 10, 17, 13)] rmL [.ref ax, .int x1, .int x2, .ref o] (ws1 ++ [(o, outE cL f)]) k P mc ms) (hrL : rmL.cells = mc ∧ rmL.slots = ms) (hRL : rmL.frames + 1 ≤ room_1.frames ∧ 8 + (5 + 11) + rmL.locals ≤ room_1.locals) (hR : gM Z l yX8_turn cX8_turn 4 (some .int) rmR [.ref (AR 0), .int x1, .int x2] (wR Z AR N 16) (some (.int bb)) (wR Z AR N' 16) mc2 ms2) (hrR : rmR.cells = mc2 ∧ rmR.slots = ms2) (hRR : rmR.frames + 1 ≤ room_1.frames ∧ 8 + (4 + 11) + rmR.locals ≤ room_1.locals) (hroom : cells + mc + mc2 ≤ room_1.cells ∧ slots + ms + ms2 ≤ room_1.slots) (hk : N' 1 0 0 = k) (hP : ∀ w, P w → ∃ (ws2 : va_W) (g : Nat → Int64), w = ws2 ++ [(o, outE cL g)] ∧ (k = 0 → g 0 = bb.toInt64) ∧ C ws2) (kk : ∀ (H : Heap) (locs : List Loc) (ws2 : va_W) (g : Nat → Int64) (ls : Array Slot), C ws2 → gG Z A s ((ws2 ++ [(o, outE cL g)]) ++ wR Z AR N' 16) H locs → lv_has ls 9 [(0, .ref b), (1, .ref ax), (2, .ref (AR 0)), (3, .ref o), (4, .int (nI i))] → W p l e room_1 s m #[Value.ref b] below meth c H locs (cells + mc + mc2) (slots + ms + ms2) Q (F0 m 1524 ls [])) : W p l e room_1 s m #[Value.ref b] below meth c H locs cells slots Q (F0 m 326 ls []) := by
  subst ex1 ex2
  have hx := F.1
  have hb := F.2.1
  refine lv_aload_n hx hb dL_law_326 rfl (lv_at hl 1 rfl) ?_
  refine gl_arg (k := 1) F G hX hbl hbA (by omega) hL3 (lv_at hl 0 rfl) (lv_at hl 4 rfl) dL_law_327 dL_law_328 dL_law_330 dL_law_331 dL_law_332 rfl ?_
  refine gl_arg (k := 2) F G hX hbl hbA (by omega) hL3 (lv_at hl 0 rfl) (lv_at hl 4 rfl) dL_law_333 dL_law_334 dL_law_336 dL_law_337 dL_law_338 rfl ?_
  refine lv_aload_n hx hb dL_law_339 rfl (lv_at hl 3 rfl) ?_
  refine gl_callL F hxK hxZ hKL hnC G (n := 4) (As := [.ref ax, .int (xs (i + 1)), .int (xs (i + 2)), .ref o]) (rest := []) hL wc_turn w1_0 ⟨⟨by decide +kernel, by decide +kernel⟩, by decide +kernel⟩ w2_199 w2_198 rfl hrL hRL rfl (Nat.le_of_ble_eq_true rfl) hl.1 ⟨by omega, by omega⟩ dL_law_340 (fun H locs w hw G => ?_)
  obtain ⟨ws2, g, rfl, hg, hC⟩ := hP w hw
  refine lv_istore (lv' := [(5, .int k), (0, .ref b), (1, .ref ax), (2, .ref (AR 0)), (3, .ref o), (4, .int (nI i))]) hx hb dL_law_343 hl (by decide) rfl (fun ls hl => ?_)
  refine lv_aload_n hx hb dL_law_345 rfl (lv_at hl 3 rfl) ?_
  refine gl_arg (k := 1) F G hX hbl hbA (by omega) hL3 (lv_at hl 1 rfl) (lv_at hl 5 rfl) dL_law_346 dL_law_347 dL_law_349 dL_law_350 dL_law_351 rfl ?_
  refine gl_arg (k := 2) F G hX hbl hbA (by omega) hL3 (lv_at hl 1 rfl) (lv_at hl 5 rfl) dL_law_352 dL_law_353 dL_law_355 dL_law_356 dL_law_357 rfl ?_
  refine ge_callV F G.comm (ci := 8) (k := 0) (As := [.int (xs (i + 1)), .int (xs (i + 2))]) (rest := []) hR.toE kY_X8_turn kV_X8_turn (gR_model (Nat.le_refl 16)) rfl rfl w4_132 rfl hrR hRR rfl (Nat.le_of_ble_eq_true rfl) hl.1 ⟨by omega, by omega⟩ dL_law_358 rfl (fun H locs w hw G => ?_)
  subst hw
  refine lv_istore (lv' := [(6, .int bb), (5, .int k), (0, .ref b), (1, .ref ax), (2, .ref (AR 0)), (3, .ref o), (4, .int (nI i))]) hx hb dL_law_361 hl (by decide) rfl (fun ls hl => ?_)
  refine lv_aload_n hx hb dL_law_363 rfl (lv_at hl 4 rfl) ?_
  refine ge_callV F G (ci := 8) (k := 0) (As := []) (rest := []) (c_X8_thrown Z l AR N' 16 (Nat.le_refl 16)).toE kY_X8_thrown kV_X8_thrown (gR_model (Nat.le_refl 16)) rfl rfl w4_110 rfl ⟨rfl, rfl⟩ ⟨(Nat.le_of_ble_eq_true rfl), (Nat.le_of_ble_eq_true rfl)⟩ rfl (Nat.le_of_ble_eq_true rfl) hl.1 ⟨hroom.1, hroom.2⟩ dL_law_364 rfl (fun H locs w hw G => ?_)
  subst hw
  rw [hk]
  refine lv_iload hx hb dL_law_367 (lv_at hl 1 rfl) ?_
  refine lv_icmp_eq (tgt := 374) hx hb dL_law_369 (by decide) (fun h => ?_) (fun h => absurd rfl h)
  refine lv_iload hx hb dL_law_374 (lv_at hl 1 rfl) ?_
  have fin : W p l e room_1 s m #[Value.ref b] below meth c H locs (cells + mc + mc2) (slots + ms + ms2) Q (F0 m 391 ls []) := by
    refine lv_goto (tgt := 1524) hx hb dL_law_391 (by decide) ?_
    exact kk H locs ws2 g ls hC G.comm (lv_sub hl [2, 3, 4, 5, 6] rfl)
  refine lv_if_ne (tgt := 391) hx hb dL_law_376 (by decide) (fun h => fin) (fun h => ?_)
  have h0 : k = 0 := h
  refine lv_aload_n hx hb dL_law_379 rfl (lv_at hl 5 rfl) ?_
  refine lv_iconst (v := 0) hx hb dL_law_380 rfl ?_
  refine gl_lald F hKL G.comm dL_law_381 ?_
  refine lv_iload hx hb dL_law_382 (lv_at hl 0 rfl) ?_
  refine lv_i2l (v := bb.toInt64) hx hb dL_law_384 rfl ?_
  rw [hg h0]
  refine W.lcmp hx hb dL_law_385 ?_
  rw [cmp_self]
  exact lv_if_eq (tgt := 391) hx hb dL_law_386 (by decide) (fun _ => fin) (fun h => absurd rfl h)
set_option maxRecDepth 100000 in
set_option maxHeartbeats 4000000 in
theorem law_wind {p : Program} {l : Launch} {e : Env} {s : State} {m : MethodId} {below : List Frame} {meth : Method} {c : Code} {H : Heap} {locs : List Loc} {cells slots : Nat} {Q : State → Prop} {Z : gZ} {cL : ClassId} {A : Nat → Prop} {ls : Array Slot} {b L : Nat} {xs : Nat → Int32} (F : gF Z p m s #[Value.ref b] meth c cL_law 9 RL ret) (hxK : xK s) (hxZ : xZ A s s.heap) (hKL : gKL Z cL s) (hnC : nC s) (hX : va_X b L xs s s.heap) (hbl : b < s.heap.size) (hbA : ¬ A b) (hL3 : L ≤ 3584) {i : Nat} (hi : i + 6 < L) {ax o : Nat} {AR : Nat → Nat} (hl : lv_has ls 9 [(0, .ref b), (1, .ref ax), (2, .ref (AR 0)), (3, .ref o), (4, .int (nI i))]) {ws1 : va_W} {f : Nat → Int64} {N N' : St} (G : gG Z A s ((ws1 ++ [(o, outE cL f)]) ++ wR Z AR N 16) H locs) {k bb : Int32} {P C : va_W → Prop} {rmL rmR : Room} {mc ms mc2 ms2 : Nat} {x1 x2 : Int32} (ex1 : (xs (i + 1)) = x1) (ex2 : (xs (i + 2)) = x2) (hL : gL Z cL l yL_wind cL_wind 5 [(0, 10, 13, 24), (0, 10, 17, 13)] rmL [.ref ax, .int x1, .int x2, .ref o] (ws1 ++ [(o, outE cL f)]) k P mc ms) (hrL : rmL.cells = mc ∧ rmL.slots = ms) (hRL : rmL.frames + 1 ≤ room_1.frames ∧ 8 + (5 + 11) + rmL.locals ≤ room_1.locals) (hR : gM Z l yX8_wind cX8_wind 4 (some .int) rmR [.ref (AR 0), .int x1, .int x2] (wR Z AR N 16) (some (.int bb)) (wR Z AR N' 16) mc2 ms2) (hrR : rmR.cells = mc2 ∧ rmR.slots = ms2) (hRR : rmR.frames + 1 ≤ room_1.frames ∧ 8 + (4 + 11) + rmR.locals ≤ room_1.locals) (hroom : cells + mc + mc2 ≤ room_1.cells ∧ slots + ms + ms2 ≤ room_1.slots) (hk : N' 1 0 0 = k) (hP : ∀ w, P w → ∃ (ws2 : va_W) (g : Nat → Int64), w = ws2 ++ [(o, outE cL g)] ∧ (k = 0 → g 0 = bb.toInt64) ∧ C ws2) (kk : ∀ (H : Heap) (locs : List Loc) (ws2 : va_W) (g : Nat → Int64) (ls : Array Slot), C ws2 → gG Z A s ((ws2 ++ [(o, outE cL g)]) ++ wR Z AR N' 16) H locs → lv_has ls 9 [(0, .ref b), (1, .ref ax), (2, .ref (AR 0)), (3, .ref o), (4, .int (nI i))] → W p l e room_1 s m #[Value.ref b] below meth c H locs (cells + mc + mc2) (slots + ms + ms2) Q (F0 m 1524 ls [])) : W p l e room_1 s m #[Value.ref b] below meth c H locs cells slots Q (F0 m 394 ls []) := by
  subst ex1 ex2
  have hx := F.1
  have hb := F.2.1
  refine lv_aload_n hx hb dL_law_394 rfl (lv_at hl 1 rfl) ?_
  refine gl_arg (k := 1) F G hX hbl hbA (by omega) hL3 (lv_at hl 0 rfl) (lv_at hl 4 rfl) dL_law_395 dL_law_396 dL_law_398 dL_law_399 dL_law_400 rfl ?_
  refine gl_arg (k := 2) F G hX hbl hbA (by omega) hL3 (lv_at hl 0 rfl) (lv_at hl 4 rfl) dL_law_401 dL_law_402 dL_law_404 dL_law_405 dL_law_406 rfl ?_
  refine lv_aload_n hx hb dL_law_407 rfl (lv_at hl 3 rfl) ?_
  refine gl_callL F hxK hxZ hKL hnC G (n := 4) (As := [.ref ax, .int (xs (i + 1)), .int (xs (i + 2)), .ref o]) (rest := []) hL wc_wind w1_0 ⟨⟨by decide +kernel, by decide +kernel⟩, by decide +kernel⟩ w2_234 w2_233 rfl hrL hRL rfl (Nat.le_of_ble_eq_true rfl) hl.1 ⟨by omega, by omega⟩ dL_law_408 (fun H locs w hw G => ?_)
  obtain ⟨ws2, g, rfl, hg, hC⟩ := hP w hw
  refine lv_istore (lv' := [(5, .int k), (0, .ref b), (1, .ref ax), (2, .ref (AR 0)), (3, .ref o), (4, .int (nI i))]) hx hb dL_law_411 hl (by decide) rfl (fun ls hl => ?_)
  refine lv_aload_n hx hb dL_law_413 rfl (lv_at hl 3 rfl) ?_
  refine gl_arg (k := 1) F G hX hbl hbA (by omega) hL3 (lv_at hl 1 rfl) (lv_at hl 5 rfl) dL_law_414 dL_law_415 dL_law_417 dL_law_418 dL_law_419 rfl ?_
  refine gl_arg (k := 2) F G hX hbl hbA (by omega) hL3 (lv_at hl 1 rfl) (lv_at hl 5 rfl) dL_law_420 dL_law_421 dL_law_423 dL_law_424 dL_law_425 rfl ?_
  refine ge_callV F G.comm (ci := 8) (k := 0) (As := [.int (xs (i + 1)), .int (xs (i + 2))]) (rest := []) hR.toE kY_X8_wind kV_X8_wind (gR_model (Nat.le_refl 16)) rfl rfl w4_140 rfl hrR hRR rfl (Nat.le_of_ble_eq_true rfl) hl.1 ⟨by omega, by omega⟩ dL_law_426 rfl (fun H locs w hw G => ?_)
  subst hw
  refine lv_istore (lv' := [(6, .int bb), (5, .int k), (0, .ref b), (1, .ref ax), (2, .ref (AR 0)), (3, .ref o), (4, .int (nI i))]) hx hb dL_law_429 hl (by decide) rfl (fun ls hl => ?_)
  refine lv_aload_n hx hb dL_law_431 rfl (lv_at hl 4 rfl) ?_
  refine ge_callV F G (ci := 8) (k := 0) (As := []) (rest := []) (c_X8_thrown Z l AR N' 16 (Nat.le_refl 16)).toE kY_X8_thrown kV_X8_thrown (gR_model (Nat.le_refl 16)) rfl rfl w4_110 rfl ⟨rfl, rfl⟩ ⟨(Nat.le_of_ble_eq_true rfl), (Nat.le_of_ble_eq_true rfl)⟩ rfl (Nat.le_of_ble_eq_true rfl) hl.1 ⟨hroom.1, hroom.2⟩ dL_law_432 rfl (fun H locs w hw G => ?_)
  subst hw
  rw [hk]
  refine lv_iload hx hb dL_law_435 (lv_at hl 1 rfl) ?_
  refine lv_icmp_eq (tgt := 442) hx hb dL_law_437 (by decide) (fun h => ?_) (fun h => absurd rfl h)
  refine lv_iload hx hb dL_law_442 (lv_at hl 1 rfl) ?_
  have fin : W p l e room_1 s m #[Value.ref b] below meth c H locs (cells + mc + mc2) (slots + ms + ms2) Q (F0 m 459 ls []) := by
    refine lv_goto (tgt := 1524) hx hb dL_law_459 (by decide) ?_
    exact kk H locs ws2 g ls hC G.comm (lv_sub hl [2, 3, 4, 5, 6] rfl)
  refine lv_if_ne (tgt := 459) hx hb dL_law_444 (by decide) (fun h => fin) (fun h => ?_)
  have h0 : k = 0 := h
  refine lv_aload_n hx hb dL_law_447 rfl (lv_at hl 5 rfl) ?_
  refine lv_iconst (v := 0) hx hb dL_law_448 rfl ?_
  refine gl_lald F hKL G.comm dL_law_449 ?_
  refine lv_iload hx hb dL_law_450 (lv_at hl 0 rfl) ?_
  refine lv_i2l (v := bb.toInt64) hx hb dL_law_452 rfl ?_
  rw [hg h0]
  refine W.lcmp hx hb dL_law_453 ?_
  rw [cmp_self]
  exact lv_if_eq (tgt := 459) hx hb dL_law_454 (by decide) (fun _ => fin) (fun h => absurd rfl h)
set_option maxRecDepth 100000 in
set_option maxHeartbeats 4000000 in
theorem law_listen {p : Program} {l : Launch} {e : Env} {s : State} {m : MethodId} {below : List Frame} {meth : Method} {c : Code} {H : Heap} {locs : List Loc} {cells slots : Nat} {Q : State → Prop} {Z : gZ} {cL : ClassId} {A : Nat → Prop} {ls : Array Slot} {b L : Nat} {xs : Nat → Int32} (F : gF Z p m s #[Value.ref b] meth c cL_law 9 RL ret) (hxK : xK s) (hxZ : xZ A s s.heap) (hKL : gKL Z cL s) (hnC : nC s) (hX : va_X b L xs s s.heap) (hbl : b < s.heap.size) (hbA : ¬ A b) (hL3 : L ≤ 3584) {i : Nat} (hi : i + 6 < L) {ax o : Nat} {AR : Nat → Nat} (hl : lv_has ls 9 [(0, .ref b), (1, .ref ax), (2, .ref (AR 0)), (3, .ref o), (4, .int (nI i))]) {ws1 : va_W} {f : Nat → Int64} {N N' : St} (G : gG Z A s ((ws1 ++ [(o, outE cL f)]) ++ wR Z AR N 16) H locs) {k bb : Int32} {P C : va_W → Prop} {rmL rmR : Room} {mc ms mc2 ms2 : Nat} {x1 x2 : Int32} (ex1 : (xs (i + 1)) = x1) (ex2 : (if xs (i + 2) = 0 then 0 else 1) = x2) (hL : gL Z cL l yL_listen cL_listen 5 [(0, 17, 20, 24)] rmL [.ref ax, .int x1, .int x2, .ref o] (ws1 ++ [(o, outE cL f)]) k P mc ms) (hrL : rmL.cells = mc ∧ rmL.slots = ms) (hRL : rmL.frames + 1 ≤ room_1.frames ∧ 8 + (5 + 11) + rmL.locals ≤ room_1.locals) (hR : gM Z l yX8_listen cX8_listen 4 (some .boolean) rmR [.ref (AR 0), .int x1, .int x2] (wR Z AR N 16) (some (.int bb)) (wR Z AR N' 16) mc2 ms2) (hrR : rmR.cells = mc2 ∧ rmR.slots = ms2) (hRR : rmR.frames + 1 ≤ room_1.frames ∧ 8 + (4 + 11) + rmR.locals ≤ room_1.locals) (hroom : cells + mc + mc2 ≤ room_1.cells ∧ slots + ms + ms2 ≤ room_1.slots) (hk : N' 1 0 0 = k) (hP : ∀ w, P w → ∃ (ws2 : va_W) (g : Nat → Int64), w = ws2 ++ [(o, outE cL g)] ∧ (k = 0 → g 0 = (if bb = 0 then 0 else 1)) ∧ C ws2) (kk : ∀ (H : Heap) (locs : List Loc) (ws2 : va_W) (g : Nat → Int64) (ls : Array Slot), C ws2 → gG Z A s ((ws2 ++ [(o, outE cL g)]) ++ wR Z AR N' 16) H locs → lv_has ls 9 [(0, .ref b), (1, .ref ax), (2, .ref (AR 0)), (3, .ref o), (4, .int (nI i))] → W p l e room_1 s m #[Value.ref b] below meth c H locs (cells + mc + mc2) (slots + ms + ms2) Q (F0 m 1524 ls [])) : W p l e room_1 s m #[Value.ref b] below meth c H locs cells slots Q (F0 m 462 ls []) := by
  subst ex1 ex2
  have hx := F.1
  have hb := F.2.1
  refine lv_aload_n hx hb dL_law_462 rfl (lv_at hl 1 rfl) ?_
  refine gl_arg (k := 1) F G hX hbl hbA (by omega) hL3 (lv_at hl 0 rfl) (lv_at hl 4 rfl) dL_law_463 dL_law_464 dL_law_466 dL_law_467 dL_law_468 rfl ?_
  have kt : W p l e room_1 s m #[Value.ref b] below meth c H locs cells slots Q (F0 m 483 ls (.int (if xs (i + 2) = 0 then 0 else 1) :: .int (xs (i + 1)) :: [.ref ax])) := by
    refine lv_aload_n hx hb dL_law_483 rfl (lv_at hl 3 rfl) ?_
    refine gl_callL F hxK hxZ hKL hnC G (n := 4) (As := [.ref ax, .int (xs (i + 1)), .int (if xs (i + 2) = 0 then 0 else 1), .ref o]) (rest := []) hL wc_listen w1_0 ⟨⟨by decide +kernel, by decide +kernel⟩, by decide +kernel⟩ w3_2 w3_1 rfl hrL hRL rfl (Nat.le_of_ble_eq_true rfl) hl.1 ⟨by omega, by omega⟩ dL_law_484 (fun H locs w hw G => ?_)
    obtain ⟨ws2, g, rfl, hg, hC⟩ := hP w hw
    refine lv_istore (lv' := [(5, .int k), (0, .ref b), (1, .ref ax), (2, .ref (AR 0)), (3, .ref o), (4, .int (nI i))]) hx hb dL_law_487 hl (by decide) rfl (fun ls hl => ?_)
    refine lv_aload_n hx hb dL_law_489 rfl (lv_at hl 3 rfl) ?_
    refine gl_arg (k := 1) F G hX hbl hbA (by omega) hL3 (lv_at hl 1 rfl) (lv_at hl 5 rfl) dL_law_490 dL_law_491 dL_law_493 dL_law_494 dL_law_495 rfl ?_
    have kt : W p l e room_1 s m #[Value.ref b] below meth c H locs (cells + mc) (slots + ms) Q (F0 m 510 ls (.int (if xs (i + 2) = 0 then 0 else 1) :: .int (xs (i + 1)) :: [.ref (AR 0)])) := by
      refine ge_callV F G.comm (ci := 8) (k := 0) (As := [.int (xs (i + 1)), .int (if xs (i + 2) = 0 then 0 else 1)]) (rest := []) hR.toE kY_X8_listen kV_X8_listen (gR_model (Nat.le_refl 16)) rfl rfl w4_144 rfl hrR hRR rfl (Nat.le_of_ble_eq_true rfl) hl.1 ⟨by omega, by omega⟩ dL_law_510 rfl (fun H locs w hw G => ?_)
      subst hw
      refine lv_istore (lv' := [(6, .int bb), (5, .int k), (0, .ref b), (1, .ref ax), (2, .ref (AR 0)), (3, .ref o), (4, .int (nI i))]) hx hb dL_law_513 hl (by decide) rfl (fun ls hl => ?_)
      refine lv_aload_n hx hb dL_law_515 rfl (lv_at hl 4 rfl) ?_
      refine ge_callV F G (ci := 8) (k := 0) (As := []) (rest := []) (c_X8_thrown Z l AR N' 16 (Nat.le_refl 16)).toE kY_X8_thrown kV_X8_thrown (gR_model (Nat.le_refl 16)) rfl rfl w4_110 rfl ⟨rfl, rfl⟩ ⟨(Nat.le_of_ble_eq_true rfl), (Nat.le_of_ble_eq_true rfl)⟩ rfl (Nat.le_of_ble_eq_true rfl) hl.1 ⟨hroom.1, hroom.2⟩ dL_law_516 rfl (fun H locs w hw G => ?_)
      subst hw
      rw [hk]
      refine lv_iload hx hb dL_law_519 (lv_at hl 1 rfl) ?_
      refine lv_icmp_eq (tgt := 526) hx hb dL_law_521 (by decide) (fun h => ?_) (fun h => absurd rfl h)
      refine lv_iload hx hb dL_law_526 (lv_at hl 1 rfl) ?_
      have fin : W p l e room_1 s m #[Value.ref b] below meth c H locs (cells + mc + mc2) (slots + ms + ms2) Q (F0 m 550 ls []) := by
        refine lv_goto (tgt := 1524) hx hb dL_law_550 (by decide) ?_
        exact kk H locs ws2 g ls hC G.comm (lv_sub hl [2, 3, 4, 5, 6] rfl)
      refine lv_if_ne (tgt := 550) hx hb dL_law_528 (by decide) (fun h => fin) (fun h => ?_)
      have h0 : k = 0 := h
      refine lv_aload_n hx hb dL_law_531 rfl (lv_at hl 5 rfl) ?_
      refine lv_iconst (v := 0) hx hb dL_law_532 rfl ?_
      refine gl_lald F hKL G.comm dL_law_533 ?_
      refine lv_iload hx hb dL_law_534 (lv_at hl 0 rfl) ?_
      refine lv_if_eq (tgt := 543) hx hb dL_law_536 (by decide) (fun hc => ?_) (fun hc => ?_)
      · refine lv_lconst (v := 0) hx hb dL_law_543 rfl ?_
        rw [hg h0, if_pos hc]
        refine W.lcmp hx hb dL_law_544 ?_
        rw [cmp_self]
        exact lv_if_eq (tgt := 550) hx hb dL_law_545 (by decide) (fun _ => fin) (fun h => absurd rfl h)
      · refine lv_lconst (v := 1) hx hb dL_law_539 rfl ?_
        refine lv_goto (tgt := 544) hx hb dL_law_540 (by decide) ?_
        rw [hg h0, if_neg hc]
        refine W.lcmp hx hb dL_law_544 ?_
        rw [cmp_self]
        exact lv_if_eq (tgt := 550) hx hb dL_law_545 (by decide) (fun _ => fin) (fun h => absurd rfl h)
    refine gl_arg (k := 2) F G hX hbl hbA (by omega) hL3 (lv_at hl 1 rfl) (lv_at hl 5 rfl) dL_law_496 dL_law_497 dL_law_499 dL_law_500 dL_law_501 rfl ?_
    refine lv_if_eq (tgt := 509) hx hb dL_law_502 (by decide) (fun hc => ?_) (fun hc => ?_)
    · refine lv_iconst (v := 0) hx hb dL_law_509 rfl ?_
      rw [if_pos hc] at kt
      exact kt
    · refine lv_iconst (v := 1) hx hb dL_law_505 rfl ?_
      refine lv_goto (tgt := 510) hx hb dL_law_506 (by decide) ?_
      rw [if_neg hc] at kt
      exact kt
  refine gl_arg (k := 2) F G hX hbl hbA (by omega) hL3 (lv_at hl 0 rfl) (lv_at hl 4 rfl) dL_law_469 dL_law_470 dL_law_472 dL_law_473 dL_law_474 rfl ?_
  refine lv_if_eq (tgt := 482) hx hb dL_law_475 (by decide) (fun hc => ?_) (fun hc => ?_)
  · refine lv_iconst (v := 0) hx hb dL_law_482 rfl ?_
    rw [if_pos hc] at kt
    exact kt
  · refine lv_iconst (v := 1) hx hb dL_law_478 rfl ?_
    refine lv_goto (tgt := 483) hx hb dL_law_479 (by decide) ?_
    rw [if_neg hc] at kt
    exact kt
set_option maxRecDepth 100000 in
set_option maxHeartbeats 4000000 in
theorem law_renew {p : Program} {l : Launch} {e : Env} {s : State} {m : MethodId} {below : List Frame} {meth : Method} {c : Code} {H : Heap} {locs : List Loc} {cells slots : Nat} {Q : State → Prop} {Z : gZ} {cL : ClassId} {A : Nat → Prop} {ls : Array Slot} {b L : Nat} {xs : Nat → Int32} (F : gF Z p m s #[Value.ref b] meth c cL_law 9 RL ret) (hxK : xK s) (hxZ : xZ A s s.heap) (hKL : gKL Z cL s) (hnC : nC s) (hX : va_X b L xs s s.heap) (hbl : b < s.heap.size) (hbA : ¬ A b) (hL3 : L ≤ 3584) {i : Nat} (hi : i + 6 < L) {ax o : Nat} {AR : Nat → Nat} (hl : lv_has ls 9 [(0, .ref b), (1, .ref ax), (2, .ref (AR 0)), (3, .ref o), (4, .int (nI i))]) {ws1 : va_W} {f : Nat → Int64} {N N' : St} (G : gG Z A s ((ws1 ++ [(o, outE cL f)]) ++ wR Z AR N 16) H locs) {k bb : Int32} {P C : va_W → Prop} {rmL rmR : Room} {mc ms mc2 ms2 : Nat} {x1 : Int32} (ex1 : (xs (i + 1)) = x1) (hL : gL Z cL l yL_renew cL_renew 4 [(0, 9, 12, 24)] rmL [.ref ax, .int x1, .ref o] (ws1 ++ [(o, outE cL f)]) k P mc ms) (hrL : rmL.cells = mc ∧ rmL.slots = ms) (hRL : rmL.frames + 1 ≤ room_1.frames ∧ 8 + (4 + 11) + rmL.locals ≤ room_1.locals) (hR : gM Z l yX8_renew cX8_renew 3 (some .int) rmR [.ref (AR 0), .int x1] (wR Z AR N 16) (some (.int bb)) (wR Z AR N' 16) mc2 ms2) (hrR : rmR.cells = mc2 ∧ rmR.slots = ms2) (hRR : rmR.frames + 1 ≤ room_1.frames ∧ 8 + (3 + 11) + rmR.locals ≤ room_1.locals) (hroom : cells + mc + mc2 ≤ room_1.cells ∧ slots + ms + ms2 ≤ room_1.slots) (hk : N' 1 0 0 = k) (hP : ∀ w, P w → ∃ (ws2 : va_W) (g : Nat → Int64), w = ws2 ++ [(o, outE cL g)] ∧ (k = 0 → g 0 = bb.toInt64) ∧ C ws2) (kk : ∀ (H : Heap) (locs : List Loc) (ws2 : va_W) (g : Nat → Int64) (ls : Array Slot), C ws2 → gG Z A s ((ws2 ++ [(o, outE cL g)]) ++ wR Z AR N' 16) H locs → lv_has ls 9 [(0, .ref b), (1, .ref ax), (2, .ref (AR 0)), (3, .ref o), (4, .int (nI i))] → W p l e room_1 s m #[Value.ref b] below meth c H locs (cells + mc + mc2) (slots + ms + ms2) Q (F0 m 1524 ls [])) : W p l e room_1 s m #[Value.ref b] below meth c H locs cells slots Q (F0 m 553 ls []) := by
  subst ex1
  have hx := F.1
  have hb := F.2.1
  refine lv_aload_n hx hb dL_law_553 rfl (lv_at hl 1 rfl) ?_
  refine gl_arg (k := 1) F G hX hbl hbA (by omega) hL3 (lv_at hl 0 rfl) (lv_at hl 4 rfl) dL_law_554 dL_law_555 dL_law_557 dL_law_558 dL_law_559 rfl ?_
  refine lv_aload_n hx hb dL_law_560 rfl (lv_at hl 3 rfl) ?_
  refine gl_callL F hxK hxZ hKL hnC G (n := 3) (As := [.ref ax, .int (xs (i + 1)), .ref o]) (rest := []) hL wc_renew w1_0 ⟨⟨by decide +kernel, by decide +kernel⟩, by decide +kernel⟩ w3_9 w3_8 rfl hrL hRL rfl (Nat.le_of_ble_eq_true rfl) hl.1 ⟨by omega, by omega⟩ dL_law_561 (fun H locs w hw G => ?_)
  obtain ⟨ws2, g, rfl, hg, hC⟩ := hP w hw
  refine lv_istore (lv' := [(5, .int k), (0, .ref b), (1, .ref ax), (2, .ref (AR 0)), (3, .ref o), (4, .int (nI i))]) hx hb dL_law_564 hl (by decide) rfl (fun ls hl => ?_)
  refine lv_aload_n hx hb dL_law_566 rfl (lv_at hl 3 rfl) ?_
  refine gl_arg (k := 1) F G hX hbl hbA (by omega) hL3 (lv_at hl 1 rfl) (lv_at hl 5 rfl) dL_law_567 dL_law_568 dL_law_570 dL_law_571 dL_law_572 rfl ?_
  refine ge_callV F G.comm (ci := 8) (k := 0) (As := [.int (xs (i + 1))]) (rest := []) hR.toE kY_X8_renew kV_X8_renew (gR_model (Nat.le_refl 16)) rfl rfl w4_148 rfl hrR hRR rfl (Nat.le_of_ble_eq_true rfl) hl.1 ⟨by omega, by omega⟩ dL_law_573 rfl (fun H locs w hw G => ?_)
  subst hw
  refine lv_istore (lv' := [(6, .int bb), (5, .int k), (0, .ref b), (1, .ref ax), (2, .ref (AR 0)), (3, .ref o), (4, .int (nI i))]) hx hb dL_law_576 hl (by decide) rfl (fun ls hl => ?_)
  refine lv_aload_n hx hb dL_law_578 rfl (lv_at hl 4 rfl) ?_
  refine ge_callV F G (ci := 8) (k := 0) (As := []) (rest := []) (c_X8_thrown Z l AR N' 16 (Nat.le_refl 16)).toE kY_X8_thrown kV_X8_thrown (gR_model (Nat.le_refl 16)) rfl rfl w4_110 rfl ⟨rfl, rfl⟩ ⟨(Nat.le_of_ble_eq_true rfl), (Nat.le_of_ble_eq_true rfl)⟩ rfl (Nat.le_of_ble_eq_true rfl) hl.1 ⟨hroom.1, hroom.2⟩ dL_law_579 rfl (fun H locs w hw G => ?_)
  subst hw
  rw [hk]
  refine lv_iload hx hb dL_law_582 (lv_at hl 1 rfl) ?_
  refine lv_icmp_eq (tgt := 589) hx hb dL_law_584 (by decide) (fun h => ?_) (fun h => absurd rfl h)
  refine lv_iload hx hb dL_law_589 (lv_at hl 1 rfl) ?_
  have fin : W p l e room_1 s m #[Value.ref b] below meth c H locs (cells + mc + mc2) (slots + ms + ms2) Q (F0 m 606 ls []) := by
    refine lv_goto (tgt := 1524) hx hb dL_law_606 (by decide) ?_
    exact kk H locs ws2 g ls hC G.comm (lv_sub hl [2, 3, 4, 5, 6] rfl)
  refine lv_if_ne (tgt := 606) hx hb dL_law_591 (by decide) (fun h => fin) (fun h => ?_)
  have h0 : k = 0 := h
  refine lv_aload_n hx hb dL_law_594 rfl (lv_at hl 5 rfl) ?_
  refine lv_iconst (v := 0) hx hb dL_law_595 rfl ?_
  refine gl_lald F hKL G.comm dL_law_596 ?_
  refine lv_iload hx hb dL_law_597 (lv_at hl 0 rfl) ?_
  refine lv_i2l (v := bb.toInt64) hx hb dL_law_599 rfl ?_
  rw [hg h0]
  refine W.lcmp hx hb dL_law_600 ?_
  rw [cmp_self]
  exact lv_if_eq (tgt := 606) hx hb dL_law_601 (by decide) (fun _ => fin) (fun h => absurd rfl h)
set_option maxRecDepth 100000 in
set_option maxHeartbeats 4000000 in
theorem law_station {p : Program} {l : Launch} {e : Env} {s : State} {m : MethodId} {below : List Frame} {meth : Method} {c : Code} {H : Heap} {locs : List Loc} {cells slots : Nat} {Q : State → Prop} {Z : gZ} {cL : ClassId} {A : Nat → Prop} {ls : Array Slot} {b L : Nat} {xs : Nat → Int32} (F : gF Z p m s #[Value.ref b] meth c cL_law 9 RL ret) (hxK : xK s) (hxZ : xZ A s s.heap) (hKL : gKL Z cL s) (hnC : nC s) (hX : va_X b L xs s s.heap) (hbl : b < s.heap.size) (hbA : ¬ A b) (hL3 : L ≤ 3584) {i : Nat} (hi : i + 6 < L) {ax o : Nat} {AR : Nat → Nat} (hl : lv_has ls 9 [(0, .ref b), (1, .ref ax), (2, .ref (AR 0)), (3, .ref o), (4, .int (nI i))]) {ws1 : va_W} {f : Nat → Int64} {N N' : St} (G : gG Z A s ((ws1 ++ [(o, outE cL f)]) ++ wR Z AR N 16) H locs) {k bb : Int32} {P C : va_W → Prop} {rmL rmR : Room} {mc ms mc2 ms2 : Nat} {x1 x2 : Int32} (ex1 : (xs (i + 1)) = x1) (ex2 : (xs (i + 2)) = x2) (hL : gL Z cL l yL_station cL_station 5 [(0, 10, 13, 24)] rmL [.ref ax, .int x1, .int x2, .ref o] (ws1 ++ [(o, outE cL f)]) k P mc ms) (hrL : rmL.cells = mc ∧ rmL.slots = ms) (hRL : rmL.frames + 1 ≤ room_1.frames ∧ 8 + (5 + 11) + rmL.locals ≤ room_1.locals) (hR : gM Z l yX8_station cX8_station 3 (some .int) rmR [.ref (AR 0), .int x1, .int x2] (wR Z AR N 16) (some (.int bb)) (wR Z AR N' 16) mc2 ms2) (hrR : rmR.cells = mc2 ∧ rmR.slots = ms2) (hRR : rmR.frames + 1 ≤ room_1.frames ∧ 8 + (3 + 11) + rmR.locals ≤ room_1.locals) (hroom : cells + mc + mc2 ≤ room_1.cells ∧ slots + ms + ms2 ≤ room_1.slots) (hk : N' 1 0 0 = k) (hP : ∀ w, P w → ∃ (ws2 : va_W) (g : Nat → Int64), w = ws2 ++ [(o, outE cL g)] ∧ (k = 0 → g 0 = bb.toInt64) ∧ C ws2) (kk : ∀ (H : Heap) (locs : List Loc) (ws2 : va_W) (g : Nat → Int64) (ls : Array Slot), C ws2 → gG Z A s ((ws2 ++ [(o, outE cL g)]) ++ wR Z AR N' 16) H locs → lv_has ls 9 [(0, .ref b), (1, .ref ax), (2, .ref (AR 0)), (3, .ref o), (4, .int (nI i))] → W p l e room_1 s m #[Value.ref b] below meth c H locs (cells + mc + mc2) (slots + ms + ms2) Q (F0 m 1524 ls [])) : W p l e room_1 s m #[Value.ref b] below meth c H locs cells slots Q (F0 m 609 ls []) := by
  subst ex1 ex2
  have hx := F.1
  have hb := F.2.1
  refine lv_aload_n hx hb dL_law_609 rfl (lv_at hl 1 rfl) ?_
  refine gl_arg (k := 1) F G hX hbl hbA (by omega) hL3 (lv_at hl 0 rfl) (lv_at hl 4 rfl) dL_law_610 dL_law_611 dL_law_613 dL_law_614 dL_law_615 rfl ?_
  refine gl_arg (k := 2) F G hX hbl hbA (by omega) hL3 (lv_at hl 0 rfl) (lv_at hl 4 rfl) dL_law_616 dL_law_617 dL_law_619 dL_law_620 dL_law_621 rfl ?_
  refine lv_aload_n hx hb dL_law_622 rfl (lv_at hl 3 rfl) ?_
  refine gl_callL F hxK hxZ hKL hnC G (n := 4) (As := [.ref ax, .int (xs (i + 1)), .int (xs (i + 2)), .ref o]) (rest := []) hL wc_station w1_0 ⟨⟨by decide +kernel, by decide +kernel⟩, by decide +kernel⟩ w3_16 w3_15 rfl hrL hRL rfl (Nat.le_of_ble_eq_true rfl) hl.1 ⟨by omega, by omega⟩ dL_law_623 (fun H locs w hw G => ?_)
  obtain ⟨ws2, g, rfl, hg, hC⟩ := hP w hw
  refine lv_istore (lv' := [(5, .int k), (0, .ref b), (1, .ref ax), (2, .ref (AR 0)), (3, .ref o), (4, .int (nI i))]) hx hb dL_law_626 hl (by decide) rfl (fun ls hl => ?_)
  refine lv_aload_n hx hb dL_law_628 rfl (lv_at hl 3 rfl) ?_
  refine gl_arg (k := 1) F G hX hbl hbA (by omega) hL3 (lv_at hl 1 rfl) (lv_at hl 5 rfl) dL_law_629 dL_law_630 dL_law_632 dL_law_633 dL_law_634 rfl ?_
  refine gl_arg (k := 2) F G hX hbl hbA (by omega) hL3 (lv_at hl 1 rfl) (lv_at hl 5 rfl) dL_law_635 dL_law_636 dL_law_638 dL_law_639 dL_law_640 rfl ?_
  refine ge_callV F G.comm (ci := 8) (k := 0) (As := [.int (xs (i + 1)), .int (xs (i + 2))]) (rest := []) hR.toE kY_X8_station kV_X8_station (gR_model (Nat.le_refl 16)) rfl rfl w4_152 rfl hrR hRR rfl (Nat.le_of_ble_eq_true rfl) hl.1 ⟨by omega, by omega⟩ dL_law_641 rfl (fun H locs w hw G => ?_)
  subst hw
  refine lv_istore (lv' := [(6, .int bb), (5, .int k), (0, .ref b), (1, .ref ax), (2, .ref (AR 0)), (3, .ref o), (4, .int (nI i))]) hx hb dL_law_644 hl (by decide) rfl (fun ls hl => ?_)
  refine lv_aload_n hx hb dL_law_646 rfl (lv_at hl 4 rfl) ?_
  refine ge_callV F G (ci := 8) (k := 0) (As := []) (rest := []) (c_X8_thrown Z l AR N' 16 (Nat.le_refl 16)).toE kY_X8_thrown kV_X8_thrown (gR_model (Nat.le_refl 16)) rfl rfl w4_110 rfl ⟨rfl, rfl⟩ ⟨(Nat.le_of_ble_eq_true rfl), (Nat.le_of_ble_eq_true rfl)⟩ rfl (Nat.le_of_ble_eq_true rfl) hl.1 ⟨hroom.1, hroom.2⟩ dL_law_647 rfl (fun H locs w hw G => ?_)
  subst hw
  rw [hk]
  refine lv_iload hx hb dL_law_650 (lv_at hl 1 rfl) ?_
  refine lv_icmp_eq (tgt := 657) hx hb dL_law_652 (by decide) (fun h => ?_) (fun h => absurd rfl h)
  refine lv_iload hx hb dL_law_657 (lv_at hl 1 rfl) ?_
  have fin : W p l e room_1 s m #[Value.ref b] below meth c H locs (cells + mc + mc2) (slots + ms + ms2) Q (F0 m 674 ls []) := by
    refine lv_goto (tgt := 1524) hx hb dL_law_674 (by decide) ?_
    exact kk H locs ws2 g ls hC G.comm (lv_sub hl [2, 3, 4, 5, 6] rfl)
  refine lv_if_ne (tgt := 674) hx hb dL_law_659 (by decide) (fun h => fin) (fun h => ?_)
  have h0 : k = 0 := h
  refine lv_aload_n hx hb dL_law_662 rfl (lv_at hl 5 rfl) ?_
  refine lv_iconst (v := 0) hx hb dL_law_663 rfl ?_
  refine gl_lald F hKL G.comm dL_law_664 ?_
  refine lv_iload hx hb dL_law_665 (lv_at hl 0 rfl) ?_
  refine lv_i2l (v := bb.toInt64) hx hb dL_law_667 rfl ?_
  rw [hg h0]
  refine W.lcmp hx hb dL_law_668 ?_
  rw [cmp_self]
  exact lv_if_eq (tgt := 674) hx hb dL_law_669 (by decide) (fun _ => fin) (fun h => absurd rfl h)
set_option maxRecDepth 100000 in
set_option maxHeartbeats 4000000 in
theorem law_member {p : Program} {l : Launch} {e : Env} {s : State} {m : MethodId} {below : List Frame} {meth : Method} {c : Code} {H : Heap} {locs : List Loc} {cells slots : Nat} {Q : State → Prop} {Z : gZ} {cL : ClassId} {A : Nat → Prop} {ls : Array Slot} {b L : Nat} {xs : Nat → Int32} (F : gF Z p m s #[Value.ref b] meth c cL_law 9 RL ret) (hxK : xK s) (hxZ : xZ A s s.heap) (hKL : gKL Z cL s) (hnC : nC s) (hX : va_X b L xs s s.heap) (hbl : b < s.heap.size) (hbA : ¬ A b) (hL3 : L ≤ 3584) {i : Nat} (hi : i + 6 < L) {ax o : Nat} {AR : Nat → Nat} (hl : lv_has ls 9 [(0, .ref b), (1, .ref ax), (2, .ref (AR 0)), (3, .ref o), (4, .int (nI i))]) {ws1 : va_W} {f : Nat → Int64} {N N' : St} (G : gG Z A s ((ws1 ++ [(o, outE cL f)]) ++ wR Z AR N 16) H locs) {k bb : Int32} {P C : va_W → Prop} {rmL rmR : Room} {mc ms mc2 ms2 : Nat} {x1 x2 : Int32} (ex1 : (xs (i + 1)) = x1) (ex2 : (xs (i + 2)) = x2) (hL : gL Z cL l yL_member cL_member 5 [(0, 10, 13, 24)] rmL [.ref ax, .int x1, .int x2, .ref o] (ws1 ++ [(o, outE cL f)]) k P mc ms) (hrL : rmL.cells = mc ∧ rmL.slots = ms) (hRL : rmL.frames + 1 ≤ room_1.frames ∧ 8 + (5 + 11) + rmL.locals ≤ room_1.locals) (hR : gM Z l yX8_member cX8_member 3 (some .int) rmR [.ref (AR 0), .int x1, .int x2] (wR Z AR N 16) (some (.int bb)) (wR Z AR N' 16) mc2 ms2) (hrR : rmR.cells = mc2 ∧ rmR.slots = ms2) (hRR : rmR.frames + 1 ≤ room_1.frames ∧ 8 + (3 + 11) + rmR.locals ≤ room_1.locals) (hroom : cells + mc + mc2 ≤ room_1.cells ∧ slots + ms + ms2 ≤ room_1.slots) (hk : N' 1 0 0 = k) (hP : ∀ w, P w → ∃ (ws2 : va_W) (g : Nat → Int64), w = ws2 ++ [(o, outE cL g)] ∧ (k = 0 → g 0 = bb.toInt64) ∧ C ws2) (kk : ∀ (H : Heap) (locs : List Loc) (ws2 : va_W) (g : Nat → Int64) (ls : Array Slot), C ws2 → gG Z A s ((ws2 ++ [(o, outE cL g)]) ++ wR Z AR N' 16) H locs → lv_has ls 9 [(0, .ref b), (1, .ref ax), (2, .ref (AR 0)), (3, .ref o), (4, .int (nI i))] → W p l e room_1 s m #[Value.ref b] below meth c H locs (cells + mc + mc2) (slots + ms + ms2) Q (F0 m 1524 ls [])) : W p l e room_1 s m #[Value.ref b] below meth c H locs cells slots Q (F0 m 677 ls []) := by
  subst ex1 ex2
  have hx := F.1
  have hb := F.2.1
  refine lv_aload_n hx hb dL_law_677 rfl (lv_at hl 1 rfl) ?_
  refine gl_arg (k := 1) F G hX hbl hbA (by omega) hL3 (lv_at hl 0 rfl) (lv_at hl 4 rfl) dL_law_678 dL_law_679 dL_law_681 dL_law_682 dL_law_683 rfl ?_
  refine gl_arg (k := 2) F G hX hbl hbA (by omega) hL3 (lv_at hl 0 rfl) (lv_at hl 4 rfl) dL_law_684 dL_law_685 dL_law_687 dL_law_688 dL_law_689 rfl ?_
  refine lv_aload_n hx hb dL_law_690 rfl (lv_at hl 3 rfl) ?_
  refine gl_callL F hxK hxZ hKL hnC G (n := 4) (As := [.ref ax, .int (xs (i + 1)), .int (xs (i + 2)), .ref o]) (rest := []) hL wc_member w1_0 ⟨⟨by decide +kernel, by decide +kernel⟩, by decide +kernel⟩ w3_34 w3_33 rfl hrL hRL rfl (Nat.le_of_ble_eq_true rfl) hl.1 ⟨by omega, by omega⟩ dL_law_691 (fun H locs w hw G => ?_)
  obtain ⟨ws2, g, rfl, hg, hC⟩ := hP w hw
  refine lv_istore (lv' := [(5, .int k), (0, .ref b), (1, .ref ax), (2, .ref (AR 0)), (3, .ref o), (4, .int (nI i))]) hx hb dL_law_694 hl (by decide) rfl (fun ls hl => ?_)
  refine lv_aload_n hx hb dL_law_696 rfl (lv_at hl 3 rfl) ?_
  refine gl_arg (k := 1) F G hX hbl hbA (by omega) hL3 (lv_at hl 1 rfl) (lv_at hl 5 rfl) dL_law_697 dL_law_698 dL_law_700 dL_law_701 dL_law_702 rfl ?_
  refine gl_arg (k := 2) F G hX hbl hbA (by omega) hL3 (lv_at hl 1 rfl) (lv_at hl 5 rfl) dL_law_703 dL_law_704 dL_law_706 dL_law_707 dL_law_708 rfl ?_
  refine ge_callV F G.comm (ci := 8) (k := 0) (As := [.int (xs (i + 1)), .int (xs (i + 2))]) (rest := []) hR.toE kY_X8_member kV_X8_member (gR_model (Nat.le_refl 16)) rfl rfl w4_183 rfl hrR hRR rfl (Nat.le_of_ble_eq_true rfl) hl.1 ⟨by omega, by omega⟩ dL_law_709 rfl (fun H locs w hw G => ?_)
  subst hw
  refine lv_istore (lv' := [(6, .int bb), (5, .int k), (0, .ref b), (1, .ref ax), (2, .ref (AR 0)), (3, .ref o), (4, .int (nI i))]) hx hb dL_law_712 hl (by decide) rfl (fun ls hl => ?_)
  refine lv_aload_n hx hb dL_law_714 rfl (lv_at hl 4 rfl) ?_
  refine ge_callV F G (ci := 8) (k := 0) (As := []) (rest := []) (c_X8_thrown Z l AR N' 16 (Nat.le_refl 16)).toE kY_X8_thrown kV_X8_thrown (gR_model (Nat.le_refl 16)) rfl rfl w4_110 rfl ⟨rfl, rfl⟩ ⟨(Nat.le_of_ble_eq_true rfl), (Nat.le_of_ble_eq_true rfl)⟩ rfl (Nat.le_of_ble_eq_true rfl) hl.1 ⟨hroom.1, hroom.2⟩ dL_law_715 rfl (fun H locs w hw G => ?_)
  subst hw
  rw [hk]
  refine lv_iload hx hb dL_law_718 (lv_at hl 1 rfl) ?_
  refine lv_icmp_eq (tgt := 725) hx hb dL_law_720 (by decide) (fun h => ?_) (fun h => absurd rfl h)
  refine lv_iload hx hb dL_law_725 (lv_at hl 1 rfl) ?_
  have fin : W p l e room_1 s m #[Value.ref b] below meth c H locs (cells + mc + mc2) (slots + ms + ms2) Q (F0 m 742 ls []) := by
    refine lv_goto (tgt := 1524) hx hb dL_law_742 (by decide) ?_
    exact kk H locs ws2 g ls hC G.comm (lv_sub hl [2, 3, 4, 5, 6] rfl)
  refine lv_if_ne (tgt := 742) hx hb dL_law_727 (by decide) (fun h => fin) (fun h => ?_)
  have h0 : k = 0 := h
  refine lv_aload_n hx hb dL_law_730 rfl (lv_at hl 5 rfl) ?_
  refine lv_iconst (v := 0) hx hb dL_law_731 rfl ?_
  refine gl_lald F hKL G.comm dL_law_732 ?_
  refine lv_iload hx hb dL_law_733 (lv_at hl 0 rfl) ?_
  refine lv_i2l (v := bb.toInt64) hx hb dL_law_735 rfl ?_
  rw [hg h0]
  refine W.lcmp hx hb dL_law_736 ?_
  rw [cmp_self]
  exact lv_if_eq (tgt := 742) hx hb dL_law_737 (by decide) (fun _ => fin) (fun h => absurd rfl h)
set_option maxRecDepth 100000 in
set_option maxHeartbeats 4000000 in
theorem law_strength {p : Program} {l : Launch} {e : Env} {s : State} {m : MethodId} {below : List Frame} {meth : Method} {c : Code} {H : Heap} {locs : List Loc} {cells slots : Nat} {Q : State → Prop} {Z : gZ} {cL : ClassId} {A : Nat → Prop} {ls : Array Slot} {b L : Nat} {xs : Nat → Int32} (F : gF Z p m s #[Value.ref b] meth c cL_law 9 RL ret) (hxK : xK s) (hxZ : xZ A s s.heap) (hKL : gKL Z cL s) (hnC : nC s) (hX : va_X b L xs s s.heap) (hbl : b < s.heap.size) (hbA : ¬ A b) (hL3 : L ≤ 3584) {i : Nat} (hi : i + 6 < L) {ax o : Nat} {AR : Nat → Nat} (hl : lv_has ls 9 [(0, .ref b), (1, .ref ax), (2, .ref (AR 0)), (3, .ref o), (4, .int (nI i))]) {ws1 : va_W} {f : Nat → Int64} {N N' : St} (G : gG Z A s ((ws1 ++ [(o, outE cL f)]) ++ wR Z AR N 16) H locs) {k bb : Int32} {P C : va_W → Prop} {rmL rmR : Room} {mc ms mc2 ms2 : Nat} {x1 x2 : Int32} (ex1 : (xs (i + 1)) = x1) (ex2 : (xs (i + 2)) = x2) (hL : gL Z cL l yL_strength cL_strength 5 [(0, 10, 13, 24)] rmL [.ref ax, .int x1, .int x2, .ref o] (ws1 ++ [(o, outE cL f)]) k P mc ms) (hrL : rmL.cells = mc ∧ rmL.slots = ms) (hRL : rmL.frames + 1 ≤ room_1.frames ∧ 8 + (5 + 11) + rmL.locals ≤ room_1.locals) (hR : gM Z l yX8_strength cX8_strength 3 (some .int) rmR [.ref (AR 0), .int x1, .int x2] (wR Z AR N 16) (some (.int bb)) (wR Z AR N' 16) mc2 ms2) (hrR : rmR.cells = mc2 ∧ rmR.slots = ms2) (hRR : rmR.frames + 1 ≤ room_1.frames ∧ 8 + (3 + 11) + rmR.locals ≤ room_1.locals) (hroom : cells + mc + mc2 ≤ room_1.cells ∧ slots + ms + ms2 ≤ room_1.slots) (hk : N' 1 0 0 = k) (hP : ∀ w, P w → ∃ (ws2 : va_W) (g : Nat → Int64), w = ws2 ++ [(o, outE cL g)] ∧ (k = 0 → g 0 = bb.toInt64) ∧ C ws2) (kk : ∀ (H : Heap) (locs : List Loc) (ws2 : va_W) (g : Nat → Int64) (ls : Array Slot), C ws2 → gG Z A s ((ws2 ++ [(o, outE cL g)]) ++ wR Z AR N' 16) H locs → lv_has ls 9 [(0, .ref b), (1, .ref ax), (2, .ref (AR 0)), (3, .ref o), (4, .int (nI i))] → W p l e room_1 s m #[Value.ref b] below meth c H locs (cells + mc + mc2) (slots + ms + ms2) Q (F0 m 1524 ls [])) : W p l e room_1 s m #[Value.ref b] below meth c H locs cells slots Q (F0 m 745 ls []) := by
  subst ex1 ex2
  have hx := F.1
  have hb := F.2.1
  refine lv_aload_n hx hb dL_law_745 rfl (lv_at hl 1 rfl) ?_
  refine gl_arg (k := 1) F G hX hbl hbA (by omega) hL3 (lv_at hl 0 rfl) (lv_at hl 4 rfl) dL_law_746 dL_law_747 dL_law_749 dL_law_750 dL_law_751 rfl ?_
  refine gl_arg (k := 2) F G hX hbl hbA (by omega) hL3 (lv_at hl 0 rfl) (lv_at hl 4 rfl) dL_law_752 dL_law_753 dL_law_755 dL_law_756 dL_law_757 rfl ?_
  refine lv_aload_n hx hb dL_law_758 rfl (lv_at hl 3 rfl) ?_
  refine gl_callL F hxK hxZ hKL hnC G (n := 4) (As := [.ref ax, .int (xs (i + 1)), .int (xs (i + 2)), .ref o]) (rest := []) hL wc_strength w1_0 ⟨⟨by decide +kernel, by decide +kernel⟩, by decide +kernel⟩ w3_42 w3_41 rfl hrL hRL rfl (Nat.le_of_ble_eq_true rfl) hl.1 ⟨by omega, by omega⟩ dL_law_759 (fun H locs w hw G => ?_)
  obtain ⟨ws2, g, rfl, hg, hC⟩ := hP w hw
  refine lv_istore (lv' := [(5, .int k), (0, .ref b), (1, .ref ax), (2, .ref (AR 0)), (3, .ref o), (4, .int (nI i))]) hx hb dL_law_762 hl (by decide) rfl (fun ls hl => ?_)
  refine lv_aload_n hx hb dL_law_764 rfl (lv_at hl 3 rfl) ?_
  refine gl_arg (k := 1) F G hX hbl hbA (by omega) hL3 (lv_at hl 1 rfl) (lv_at hl 5 rfl) dL_law_765 dL_law_766 dL_law_768 dL_law_769 dL_law_770 rfl ?_
  refine gl_arg (k := 2) F G hX hbl hbA (by omega) hL3 (lv_at hl 1 rfl) (lv_at hl 5 rfl) dL_law_771 dL_law_772 dL_law_774 dL_law_775 dL_law_776 rfl ?_
  refine ge_callV F G.comm (ci := 8) (k := 0) (As := [.int (xs (i + 1)), .int (xs (i + 2))]) (rest := []) hR.toE kY_X8_strength kV_X8_strength (gR_model (Nat.le_refl 16)) rfl rfl w4_203 rfl hrR hRR rfl (Nat.le_of_ble_eq_true rfl) hl.1 ⟨by omega, by omega⟩ dL_law_777 rfl (fun H locs w hw G => ?_)
  subst hw
  refine lv_istore (lv' := [(6, .int bb), (5, .int k), (0, .ref b), (1, .ref ax), (2, .ref (AR 0)), (3, .ref o), (4, .int (nI i))]) hx hb dL_law_780 hl (by decide) rfl (fun ls hl => ?_)
  refine lv_aload_n hx hb dL_law_782 rfl (lv_at hl 4 rfl) ?_
  refine ge_callV F G (ci := 8) (k := 0) (As := []) (rest := []) (c_X8_thrown Z l AR N' 16 (Nat.le_refl 16)).toE kY_X8_thrown kV_X8_thrown (gR_model (Nat.le_refl 16)) rfl rfl w4_110 rfl ⟨rfl, rfl⟩ ⟨(Nat.le_of_ble_eq_true rfl), (Nat.le_of_ble_eq_true rfl)⟩ rfl (Nat.le_of_ble_eq_true rfl) hl.1 ⟨hroom.1, hroom.2⟩ dL_law_783 rfl (fun H locs w hw G => ?_)
  subst hw
  rw [hk]
  refine lv_iload hx hb dL_law_786 (lv_at hl 1 rfl) ?_
  refine lv_icmp_eq (tgt := 793) hx hb dL_law_788 (by decide) (fun h => ?_) (fun h => absurd rfl h)
  refine lv_iload hx hb dL_law_793 (lv_at hl 1 rfl) ?_
  have fin : W p l e room_1 s m #[Value.ref b] below meth c H locs (cells + mc + mc2) (slots + ms + ms2) Q (F0 m 810 ls []) := by
    refine lv_goto (tgt := 1524) hx hb dL_law_810 (by decide) ?_
    exact kk H locs ws2 g ls hC G.comm (lv_sub hl [2, 3, 4, 5, 6] rfl)
  refine lv_if_ne (tgt := 810) hx hb dL_law_795 (by decide) (fun h => fin) (fun h => ?_)
  have h0 : k = 0 := h
  refine lv_aload_n hx hb dL_law_798 rfl (lv_at hl 5 rfl) ?_
  refine lv_iconst (v := 0) hx hb dL_law_799 rfl ?_
  refine gl_lald F hKL G.comm dL_law_800 ?_
  refine lv_iload hx hb dL_law_801 (lv_at hl 0 rfl) ?_
  refine lv_i2l (v := bb.toInt64) hx hb dL_law_803 rfl ?_
  rw [hg h0]
  refine W.lcmp hx hb dL_law_804 ?_
  rw [cmp_self]
  exact lv_if_eq (tgt := 810) hx hb dL_law_805 (by decide) (fun _ => fin) (fun h => absurd rfl h)
set_option maxRecDepth 100000 in
set_option maxHeartbeats 4000000 in
theorem law_hears {p : Program} {l : Launch} {e : Env} {s : State} {m : MethodId} {below : List Frame} {meth : Method} {c : Code} {H : Heap} {locs : List Loc} {cells slots : Nat} {Q : State → Prop} {Z : gZ} {cL : ClassId} {A : Nat → Prop} {ls : Array Slot} {b L : Nat} {xs : Nat → Int32} (F : gF Z p m s #[Value.ref b] meth c cL_law 9 RL ret) (hxK : xK s) (hxZ : xZ A s s.heap) (hKL : gKL Z cL s) (hnC : nC s) (hX : va_X b L xs s s.heap) (hbl : b < s.heap.size) (hbA : ¬ A b) (hL3 : L ≤ 3584) {i : Nat} (hi : i + 6 < L) {ax o : Nat} {AR : Nat → Nat} (hl : lv_has ls 9 [(0, .ref b), (1, .ref ax), (2, .ref (AR 0)), (3, .ref o), (4, .int (nI i))]) {ws1 : va_W} {f : Nat → Int64} {N N' : St} (G : gG Z A s ((ws1 ++ [(o, outE cL f)]) ++ wR Z AR N 16) H locs) {k bb : Int32} {P C : va_W → Prop} {rmL rmR : Room} {mc ms mc2 ms2 : Nat} {x1 : Int32} (ex1 : (xs (i + 1)) = x1) (hL : gL Z cL l yL_hears cL_hears 4 [(0, 9, 12, 24)] rmL [.ref ax, .int x1, .ref o] (ws1 ++ [(o, outE cL f)]) k P mc ms) (hrL : rmL.cells = mc ∧ rmL.slots = ms) (hRL : rmL.frames + 1 ≤ room_1.frames ∧ 8 + (4 + 11) + rmL.locals ≤ room_1.locals) (hR : gM Z l yX8_hears cX8_hears 2 (some .int) rmR [.ref (AR 0), .int x1] (wR Z AR N 16) (some (.int bb)) (wR Z AR N' 16) mc2 ms2) (hrR : rmR.cells = mc2 ∧ rmR.slots = ms2) (hRR : rmR.frames + 1 ≤ room_1.frames ∧ 8 + (2 + 11) + rmR.locals ≤ room_1.locals) (hroom : cells + mc + mc2 ≤ room_1.cells ∧ slots + ms + ms2 ≤ room_1.slots) (hk : N' 1 0 0 = k) (hP : ∀ w, P w → ∃ (ws2 : va_W) (g : Nat → Int64), w = ws2 ++ [(o, outE cL g)] ∧ (k = 0 → g 0 = bb.toInt64) ∧ C ws2) (kk : ∀ (H : Heap) (locs : List Loc) (ws2 : va_W) (g : Nat → Int64) (ls : Array Slot), C ws2 → gG Z A s ((ws2 ++ [(o, outE cL g)]) ++ wR Z AR N' 16) H locs → lv_has ls 9 [(0, .ref b), (1, .ref ax), (2, .ref (AR 0)), (3, .ref o), (4, .int (nI i))] → W p l e room_1 s m #[Value.ref b] below meth c H locs (cells + mc + mc2) (slots + ms + ms2) Q (F0 m 1524 ls [])) : W p l e room_1 s m #[Value.ref b] below meth c H locs cells slots Q (F0 m 813 ls []) := by
  subst ex1
  have hx := F.1
  have hb := F.2.1
  refine lv_aload_n hx hb dL_law_813 rfl (lv_at hl 1 rfl) ?_
  refine gl_arg (k := 1) F G hX hbl hbA (by omega) hL3 (lv_at hl 0 rfl) (lv_at hl 4 rfl) dL_law_814 dL_law_815 dL_law_817 dL_law_818 dL_law_819 rfl ?_
  refine lv_aload_n hx hb dL_law_820 rfl (lv_at hl 3 rfl) ?_
  refine gl_callL F hxK hxZ hKL hnC G (n := 3) (As := [.ref ax, .int (xs (i + 1)), .ref o]) (rest := []) hL wc_hears w1_0 ⟨⟨by decide +kernel, by decide +kernel⟩, by decide +kernel⟩ w3_58 w3_57 rfl hrL hRL rfl (Nat.le_of_ble_eq_true rfl) hl.1 ⟨by omega, by omega⟩ dL_law_821 (fun H locs w hw G => ?_)
  obtain ⟨ws2, g, rfl, hg, hC⟩ := hP w hw
  refine lv_istore (lv' := [(5, .int k), (0, .ref b), (1, .ref ax), (2, .ref (AR 0)), (3, .ref o), (4, .int (nI i))]) hx hb dL_law_824 hl (by decide) rfl (fun ls hl => ?_)
  refine lv_aload_n hx hb dL_law_826 rfl (lv_at hl 3 rfl) ?_
  refine gl_arg (k := 1) F G hX hbl hbA (by omega) hL3 (lv_at hl 1 rfl) (lv_at hl 5 rfl) dL_law_827 dL_law_828 dL_law_830 dL_law_831 dL_law_832 rfl ?_
  refine ge_callV F G.comm (ci := 8) (k := 0) (As := [.int (xs (i + 1))]) (rest := []) hR.toE kY_X8_hears kV_X8_hears (gR_model (Nat.le_refl 16)) rfl rfl w4_211 rfl hrR hRR rfl (Nat.le_of_ble_eq_true rfl) hl.1 ⟨by omega, by omega⟩ dL_law_833 rfl (fun H locs w hw G => ?_)
  subst hw
  refine lv_istore (lv' := [(6, .int bb), (5, .int k), (0, .ref b), (1, .ref ax), (2, .ref (AR 0)), (3, .ref o), (4, .int (nI i))]) hx hb dL_law_836 hl (by decide) rfl (fun ls hl => ?_)
  refine lv_aload_n hx hb dL_law_838 rfl (lv_at hl 4 rfl) ?_
  refine ge_callV F G (ci := 8) (k := 0) (As := []) (rest := []) (c_X8_thrown Z l AR N' 16 (Nat.le_refl 16)).toE kY_X8_thrown kV_X8_thrown (gR_model (Nat.le_refl 16)) rfl rfl w4_110 rfl ⟨rfl, rfl⟩ ⟨(Nat.le_of_ble_eq_true rfl), (Nat.le_of_ble_eq_true rfl)⟩ rfl (Nat.le_of_ble_eq_true rfl) hl.1 ⟨hroom.1, hroom.2⟩ dL_law_839 rfl (fun H locs w hw G => ?_)
  subst hw
  rw [hk]
  refine lv_iload hx hb dL_law_842 (lv_at hl 1 rfl) ?_
  refine lv_icmp_eq (tgt := 849) hx hb dL_law_844 (by decide) (fun h => ?_) (fun h => absurd rfl h)
  refine lv_iload hx hb dL_law_849 (lv_at hl 1 rfl) ?_
  have fin : W p l e room_1 s m #[Value.ref b] below meth c H locs (cells + mc + mc2) (slots + ms + ms2) Q (F0 m 866 ls []) := by
    refine lv_goto (tgt := 1524) hx hb dL_law_866 (by decide) ?_
    exact kk H locs ws2 g ls hC G.comm (lv_sub hl [2, 3, 4, 5, 6] rfl)
  refine lv_if_ne (tgt := 866) hx hb dL_law_851 (by decide) (fun h => fin) (fun h => ?_)
  have h0 : k = 0 := h
  refine lv_aload_n hx hb dL_law_854 rfl (lv_at hl 5 rfl) ?_
  refine lv_iconst (v := 0) hx hb dL_law_855 rfl ?_
  refine gl_lald F hKL G.comm dL_law_856 ?_
  refine lv_iload hx hb dL_law_857 (lv_at hl 0 rfl) ?_
  refine lv_i2l (v := bb.toInt64) hx hb dL_law_859 rfl ?_
  rw [hg h0]
  refine W.lcmp hx hb dL_law_860 ?_
  rw [cmp_self]
  exact lv_if_eq (tgt := 866) hx hb dL_law_861 (by decide) (fun _ => fin) (fun h => absurd rfl h)
set_option maxRecDepth 100000 in
set_option maxHeartbeats 4000000 in
theorem law_log {p : Program} {l : Launch} {e : Env} {s : State} {m : MethodId} {below : List Frame} {meth : Method} {c : Code} {H : Heap} {locs : List Loc} {cells slots : Nat} {Q : State → Prop} {Z : gZ} {cL : ClassId} {A : Nat → Prop} {ls : Array Slot} {b L : Nat} {xs : Nat → Int32} (F : gF Z p m s #[Value.ref b] meth c cL_law 9 RL ret) (hxK : xK s) (hxZ : xZ A s s.heap) (hKL : gKL Z cL s) (hnC : nC s) (hX : va_X b L xs s s.heap) (hbl : b < s.heap.size) (hbA : ¬ A b) (hL3 : L ≤ 3584) {i : Nat} (hi : i + 6 < L) {ax o : Nat} {AR : Nat → Nat} (hl : lv_has ls 9 [(0, .ref b), (1, .ref ax), (2, .ref (AR 0)), (3, .ref o), (4, .int (nI i))]) {ws1 : va_W} {f : Nat → Int64} {N N' : St} (G : gG Z A s ((ws1 ++ [(o, outE cL f)]) ++ wR Z AR N 16) H locs) {k bb : Int32} {P C : va_W → Prop} {rmL rmR : Room} {mc ms mc2 ms2 : Nat} {x1 x2 x3 : Int32} (ex1 : (xs (i + 1)) = x1) (ex2 : (xs (i + 2)) = x2) (ex3 : (xs (i + 3)) = x3) (hL : gL Z cL l yL_log cL_log 6 [(0, 12, 15, 24)] rmL [.ref ax, .int x1, .int x2, .int x3, .ref o] (ws1 ++ [(o, outE cL f)]) k P mc ms) (hrL : rmL.cells = mc ∧ rmL.slots = ms) (hRL : rmL.frames + 1 ≤ room_1.frames ∧ 8 + (6 + 11) + rmL.locals ≤ room_1.locals) (hR : gM Z l yX8_log cX8_log 4 (some .int) rmR [.ref (AR 0), .int x1, .int x2, .int x3] (wR Z AR N 16) (some (.int bb)) (wR Z AR N' 16) mc2 ms2) (hrR : rmR.cells = mc2 ∧ rmR.slots = ms2) (hRR : rmR.frames + 1 ≤ room_1.frames ∧ 8 + (4 + 11) + rmR.locals ≤ room_1.locals) (hroom : cells + mc + mc2 ≤ room_1.cells ∧ slots + ms + ms2 ≤ room_1.slots) (hk : N' 1 0 0 = k) (hP : ∀ w, P w → ∃ (ws2 : va_W) (g : Nat → Int64), w = ws2 ++ [(o, outE cL g)] ∧ (k = 0 → g 0 = bb.toInt64) ∧ C ws2) (kk : ∀ (H : Heap) (locs : List Loc) (ws2 : va_W) (g : Nat → Int64) (ls : Array Slot), C ws2 → gG Z A s ((ws2 ++ [(o, outE cL g)]) ++ wR Z AR N' 16) H locs → lv_has ls 9 [(0, .ref b), (1, .ref ax), (2, .ref (AR 0)), (3, .ref o), (4, .int (nI i))] → W p l e room_1 s m #[Value.ref b] below meth c H locs (cells + mc + mc2) (slots + ms + ms2) Q (F0 m 1524 ls [])) : W p l e room_1 s m #[Value.ref b] below meth c H locs cells slots Q (F0 m 869 ls []) := by
  subst ex1 ex2 ex3
  have hx := F.1
  have hb := F.2.1
  refine lv_aload_n hx hb dL_law_869 rfl (lv_at hl 1 rfl) ?_
  refine gl_arg (k := 1) F G hX hbl hbA (by omega) hL3 (lv_at hl 0 rfl) (lv_at hl 4 rfl) dL_law_870 dL_law_871 dL_law_873 dL_law_874 dL_law_875 rfl ?_
  refine gl_arg (k := 2) F G hX hbl hbA (by omega) hL3 (lv_at hl 0 rfl) (lv_at hl 4 rfl) dL_law_876 dL_law_877 dL_law_879 dL_law_880 dL_law_881 rfl ?_
  refine gl_arg (k := 3) F G hX hbl hbA (by omega) hL3 (lv_at hl 0 rfl) (lv_at hl 4 rfl) dL_law_882 dL_law_883 dL_law_885 dL_law_886 dL_law_887 rfl ?_
  refine lv_aload_n hx hb dL_law_888 rfl (lv_at hl 3 rfl) ?_
  refine gl_callL F hxK hxZ hKL hnC G (n := 5) (As := [.ref ax, .int (xs (i + 1)), .int (xs (i + 2)), .int (xs (i + 3)), .ref o]) (rest := []) hL wc_log w1_0 ⟨⟨by decide +kernel, by decide +kernel⟩, by decide +kernel⟩ w3_82 w3_81 rfl hrL hRL rfl (Nat.le_of_ble_eq_true rfl) hl.1 ⟨by omega, by omega⟩ dL_law_889 (fun H locs w hw G => ?_)
  obtain ⟨ws2, g, rfl, hg, hC⟩ := hP w hw
  refine lv_istore (lv' := [(5, .int k), (0, .ref b), (1, .ref ax), (2, .ref (AR 0)), (3, .ref o), (4, .int (nI i))]) hx hb dL_law_892 hl (by decide) rfl (fun ls hl => ?_)
  refine lv_aload_n hx hb dL_law_894 rfl (lv_at hl 3 rfl) ?_
  refine gl_arg (k := 1) F G hX hbl hbA (by omega) hL3 (lv_at hl 1 rfl) (lv_at hl 5 rfl) dL_law_895 dL_law_896 dL_law_898 dL_law_899 dL_law_900 rfl ?_
  refine gl_arg (k := 2) F G hX hbl hbA (by omega) hL3 (lv_at hl 1 rfl) (lv_at hl 5 rfl) dL_law_901 dL_law_902 dL_law_904 dL_law_905 dL_law_906 rfl ?_
  refine gl_arg (k := 3) F G hX hbl hbA (by omega) hL3 (lv_at hl 1 rfl) (lv_at hl 5 rfl) dL_law_907 dL_law_908 dL_law_910 dL_law_911 dL_law_912 rfl ?_
  refine ge_callV F G.comm (ci := 8) (k := 0) (As := [.int (xs (i + 1)), .int (xs (i + 2)), .int (xs (i + 3))]) (rest := []) hR.toE kY_X8_log kV_X8_log (gR_model (Nat.le_refl 16)) rfl rfl w4_219 rfl hrR hRR rfl (Nat.le_of_ble_eq_true rfl) hl.1 ⟨by omega, by omega⟩ dL_law_913 rfl (fun H locs w hw G => ?_)
  subst hw
  refine lv_istore (lv' := [(6, .int bb), (5, .int k), (0, .ref b), (1, .ref ax), (2, .ref (AR 0)), (3, .ref o), (4, .int (nI i))]) hx hb dL_law_916 hl (by decide) rfl (fun ls hl => ?_)
  refine lv_aload_n hx hb dL_law_918 rfl (lv_at hl 4 rfl) ?_
  refine ge_callV F G (ci := 8) (k := 0) (As := []) (rest := []) (c_X8_thrown Z l AR N' 16 (Nat.le_refl 16)).toE kY_X8_thrown kV_X8_thrown (gR_model (Nat.le_refl 16)) rfl rfl w4_110 rfl ⟨rfl, rfl⟩ ⟨(Nat.le_of_ble_eq_true rfl), (Nat.le_of_ble_eq_true rfl)⟩ rfl (Nat.le_of_ble_eq_true rfl) hl.1 ⟨hroom.1, hroom.2⟩ dL_law_919 rfl (fun H locs w hw G => ?_)
  subst hw
  rw [hk]
  refine lv_iload hx hb dL_law_922 (lv_at hl 1 rfl) ?_
  refine lv_icmp_eq (tgt := 929) hx hb dL_law_924 (by decide) (fun h => ?_) (fun h => absurd rfl h)
  refine lv_iload hx hb dL_law_929 (lv_at hl 1 rfl) ?_
  have fin : W p l e room_1 s m #[Value.ref b] below meth c H locs (cells + mc + mc2) (slots + ms + ms2) Q (F0 m 946 ls []) := by
    refine lv_goto (tgt := 1524) hx hb dL_law_946 (by decide) ?_
    exact kk H locs ws2 g ls hC G.comm (lv_sub hl [2, 3, 4, 5, 6] rfl)
  refine lv_if_ne (tgt := 946) hx hb dL_law_931 (by decide) (fun h => fin) (fun h => ?_)
  have h0 : k = 0 := h
  refine lv_aload_n hx hb dL_law_934 rfl (lv_at hl 5 rfl) ?_
  refine lv_iconst (v := 0) hx hb dL_law_935 rfl ?_
  refine gl_lald F hKL G.comm dL_law_936 ?_
  refine lv_iload hx hb dL_law_937 (lv_at hl 0 rfl) ?_
  refine lv_i2l (v := bb.toInt64) hx hb dL_law_939 rfl ?_
  rw [hg h0]
  refine W.lcmp hx hb dL_law_940 ?_
  rw [cmp_self]
  exact lv_if_eq (tgt := 946) hx hb dL_law_941 (by decide) (fun _ => fin) (fun h => absurd rfl h)
set_option maxRecDepth 100000 in
set_option maxHeartbeats 4000000 in
theorem law_write {p : Program} {l : Launch} {e : Env} {s : State} {m : MethodId} {below : List Frame} {meth : Method} {c : Code} {H : Heap} {locs : List Loc} {cells slots : Nat} {Q : State → Prop} {Z : gZ} {cL : ClassId} {A : Nat → Prop} {ls : Array Slot} {b L : Nat} {xs : Nat → Int32} (F : gF Z p m s #[Value.ref b] meth c cL_law 9 RL ret) (hxK : xK s) (hxZ : xZ A s s.heap) (hKL : gKL Z cL s) (hnC : nC s) (hX : va_X b L xs s s.heap) (hbl : b < s.heap.size) (hbA : ¬ A b) (hL3 : L ≤ 3584) {i : Nat} (hi : i + 6 < L) {ax o : Nat} {AR : Nat → Nat} (hl : lv_has ls 9 [(0, .ref b), (1, .ref ax), (2, .ref (AR 0)), (3, .ref o), (4, .int (nI i))]) {ws1 : va_W} {f : Nat → Int64} {N N' : St} (G : gG Z A s ((ws1 ++ [(o, outE cL f)]) ++ wR Z AR N 16) H locs) {k bb : Int32} {P C : va_W → Prop} {rmL rmR : Room} {mc ms mc2 ms2 : Nat} {x1 x2 : Int32} (ex1 : (xs (i + 1)) = x1) (ex2 : (xs (i + 2)) = x2) (hL : gL Z cL l yL_write cL_write 5 [(0, 10, 13, 24), (0, 10, 17, 15)] rmL [.ref ax, .int x1, .int x2, .ref o] (ws1 ++ [(o, outE cL f)]) k P mc ms) (hrL : rmL.cells = mc ∧ rmL.slots = ms) (hRL : rmL.frames + 1 ≤ room_1.frames ∧ 8 + (5 + 11) + rmL.locals ≤ room_1.locals) (hR : gM Z l yX8_write cX8_write 6 (some .int) rmR [.ref (AR 0), .int x1, .int x2] (wR Z AR N 16) (some (.int bb)) (wR Z AR N' 16) mc2 ms2) (hrR : rmR.cells = mc2 ∧ rmR.slots = ms2) (hRR : rmR.frames + 1 ≤ room_1.frames ∧ 8 + (6 + 11) + rmR.locals ≤ room_1.locals) (hroom : cells + mc + mc2 ≤ room_1.cells ∧ slots + ms + ms2 ≤ room_1.slots) (hk : N' 1 0 0 = k) (hP : ∀ w, P w → ∃ (ws2 : va_W) (g : Nat → Int64), w = ws2 ++ [(o, outE cL g)] ∧ (k = 0 → g 0 = bb.toInt64) ∧ C ws2) (kk : ∀ (H : Heap) (locs : List Loc) (ws2 : va_W) (g : Nat → Int64) (ls : Array Slot), C ws2 → gG Z A s ((ws2 ++ [(o, outE cL g)]) ++ wR Z AR N' 16) H locs → lv_has ls 9 [(0, .ref b), (1, .ref ax), (2, .ref (AR 0)), (3, .ref o), (4, .int (nI i))] → W p l e room_1 s m #[Value.ref b] below meth c H locs (cells + mc + mc2) (slots + ms + ms2) Q (F0 m 1524 ls [])) : W p l e room_1 s m #[Value.ref b] below meth c H locs cells slots Q (F0 m 949 ls []) := by
  subst ex1 ex2
  have hx := F.1
  have hb := F.2.1
  refine lv_aload_n hx hb dL_law_949 rfl (lv_at hl 1 rfl) ?_
  refine gl_arg (k := 1) F G hX hbl hbA (by omega) hL3 (lv_at hl 0 rfl) (lv_at hl 4 rfl) dL_law_950 dL_law_951 dL_law_953 dL_law_954 dL_law_955 rfl ?_
  refine gl_arg (k := 2) F G hX hbl hbA (by omega) hL3 (lv_at hl 0 rfl) (lv_at hl 4 rfl) dL_law_956 dL_law_957 dL_law_959 dL_law_960 dL_law_961 rfl ?_
  refine lv_aload_n hx hb dL_law_962 rfl (lv_at hl 3 rfl) ?_
  refine gl_callL F hxK hxZ hKL hnC G (n := 4) (As := [.ref ax, .int (xs (i + 1)), .int (xs (i + 2)), .ref o]) (rest := []) hL wc_write w1_0 ⟨⟨by decide +kernel, by decide +kernel⟩, by decide +kernel⟩ w3_94 w3_93 rfl hrL hRL rfl (Nat.le_of_ble_eq_true rfl) hl.1 ⟨by omega, by omega⟩ dL_law_963 (fun H locs w hw G => ?_)
  obtain ⟨ws2, g, rfl, hg, hC⟩ := hP w hw
  refine lv_istore (lv' := [(5, .int k), (0, .ref b), (1, .ref ax), (2, .ref (AR 0)), (3, .ref o), (4, .int (nI i))]) hx hb dL_law_966 hl (by decide) rfl (fun ls hl => ?_)
  refine lv_aload_n hx hb dL_law_968 rfl (lv_at hl 3 rfl) ?_
  refine gl_arg (k := 1) F G hX hbl hbA (by omega) hL3 (lv_at hl 1 rfl) (lv_at hl 5 rfl) dL_law_969 dL_law_970 dL_law_972 dL_law_973 dL_law_974 rfl ?_
  refine gl_arg (k := 2) F G hX hbl hbA (by omega) hL3 (lv_at hl 1 rfl) (lv_at hl 5 rfl) dL_law_975 dL_law_976 dL_law_978 dL_law_979 dL_law_980 rfl ?_
  refine ge_callV F G.comm (ci := 8) (k := 0) (As := [.int (xs (i + 1)), .int (xs (i + 2))]) (rest := []) hR.toE kY_X8_write kV_X8_write (gR_model (Nat.le_refl 16)) rfl rfl w4_227 rfl hrR hRR rfl (Nat.le_of_ble_eq_true rfl) hl.1 ⟨by omega, by omega⟩ dL_law_981 rfl (fun H locs w hw G => ?_)
  subst hw
  refine lv_istore (lv' := [(6, .int bb), (5, .int k), (0, .ref b), (1, .ref ax), (2, .ref (AR 0)), (3, .ref o), (4, .int (nI i))]) hx hb dL_law_984 hl (by decide) rfl (fun ls hl => ?_)
  refine lv_aload_n hx hb dL_law_986 rfl (lv_at hl 4 rfl) ?_
  refine ge_callV F G (ci := 8) (k := 0) (As := []) (rest := []) (c_X8_thrown Z l AR N' 16 (Nat.le_refl 16)).toE kY_X8_thrown kV_X8_thrown (gR_model (Nat.le_refl 16)) rfl rfl w4_110 rfl ⟨rfl, rfl⟩ ⟨(Nat.le_of_ble_eq_true rfl), (Nat.le_of_ble_eq_true rfl)⟩ rfl (Nat.le_of_ble_eq_true rfl) hl.1 ⟨hroom.1, hroom.2⟩ dL_law_987 rfl (fun H locs w hw G => ?_)
  subst hw
  rw [hk]
  refine lv_iload hx hb dL_law_990 (lv_at hl 1 rfl) ?_
  refine lv_icmp_eq (tgt := 997) hx hb dL_law_992 (by decide) (fun h => ?_) (fun h => absurd rfl h)
  refine lv_iload hx hb dL_law_997 (lv_at hl 1 rfl) ?_
  have fin : W p l e room_1 s m #[Value.ref b] below meth c H locs (cells + mc + mc2) (slots + ms + ms2) Q (F0 m 1014 ls []) := by
    refine lv_goto (tgt := 1524) hx hb dL_law_1014 (by decide) ?_
    exact kk H locs ws2 g ls hC G.comm (lv_sub hl [2, 3, 4, 5, 6] rfl)
  refine lv_if_ne (tgt := 1014) hx hb dL_law_999 (by decide) (fun h => fin) (fun h => ?_)
  have h0 : k = 0 := h
  refine lv_aload_n hx hb dL_law_1002 rfl (lv_at hl 5 rfl) ?_
  refine lv_iconst (v := 0) hx hb dL_law_1003 rfl ?_
  refine gl_lald F hKL G.comm dL_law_1004 ?_
  refine lv_iload hx hb dL_law_1005 (lv_at hl 0 rfl) ?_
  refine lv_i2l (v := bb.toInt64) hx hb dL_law_1007 rfl ?_
  rw [hg h0]
  refine W.lcmp hx hb dL_law_1008 ?_
  rw [cmp_self]
  exact lv_if_eq (tgt := 1014) hx hb dL_law_1009 (by decide) (fun _ => fin) (fun h => absurd rfl h)
set_option maxRecDepth 100000 in
set_option maxHeartbeats 4000000 in
theorem law_pass {p : Program} {l : Launch} {e : Env} {s : State} {m : MethodId} {below : List Frame} {meth : Method} {c : Code} {H : Heap} {locs : List Loc} {cells slots : Nat} {Q : State → Prop} {Z : gZ} {cL : ClassId} {A : Nat → Prop} {ls : Array Slot} {b L : Nat} {xs : Nat → Int32} (F : gF Z p m s #[Value.ref b] meth c cL_law 9 RL ret) (hxK : xK s) (hxZ : xZ A s s.heap) (hKL : gKL Z cL s) (hnC : nC s) (hX : va_X b L xs s s.heap) (hbl : b < s.heap.size) (hbA : ¬ A b) (hL3 : L ≤ 3584) {i : Nat} (hi : i + 6 < L) {ax o : Nat} {AR : Nat → Nat} (hl : lv_has ls 9 [(0, .ref b), (1, .ref ax), (2, .ref (AR 0)), (3, .ref o), (4, .int (nI i))]) {ws1 : va_W} {f : Nat → Int64} {N N' : St} (G : gG Z A s ((ws1 ++ [(o, outE cL f)]) ++ wR Z AR N 16) H locs) {k bb : Int32} {P C : va_W → Prop} {rmL rmR : Room} {mc ms mc2 ms2 : Nat} {x1 : Int32} (ex1 : (xs (i + 1)) = x1) (hL : gL Z cL l yL_pass cL_pass 4 [(0, 9, 12, 13)] rmL [.ref ax, .int x1, .ref o] (ws1 ++ [(o, outE cL f)]) k P mc ms) (hrL : rmL.cells = mc ∧ rmL.slots = ms) (hRL : rmL.frames + 1 ≤ room_1.frames ∧ 8 + (4 + 11) + rmL.locals ≤ room_1.locals) (hR : gM Z l yX8_pass cX8_pass 3 (some .int) rmR [.ref (AR 0), .int x1] (wR Z AR N 16) (some (.int bb)) (wR Z AR N' 16) mc2 ms2) (hrR : rmR.cells = mc2 ∧ rmR.slots = ms2) (hRR : rmR.frames + 1 ≤ room_1.frames ∧ 8 + (3 + 11) + rmR.locals ≤ room_1.locals) (hroom : cells + mc + mc2 ≤ room_1.cells ∧ slots + ms + ms2 ≤ room_1.slots) (hk : N' 1 0 0 = k) (hP : ∀ w, P w → ∃ (ws2 : va_W) (g : Nat → Int64), w = ws2 ++ [(o, outE cL g)] ∧ (k = 0 → g 0 = bb.toInt64) ∧ C ws2) (kk : ∀ (H : Heap) (locs : List Loc) (ws2 : va_W) (g : Nat → Int64) (ls : Array Slot), C ws2 → gG Z A s ((ws2 ++ [(o, outE cL g)]) ++ wR Z AR N' 16) H locs → lv_has ls 9 [(0, .ref b), (1, .ref ax), (2, .ref (AR 0)), (3, .ref o), (4, .int (nI i))] → W p l e room_1 s m #[Value.ref b] below meth c H locs (cells + mc + mc2) (slots + ms + ms2) Q (F0 m 1524 ls [])) : W p l e room_1 s m #[Value.ref b] below meth c H locs cells slots Q (F0 m 1017 ls []) := by
  subst ex1
  have hx := F.1
  have hb := F.2.1
  refine lv_aload_n hx hb dL_law_1017 rfl (lv_at hl 1 rfl) ?_
  refine gl_arg (k := 1) F G hX hbl hbA (by omega) hL3 (lv_at hl 0 rfl) (lv_at hl 4 rfl) dL_law_1018 dL_law_1019 dL_law_1021 dL_law_1022 dL_law_1023 rfl ?_
  refine lv_aload_n hx hb dL_law_1024 rfl (lv_at hl 3 rfl) ?_
  refine gl_callL F hxK hxZ hKL hnC G (n := 3) (As := [.ref ax, .int (xs (i + 1)), .ref o]) (rest := []) hL wc_pass w1_0 ⟨⟨by decide +kernel, by decide +kernel⟩, by decide +kernel⟩ w3_124 w3_123 rfl hrL hRL rfl (Nat.le_of_ble_eq_true rfl) hl.1 ⟨by omega, by omega⟩ dL_law_1025 (fun H locs w hw G => ?_)
  obtain ⟨ws2, g, rfl, hg, hC⟩ := hP w hw
  refine lv_istore (lv' := [(5, .int k), (0, .ref b), (1, .ref ax), (2, .ref (AR 0)), (3, .ref o), (4, .int (nI i))]) hx hb dL_law_1028 hl (by decide) rfl (fun ls hl => ?_)
  refine lv_aload_n hx hb dL_law_1030 rfl (lv_at hl 3 rfl) ?_
  refine gl_arg (k := 1) F G hX hbl hbA (by omega) hL3 (lv_at hl 1 rfl) (lv_at hl 5 rfl) dL_law_1031 dL_law_1032 dL_law_1034 dL_law_1035 dL_law_1036 rfl ?_
  refine ge_callV F G.comm (ci := 8) (k := 0) (As := [.int (xs (i + 1))]) (rest := []) hR.toE kY_X8_pass kV_X8_pass (gR_model (Nat.le_refl 16)) rfl rfl w4_231 rfl hrR hRR rfl (Nat.le_of_ble_eq_true rfl) hl.1 ⟨by omega, by omega⟩ dL_law_1037 rfl (fun H locs w hw G => ?_)
  subst hw
  refine lv_istore (lv' := [(6, .int bb), (5, .int k), (0, .ref b), (1, .ref ax), (2, .ref (AR 0)), (3, .ref o), (4, .int (nI i))]) hx hb dL_law_1040 hl (by decide) rfl (fun ls hl => ?_)
  refine lv_aload_n hx hb dL_law_1042 rfl (lv_at hl 4 rfl) ?_
  refine ge_callV F G (ci := 8) (k := 0) (As := []) (rest := []) (c_X8_thrown Z l AR N' 16 (Nat.le_refl 16)).toE kY_X8_thrown kV_X8_thrown (gR_model (Nat.le_refl 16)) rfl rfl w4_110 rfl ⟨rfl, rfl⟩ ⟨(Nat.le_of_ble_eq_true rfl), (Nat.le_of_ble_eq_true rfl)⟩ rfl (Nat.le_of_ble_eq_true rfl) hl.1 ⟨hroom.1, hroom.2⟩ dL_law_1043 rfl (fun H locs w hw G => ?_)
  subst hw
  rw [hk]
  refine lv_iload hx hb dL_law_1046 (lv_at hl 1 rfl) ?_
  refine lv_icmp_eq (tgt := 1053) hx hb dL_law_1048 (by decide) (fun h => ?_) (fun h => absurd rfl h)
  refine lv_iload hx hb dL_law_1053 (lv_at hl 1 rfl) ?_
  have fin : W p l e room_1 s m #[Value.ref b] below meth c H locs (cells + mc + mc2) (slots + ms + ms2) Q (F0 m 1070 ls []) := by
    refine lv_goto (tgt := 1524) hx hb dL_law_1070 (by decide) ?_
    exact kk H locs ws2 g ls hC G.comm (lv_sub hl [2, 3, 4, 5, 6] rfl)
  refine lv_if_ne (tgt := 1070) hx hb dL_law_1055 (by decide) (fun h => fin) (fun h => ?_)
  have h0 : k = 0 := h
  refine lv_aload_n hx hb dL_law_1058 rfl (lv_at hl 5 rfl) ?_
  refine lv_iconst (v := 0) hx hb dL_law_1059 rfl ?_
  refine gl_lald F hKL G.comm dL_law_1060 ?_
  refine lv_iload hx hb dL_law_1061 (lv_at hl 0 rfl) ?_
  refine lv_i2l (v := bb.toInt64) hx hb dL_law_1063 rfl ?_
  rw [hg h0]
  refine W.lcmp hx hb dL_law_1064 ?_
  rw [cmp_self]
  exact lv_if_eq (tgt := 1070) hx hb dL_law_1065 (by decide) (fun _ => fin) (fun h => absurd rfl h)
set_option maxRecDepth 100000 in
set_option maxHeartbeats 4000000 in
theorem law_count {p : Program} {l : Launch} {e : Env} {s : State} {m : MethodId} {below : List Frame} {meth : Method} {c : Code} {H : Heap} {locs : List Loc} {cells slots : Nat} {Q : State → Prop} {Z : gZ} {cL : ClassId} {A : Nat → Prop} {ls : Array Slot} {b L : Nat} {xs : Nat → Int32} (F : gF Z p m s #[Value.ref b] meth c cL_law 9 RL ret) (hxK : xK s) (hxZ : xZ A s s.heap) (hKL : gKL Z cL s) (hnC : nC s) (hX : va_X b L xs s s.heap) (hbl : b < s.heap.size) (hbA : ¬ A b) (hL3 : L ≤ 3584) {i : Nat} (hi : i + 6 < L) {ax o : Nat} {AR : Nat → Nat} (hl : lv_has ls 9 [(0, .ref b), (1, .ref ax), (2, .ref (AR 0)), (3, .ref o), (4, .int (nI i))]) {ws1 : va_W} {f : Nat → Int64} {N N' : St} (G : gG Z A s ((ws1 ++ [(o, outE cL f)]) ++ wR Z AR N 16) H locs) {k bb : Int32} {P C : va_W → Prop} {rmL rmR : Room} {mc ms mc2 ms2 : Nat} {x1 : Int32} (ex1 : (xs (i + 1)) = x1) (hL : gL Z cL l yL_count cL_count 4 [(0, 9, 12, 24)] rmL [.ref ax, .int x1, .ref o] (ws1 ++ [(o, outE cL f)]) k P mc ms) (hrL : rmL.cells = mc ∧ rmL.slots = ms) (hRL : rmL.frames + 1 ≤ room_1.frames ∧ 8 + (4 + 11) + rmL.locals ≤ room_1.locals) (hR : gM Z l yX8_count cX8_count 2 (some .int) rmR [.ref (AR 0), .int x1] (wR Z AR N 16) (some (.int bb)) (wR Z AR N' 16) mc2 ms2) (hrR : rmR.cells = mc2 ∧ rmR.slots = ms2) (hRR : rmR.frames + 1 ≤ room_1.frames ∧ 8 + (2 + 11) + rmR.locals ≤ room_1.locals) (hroom : cells + mc + mc2 ≤ room_1.cells ∧ slots + ms + ms2 ≤ room_1.slots) (hk : N' 1 0 0 = k) (hP : ∀ w, P w → ∃ (ws2 : va_W) (g : Nat → Int64), w = ws2 ++ [(o, outE cL g)] ∧ (k = 0 → g 0 = bb.toInt64) ∧ C ws2) (kk : ∀ (H : Heap) (locs : List Loc) (ws2 : va_W) (g : Nat → Int64) (ls : Array Slot), C ws2 → gG Z A s ((ws2 ++ [(o, outE cL g)]) ++ wR Z AR N' 16) H locs → lv_has ls 9 [(0, .ref b), (1, .ref ax), (2, .ref (AR 0)), (3, .ref o), (4, .int (nI i))] → W p l e room_1 s m #[Value.ref b] below meth c H locs (cells + mc + mc2) (slots + ms + ms2) Q (F0 m 1524 ls [])) : W p l e room_1 s m #[Value.ref b] below meth c H locs cells slots Q (F0 m 1073 ls []) := by
  subst ex1
  have hx := F.1
  have hb := F.2.1
  refine lv_aload_n hx hb dL_law_1073 rfl (lv_at hl 1 rfl) ?_
  refine gl_arg (k := 1) F G hX hbl hbA (by omega) hL3 (lv_at hl 0 rfl) (lv_at hl 4 rfl) dL_law_1074 dL_law_1075 dL_law_1077 dL_law_1078 dL_law_1079 rfl ?_
  refine lv_aload_n hx hb dL_law_1080 rfl (lv_at hl 3 rfl) ?_
  refine gl_callL F hxK hxZ hKL hnC G (n := 3) (As := [.ref ax, .int (xs (i + 1)), .ref o]) (rest := []) hL wc_count w1_0 ⟨⟨by decide +kernel, by decide +kernel⟩, by decide +kernel⟩ w3_181 w3_180 rfl hrL hRL rfl (Nat.le_of_ble_eq_true rfl) hl.1 ⟨by omega, by omega⟩ dL_law_1081 (fun H locs w hw G => ?_)
  obtain ⟨ws2, g, rfl, hg, hC⟩ := hP w hw
  refine lv_istore (lv' := [(5, .int k), (0, .ref b), (1, .ref ax), (2, .ref (AR 0)), (3, .ref o), (4, .int (nI i))]) hx hb dL_law_1084 hl (by decide) rfl (fun ls hl => ?_)
  refine lv_aload_n hx hb dL_law_1086 rfl (lv_at hl 3 rfl) ?_
  refine gl_arg (k := 1) F G hX hbl hbA (by omega) hL3 (lv_at hl 1 rfl) (lv_at hl 5 rfl) dL_law_1087 dL_law_1088 dL_law_1090 dL_law_1091 dL_law_1092 rfl ?_
  refine ge_callV F G.comm (ci := 8) (k := 0) (As := [.int (xs (i + 1))]) (rest := []) hR.toE kY_X8_count kV_X8_count (gR_model (Nat.le_refl 16)) rfl rfl w5_15 rfl hrR hRR rfl (Nat.le_of_ble_eq_true rfl) hl.1 ⟨by omega, by omega⟩ dL_law_1093 rfl (fun H locs w hw G => ?_)
  subst hw
  refine lv_istore (lv' := [(6, .int bb), (5, .int k), (0, .ref b), (1, .ref ax), (2, .ref (AR 0)), (3, .ref o), (4, .int (nI i))]) hx hb dL_law_1096 hl (by decide) rfl (fun ls hl => ?_)
  refine lv_aload_n hx hb dL_law_1098 rfl (lv_at hl 4 rfl) ?_
  refine ge_callV F G (ci := 8) (k := 0) (As := []) (rest := []) (c_X8_thrown Z l AR N' 16 (Nat.le_refl 16)).toE kY_X8_thrown kV_X8_thrown (gR_model (Nat.le_refl 16)) rfl rfl w4_110 rfl ⟨rfl, rfl⟩ ⟨(Nat.le_of_ble_eq_true rfl), (Nat.le_of_ble_eq_true rfl)⟩ rfl (Nat.le_of_ble_eq_true rfl) hl.1 ⟨hroom.1, hroom.2⟩ dL_law_1099 rfl (fun H locs w hw G => ?_)
  subst hw
  rw [hk]
  refine lv_iload hx hb dL_law_1102 (lv_at hl 1 rfl) ?_
  refine lv_icmp_eq (tgt := 1109) hx hb dL_law_1104 (by decide) (fun h => ?_) (fun h => absurd rfl h)
  refine lv_iload hx hb dL_law_1109 (lv_at hl 1 rfl) ?_
  have fin : W p l e room_1 s m #[Value.ref b] below meth c H locs (cells + mc + mc2) (slots + ms + ms2) Q (F0 m 1126 ls []) := by
    refine lv_goto (tgt := 1524) hx hb dL_law_1126 (by decide) ?_
    exact kk H locs ws2 g ls hC G.comm (lv_sub hl [2, 3, 4, 5, 6] rfl)
  refine lv_if_ne (tgt := 1126) hx hb dL_law_1111 (by decide) (fun h => fin) (fun h => ?_)
  have h0 : k = 0 := h
  refine lv_aload_n hx hb dL_law_1114 rfl (lv_at hl 5 rfl) ?_
  refine lv_iconst (v := 0) hx hb dL_law_1115 rfl ?_
  refine gl_lald F hKL G.comm dL_law_1116 ?_
  refine lv_iload hx hb dL_law_1117 (lv_at hl 0 rfl) ?_
  refine lv_i2l (v := bb.toInt64) hx hb dL_law_1119 rfl ?_
  rw [hg h0]
  refine W.lcmp hx hb dL_law_1120 ?_
  rw [cmp_self]
  exact lv_if_eq (tgt := 1126) hx hb dL_law_1121 (by decide) (fun _ => fin) (fun h => absurd rfl h)
set_option maxRecDepth 100000 in
set_option maxHeartbeats 4000000 in
theorem law_rank {p : Program} {l : Launch} {e : Env} {s : State} {m : MethodId} {below : List Frame} {meth : Method} {c : Code} {H : Heap} {locs : List Loc} {cells slots : Nat} {Q : State → Prop} {Z : gZ} {cL : ClassId} {A : Nat → Prop} {ls : Array Slot} {b L : Nat} {xs : Nat → Int32} (F : gF Z p m s #[Value.ref b] meth c cL_law 9 RL ret) (hxK : xK s) (hxZ : xZ A s s.heap) (hKL : gKL Z cL s) (hnC : nC s) (hX : va_X b L xs s s.heap) (hbl : b < s.heap.size) (hbA : ¬ A b) (hL3 : L ≤ 3584) {i : Nat} (hi : i + 6 < L) {ax o : Nat} {AR : Nat → Nat} (hl : lv_has ls 9 [(0, .ref b), (1, .ref ax), (2, .ref (AR 0)), (3, .ref o), (4, .int (nI i))]) {ws1 : va_W} {f : Nat → Int64} {N N' : St} (G : gG Z A s ((ws1 ++ [(o, outE cL f)]) ++ wR Z AR N 16) H locs) {k bb : Int32} {P C : va_W → Prop} {rmL rmR : Room} {mc ms mc2 ms2 : Nat} {x1 : Int32} (ex1 : (xs (i + 1)) = x1) (hL : gL Z cL l yL_rank cL_rank 4 [(0, 9, 12, 24)] rmL [.ref ax, .int x1, .ref o] (ws1 ++ [(o, outE cL f)]) k P mc ms) (hrL : rmL.cells = mc ∧ rmL.slots = ms) (hRL : rmL.frames + 1 ≤ room_1.frames ∧ 8 + (4 + 11) + rmL.locals ≤ room_1.locals) (hR : gM Z l yX8_rank cX8_rank 5 (some .int) rmR [.ref (AR 0), .int x1] (wR Z AR N 16) (some (.int bb)) (wR Z AR N' 16) mc2 ms2) (hrR : rmR.cells = mc2 ∧ rmR.slots = ms2) (hRR : rmR.frames + 1 ≤ room_1.frames ∧ 8 + (5 + 11) + rmR.locals ≤ room_1.locals) (hroom : cells + mc + mc2 ≤ room_1.cells ∧ slots + ms + ms2 ≤ room_1.slots) (hk : N' 1 0 0 = k) (hP : ∀ w, P w → ∃ (ws2 : va_W) (g : Nat → Int64), w = ws2 ++ [(o, outE cL g)] ∧ (k = 0 → g 0 = bb.toInt64) ∧ C ws2) (kk : ∀ (H : Heap) (locs : List Loc) (ws2 : va_W) (g : Nat → Int64) (ls : Array Slot), C ws2 → gG Z A s ((ws2 ++ [(o, outE cL g)]) ++ wR Z AR N' 16) H locs → lv_has ls 9 [(0, .ref b), (1, .ref ax), (2, .ref (AR 0)), (3, .ref o), (4, .int (nI i))] → W p l e room_1 s m #[Value.ref b] below meth c H locs (cells + mc + mc2) (slots + ms + ms2) Q (F0 m 1524 ls [])) : W p l e room_1 s m #[Value.ref b] below meth c H locs cells slots Q (F0 m 1129 ls []) := by
  subst ex1
  have hx := F.1
  have hb := F.2.1
  refine lv_aload_n hx hb dL_law_1129 rfl (lv_at hl 1 rfl) ?_
  refine gl_arg (k := 1) F G hX hbl hbA (by omega) hL3 (lv_at hl 0 rfl) (lv_at hl 4 rfl) dL_law_1130 dL_law_1131 dL_law_1133 dL_law_1134 dL_law_1135 rfl ?_
  refine lv_aload_n hx hb dL_law_1136 rfl (lv_at hl 3 rfl) ?_
  refine gl_callL F hxK hxZ hKL hnC G (n := 3) (As := [.ref ax, .int (xs (i + 1)), .ref o]) (rest := []) hL wc_rank w1_0 ⟨⟨by decide +kernel, by decide +kernel⟩, by decide +kernel⟩ w3_189 w3_188 rfl hrL hRL rfl (Nat.le_of_ble_eq_true rfl) hl.1 ⟨by omega, by omega⟩ dL_law_1137 (fun H locs w hw G => ?_)
  obtain ⟨ws2, g, rfl, hg, hC⟩ := hP w hw
  refine lv_istore (lv' := [(5, .int k), (0, .ref b), (1, .ref ax), (2, .ref (AR 0)), (3, .ref o), (4, .int (nI i))]) hx hb dL_law_1140 hl (by decide) rfl (fun ls hl => ?_)
  refine lv_aload_n hx hb dL_law_1142 rfl (lv_at hl 3 rfl) ?_
  refine gl_arg (k := 1) F G hX hbl hbA (by omega) hL3 (lv_at hl 1 rfl) (lv_at hl 5 rfl) dL_law_1143 dL_law_1144 dL_law_1146 dL_law_1147 dL_law_1148 rfl ?_
  refine ge_callV F G.comm (ci := 8) (k := 0) (As := [.int (xs (i + 1))]) (rest := []) hR.toE kY_X8_rank kV_X8_rank (gR_model (Nat.le_refl 16)) rfl rfl w5_24 rfl hrR hRR rfl (Nat.le_of_ble_eq_true rfl) hl.1 ⟨by omega, by omega⟩ dL_law_1149 rfl (fun H locs w hw G => ?_)
  subst hw
  refine lv_istore (lv' := [(6, .int bb), (5, .int k), (0, .ref b), (1, .ref ax), (2, .ref (AR 0)), (3, .ref o), (4, .int (nI i))]) hx hb dL_law_1152 hl (by decide) rfl (fun ls hl => ?_)
  refine lv_aload_n hx hb dL_law_1154 rfl (lv_at hl 4 rfl) ?_
  refine ge_callV F G (ci := 8) (k := 0) (As := []) (rest := []) (c_X8_thrown Z l AR N' 16 (Nat.le_refl 16)).toE kY_X8_thrown kV_X8_thrown (gR_model (Nat.le_refl 16)) rfl rfl w4_110 rfl ⟨rfl, rfl⟩ ⟨(Nat.le_of_ble_eq_true rfl), (Nat.le_of_ble_eq_true rfl)⟩ rfl (Nat.le_of_ble_eq_true rfl) hl.1 ⟨hroom.1, hroom.2⟩ dL_law_1155 rfl (fun H locs w hw G => ?_)
  subst hw
  rw [hk]
  refine lv_iload hx hb dL_law_1158 (lv_at hl 1 rfl) ?_
  refine lv_icmp_eq (tgt := 1165) hx hb dL_law_1160 (by decide) (fun h => ?_) (fun h => absurd rfl h)
  refine lv_iload hx hb dL_law_1165 (lv_at hl 1 rfl) ?_
  have fin : W p l e room_1 s m #[Value.ref b] below meth c H locs (cells + mc + mc2) (slots + ms + ms2) Q (F0 m 1182 ls []) := by
    refine lv_goto (tgt := 1524) hx hb dL_law_1182 (by decide) ?_
    exact kk H locs ws2 g ls hC G.comm (lv_sub hl [2, 3, 4, 5, 6] rfl)
  refine lv_if_ne (tgt := 1182) hx hb dL_law_1167 (by decide) (fun h => fin) (fun h => ?_)
  have h0 : k = 0 := h
  refine lv_aload_n hx hb dL_law_1170 rfl (lv_at hl 5 rfl) ?_
  refine lv_iconst (v := 0) hx hb dL_law_1171 rfl ?_
  refine gl_lald F hKL G.comm dL_law_1172 ?_
  refine lv_iload hx hb dL_law_1173 (lv_at hl 0 rfl) ?_
  refine lv_i2l (v := bb.toInt64) hx hb dL_law_1175 rfl ?_
  rw [hg h0]
  refine W.lcmp hx hb dL_law_1176 ?_
  rw [cmp_self]
  exact lv_if_eq (tgt := 1182) hx hb dL_law_1177 (by decide) (fun _ => fin) (fun h => absurd rfl h)
set_option maxRecDepth 100000 in
set_option maxHeartbeats 4000000 in
theorem law_dial {p : Program} {l : Launch} {e : Env} {s : State} {m : MethodId} {below : List Frame} {meth : Method} {c : Code} {H : Heap} {locs : List Loc} {cells slots : Nat} {Q : State → Prop} {Z : gZ} {cL : ClassId} {A : Nat → Prop} {ls : Array Slot} {b L : Nat} {xs : Nat → Int32} (F : gF Z p m s #[Value.ref b] meth c cL_law 9 RL ret) (hxK : xK s) (hxZ : xZ A s s.heap) (hKL : gKL Z cL s) (hnC : nC s) (hX : va_X b L xs s s.heap) (hbl : b < s.heap.size) (hbA : ¬ A b) (hL3 : L ≤ 3584) {i : Nat} (hi : i + 6 < L) {ax o : Nat} {AR : Nat → Nat} (hl : lv_has ls 9 [(0, .ref b), (1, .ref ax), (2, .ref (AR 0)), (3, .ref o), (4, .int (nI i))]) {ws1 : va_W} {f : Nat → Int64} {N N' : St} (G : gG Z A s ((ws1 ++ [(o, outE cL f)]) ++ wR Z AR N 16) H locs) {k bb : Int32} {P C : va_W → Prop} {rmL rmR : Room} {mc ms mc2 ms2 : Nat} {x1 x2 : Int32} (ex1 : (xs (i + 1)) = x1) (ex2 : (xs (i + 2)) = x2) (hL : gL Z cL l yL_dial cL_dial 5 [(0, 10, 13, 24)] rmL [.ref ax, .int x1, .int x2, .ref o] (ws1 ++ [(o, outE cL f)]) k P mc ms) (hrL : rmL.cells = mc ∧ rmL.slots = ms) (hRL : rmL.frames + 1 ≤ room_1.frames ∧ 8 + (5 + 11) + rmL.locals ≤ room_1.locals) (hR : gM Z l yX8_dial cX8_dial 8 (some .int) rmR [.ref (AR 0), .int x1, .int x2] (wR Z AR N 16) (some (.int bb)) (wR Z AR N' 16) mc2 ms2) (hrR : rmR.cells = mc2 ∧ rmR.slots = ms2) (hRR : rmR.frames + 1 ≤ room_1.frames ∧ 8 + (8 + 11) + rmR.locals ≤ room_1.locals) (hroom : cells + mc + mc2 ≤ room_1.cells ∧ slots + ms + ms2 ≤ room_1.slots) (hk : N' 1 0 0 = k) (hP : ∀ w, P w → ∃ (ws2 : va_W) (g : Nat → Int64), w = ws2 ++ [(o, outE cL g)] ∧ (k = 0 → g 0 = bb.toInt64) ∧ C ws2) (kk : ∀ (H : Heap) (locs : List Loc) (ws2 : va_W) (g : Nat → Int64) (ls : Array Slot), C ws2 → gG Z A s ((ws2 ++ [(o, outE cL g)]) ++ wR Z AR N' 16) H locs → lv_has ls 9 [(0, .ref b), (1, .ref ax), (2, .ref (AR 0)), (3, .ref o), (4, .int (nI i))] → W p l e room_1 s m #[Value.ref b] below meth c H locs (cells + mc + mc2) (slots + ms + ms2) Q (F0 m 1524 ls [])) : W p l e room_1 s m #[Value.ref b] below meth c H locs cells slots Q (F0 m 1185 ls []) := by
  subst ex1 ex2
  have hx := F.1
  have hb := F.2.1
  refine lv_aload_n hx hb dL_law_1185 rfl (lv_at hl 1 rfl) ?_
  refine gl_arg (k := 1) F G hX hbl hbA (by omega) hL3 (lv_at hl 0 rfl) (lv_at hl 4 rfl) dL_law_1186 dL_law_1187 dL_law_1189 dL_law_1190 dL_law_1191 rfl ?_
  refine gl_arg (k := 2) F G hX hbl hbA (by omega) hL3 (lv_at hl 0 rfl) (lv_at hl 4 rfl) dL_law_1192 dL_law_1193 dL_law_1195 dL_law_1196 dL_law_1197 rfl ?_
  refine lv_aload_n hx hb dL_law_1198 rfl (lv_at hl 3 rfl) ?_
  refine gl_callL F hxK hxZ hKL hnC G (n := 4) (As := [.ref ax, .int (xs (i + 1)), .int (xs (i + 2)), .ref o]) (rest := []) hL wc_dial w1_0 ⟨⟨by decide +kernel, by decide +kernel⟩, by decide +kernel⟩ w3_211 w3_210 rfl hrL hRL rfl (Nat.le_of_ble_eq_true rfl) hl.1 ⟨by omega, by omega⟩ dL_law_1199 (fun H locs w hw G => ?_)
  obtain ⟨ws2, g, rfl, hg, hC⟩ := hP w hw
  refine lv_istore (lv' := [(5, .int k), (0, .ref b), (1, .ref ax), (2, .ref (AR 0)), (3, .ref o), (4, .int (nI i))]) hx hb dL_law_1202 hl (by decide) rfl (fun ls hl => ?_)
  refine lv_aload_n hx hb dL_law_1204 rfl (lv_at hl 3 rfl) ?_
  refine gl_arg (k := 1) F G hX hbl hbA (by omega) hL3 (lv_at hl 1 rfl) (lv_at hl 5 rfl) dL_law_1205 dL_law_1206 dL_law_1208 dL_law_1209 dL_law_1210 rfl ?_
  refine gl_arg (k := 2) F G hX hbl hbA (by omega) hL3 (lv_at hl 1 rfl) (lv_at hl 5 rfl) dL_law_1211 dL_law_1212 dL_law_1214 dL_law_1215 dL_law_1216 rfl ?_
  refine ge_callV F G.comm (ci := 8) (k := 0) (As := [.int (xs (i + 1)), .int (xs (i + 2))]) (rest := []) hR.toE kY_X8_dial kV_X8_dial (gR_model (Nat.le_refl 16)) rfl rfl w5_32 rfl hrR hRR rfl (Nat.le_of_ble_eq_true rfl) hl.1 ⟨by omega, by omega⟩ dL_law_1217 rfl (fun H locs w hw G => ?_)
  subst hw
  refine lv_istore (lv' := [(6, .int bb), (5, .int k), (0, .ref b), (1, .ref ax), (2, .ref (AR 0)), (3, .ref o), (4, .int (nI i))]) hx hb dL_law_1220 hl (by decide) rfl (fun ls hl => ?_)
  refine lv_aload_n hx hb dL_law_1222 rfl (lv_at hl 4 rfl) ?_
  refine ge_callV F G (ci := 8) (k := 0) (As := []) (rest := []) (c_X8_thrown Z l AR N' 16 (Nat.le_refl 16)).toE kY_X8_thrown kV_X8_thrown (gR_model (Nat.le_refl 16)) rfl rfl w4_110 rfl ⟨rfl, rfl⟩ ⟨(Nat.le_of_ble_eq_true rfl), (Nat.le_of_ble_eq_true rfl)⟩ rfl (Nat.le_of_ble_eq_true rfl) hl.1 ⟨hroom.1, hroom.2⟩ dL_law_1223 rfl (fun H locs w hw G => ?_)
  subst hw
  rw [hk]
  refine lv_iload hx hb dL_law_1226 (lv_at hl 1 rfl) ?_
  refine lv_icmp_eq (tgt := 1233) hx hb dL_law_1228 (by decide) (fun h => ?_) (fun h => absurd rfl h)
  refine lv_iload hx hb dL_law_1233 (lv_at hl 1 rfl) ?_
  have fin : W p l e room_1 s m #[Value.ref b] below meth c H locs (cells + mc + mc2) (slots + ms + ms2) Q (F0 m 1250 ls []) := by
    refine lv_goto (tgt := 1524) hx hb dL_law_1250 (by decide) ?_
    exact kk H locs ws2 g ls hC G.comm (lv_sub hl [2, 3, 4, 5, 6] rfl)
  refine lv_if_ne (tgt := 1250) hx hb dL_law_1235 (by decide) (fun h => fin) (fun h => ?_)
  have h0 : k = 0 := h
  refine lv_aload_n hx hb dL_law_1238 rfl (lv_at hl 5 rfl) ?_
  refine lv_iconst (v := 0) hx hb dL_law_1239 rfl ?_
  refine gl_lald F hKL G.comm dL_law_1240 ?_
  refine lv_iload hx hb dL_law_1241 (lv_at hl 0 rfl) ?_
  refine lv_i2l (v := bb.toInt64) hx hb dL_law_1243 rfl ?_
  rw [hg h0]
  refine W.lcmp hx hb dL_law_1244 ?_
  rw [cmp_self]
  exact lv_if_eq (tgt := 1250) hx hb dL_law_1245 (by decide) (fun _ => fin) (fun h => absurd rfl h)
set_option maxRecDepth 100000 in
set_option maxHeartbeats 4000000 in
theorem law_next {p : Program} {l : Launch} {e : Env} {s : State} {m : MethodId} {below : List Frame} {meth : Method} {c : Code} {H : Heap} {locs : List Loc} {cells slots : Nat} {Q : State → Prop} {Z : gZ} {cL : ClassId} {A : Nat → Prop} {ls : Array Slot} {b L : Nat} {xs : Nat → Int32} (F : gF Z p m s #[Value.ref b] meth c cL_law 9 RL ret) (hxK : xK s) (hxZ : xZ A s s.heap) (hKL : gKL Z cL s) (hnC : nC s) (hX : va_X b L xs s s.heap) (hbl : b < s.heap.size) (hbA : ¬ A b) (hL3 : L ≤ 3584) {i : Nat} (hi : i + 6 < L) {ax o : Nat} {AR : Nat → Nat} (hl : lv_has ls 9 [(0, .ref b), (1, .ref ax), (2, .ref (AR 0)), (3, .ref o), (4, .int (nI i))]) {ws1 : va_W} {f : Nat → Int64} {N N' : St} (G : gG Z A s ((ws1 ++ [(o, outE cL f)]) ++ wR Z AR N 16) H locs) {k bb : Int32} {P C : va_W → Prop} {rmL rmR : Room} {mc ms mc2 ms2 : Nat} {x1 x2 : Int32} (ex1 : (xs (i + 1)) = x1) (ex2 : (xs (i + 2)) = x2) (hL : gL Z cL l yL_next cL_next 5 [(0, 10, 13, 24)] rmL [.ref ax, .int x1, .int x2, .ref o] (ws1 ++ [(o, outE cL f)]) k P mc ms) (hrL : rmL.cells = mc ∧ rmL.slots = ms) (hRL : rmL.frames + 1 ≤ room_1.frames ∧ 8 + (5 + 11) + rmL.locals ≤ room_1.locals) (hR : gM Z l yX8_next cX8_next 5 (some .int) rmR [.ref (AR 0), .int x1, .int x2] (wR Z AR N 16) (some (.int bb)) (wR Z AR N' 16) mc2 ms2) (hrR : rmR.cells = mc2 ∧ rmR.slots = ms2) (hRR : rmR.frames + 1 ≤ room_1.frames ∧ 8 + (5 + 11) + rmR.locals ≤ room_1.locals) (hroom : cells + mc + mc2 ≤ room_1.cells ∧ slots + ms + ms2 ≤ room_1.slots) (hk : N' 1 0 0 = k) (hP : ∀ w, P w → ∃ (ws2 : va_W) (g : Nat → Int64), w = ws2 ++ [(o, outE cL g)] ∧ (k = 0 → g 0 = bb.toInt64) ∧ C ws2) (kk : ∀ (H : Heap) (locs : List Loc) (ws2 : va_W) (g : Nat → Int64) (ls : Array Slot), C ws2 → gG Z A s ((ws2 ++ [(o, outE cL g)]) ++ wR Z AR N' 16) H locs → lv_has ls 9 [(0, .ref b), (1, .ref ax), (2, .ref (AR 0)), (3, .ref o), (4, .int (nI i))] → W p l e room_1 s m #[Value.ref b] below meth c H locs (cells + mc + mc2) (slots + ms + ms2) Q (F0 m 1524 ls [])) : W p l e room_1 s m #[Value.ref b] below meth c H locs cells slots Q (F0 m 1253 ls []) := by
  subst ex1 ex2
  have hx := F.1
  have hb := F.2.1
  refine lv_aload_n hx hb dL_law_1253 rfl (lv_at hl 1 rfl) ?_
  refine gl_arg (k := 1) F G hX hbl hbA (by omega) hL3 (lv_at hl 0 rfl) (lv_at hl 4 rfl) dL_law_1254 dL_law_1255 dL_law_1257 dL_law_1258 dL_law_1259 rfl ?_
  refine gl_arg (k := 2) F G hX hbl hbA (by omega) hL3 (lv_at hl 0 rfl) (lv_at hl 4 rfl) dL_law_1260 dL_law_1261 dL_law_1263 dL_law_1264 dL_law_1265 rfl ?_
  refine lv_aload_n hx hb dL_law_1266 rfl (lv_at hl 3 rfl) ?_
  refine gl_callL F hxK hxZ hKL hnC G (n := 4) (As := [.ref ax, .int (xs (i + 1)), .int (xs (i + 2)), .ref o]) (rest := []) hL wc_next w1_0 ⟨⟨by decide +kernel, by decide +kernel⟩, by decide +kernel⟩ w3_227 w3_226 rfl hrL hRL rfl (Nat.le_of_ble_eq_true rfl) hl.1 ⟨by omega, by omega⟩ dL_law_1267 (fun H locs w hw G => ?_)
  obtain ⟨ws2, g, rfl, hg, hC⟩ := hP w hw
  refine lv_istore (lv' := [(5, .int k), (0, .ref b), (1, .ref ax), (2, .ref (AR 0)), (3, .ref o), (4, .int (nI i))]) hx hb dL_law_1270 hl (by decide) rfl (fun ls hl => ?_)
  refine lv_aload_n hx hb dL_law_1272 rfl (lv_at hl 3 rfl) ?_
  refine gl_arg (k := 1) F G hX hbl hbA (by omega) hL3 (lv_at hl 1 rfl) (lv_at hl 5 rfl) dL_law_1273 dL_law_1274 dL_law_1276 dL_law_1277 dL_law_1278 rfl ?_
  refine gl_arg (k := 2) F G hX hbl hbA (by omega) hL3 (lv_at hl 1 rfl) (lv_at hl 5 rfl) dL_law_1279 dL_law_1280 dL_law_1282 dL_law_1283 dL_law_1284 rfl ?_
  refine ge_callV F G.comm (ci := 8) (k := 0) (As := [.int (xs (i + 1)), .int (xs (i + 2))]) (rest := []) hR.toE kY_X8_next kV_X8_next (gR_model (Nat.le_refl 16)) rfl rfl w5_36 rfl hrR hRR rfl (Nat.le_of_ble_eq_true rfl) hl.1 ⟨by omega, by omega⟩ dL_law_1285 rfl (fun H locs w hw G => ?_)
  subst hw
  refine lv_istore (lv' := [(6, .int bb), (5, .int k), (0, .ref b), (1, .ref ax), (2, .ref (AR 0)), (3, .ref o), (4, .int (nI i))]) hx hb dL_law_1288 hl (by decide) rfl (fun ls hl => ?_)
  refine lv_aload_n hx hb dL_law_1290 rfl (lv_at hl 4 rfl) ?_
  refine ge_callV F G (ci := 8) (k := 0) (As := []) (rest := []) (c_X8_thrown Z l AR N' 16 (Nat.le_refl 16)).toE kY_X8_thrown kV_X8_thrown (gR_model (Nat.le_refl 16)) rfl rfl w4_110 rfl ⟨rfl, rfl⟩ ⟨(Nat.le_of_ble_eq_true rfl), (Nat.le_of_ble_eq_true rfl)⟩ rfl (Nat.le_of_ble_eq_true rfl) hl.1 ⟨hroom.1, hroom.2⟩ dL_law_1291 rfl (fun H locs w hw G => ?_)
  subst hw
  rw [hk]
  refine lv_iload hx hb dL_law_1294 (lv_at hl 1 rfl) ?_
  refine lv_icmp_eq (tgt := 1301) hx hb dL_law_1296 (by decide) (fun h => ?_) (fun h => absurd rfl h)
  refine lv_iload hx hb dL_law_1301 (lv_at hl 1 rfl) ?_
  have fin : W p l e room_1 s m #[Value.ref b] below meth c H locs (cells + mc + mc2) (slots + ms + ms2) Q (F0 m 1318 ls []) := by
    refine lv_goto (tgt := 1524) hx hb dL_law_1318 (by decide) ?_
    exact kk H locs ws2 g ls hC G.comm (lv_sub hl [2, 3, 4, 5, 6] rfl)
  refine lv_if_ne (tgt := 1318) hx hb dL_law_1303 (by decide) (fun h => fin) (fun h => ?_)
  have h0 : k = 0 := h
  refine lv_aload_n hx hb dL_law_1306 rfl (lv_at hl 5 rfl) ?_
  refine lv_iconst (v := 0) hx hb dL_law_1307 rfl ?_
  refine gl_lald F hKL G.comm dL_law_1308 ?_
  refine lv_iload hx hb dL_law_1309 (lv_at hl 0 rfl) ?_
  refine lv_i2l (v := bb.toInt64) hx hb dL_law_1311 rfl ?_
  rw [hg h0]
  refine W.lcmp hx hb dL_law_1312 ?_
  rw [cmp_self]
  exact lv_if_eq (tgt := 1318) hx hb dL_law_1313 (by decide) (fun _ => fin) (fun h => absurd rfl h)
set_option maxRecDepth 100000 in
set_option maxHeartbeats 4000000 in
theorem law_apart {p : Program} {l : Launch} {e : Env} {s : State} {m : MethodId} {below : List Frame} {meth : Method} {c : Code} {H : Heap} {locs : List Loc} {cells slots : Nat} {Q : State → Prop} {Z : gZ} {cL : ClassId} {A : Nat → Prop} {ls : Array Slot} {b L : Nat} {xs : Nat → Int32} (F : gF Z p m s #[Value.ref b] meth c cL_law 9 RL ret) (hxK : xK s) (hxZ : xZ A s s.heap) (hKL : gKL Z cL s) (hnC : nC s) (hX : va_X b L xs s s.heap) (hbl : b < s.heap.size) (hbA : ¬ A b) (hL3 : L ≤ 3584) {i : Nat} (hi : i + 6 < L) {ax o : Nat} {AR : Nat → Nat} (hl : lv_has ls 9 [(0, .ref b), (1, .ref ax), (2, .ref (AR 0)), (3, .ref o), (4, .int (nI i))]) {ws1 : va_W} {f : Nat → Int64} {N N' : St} (G : gG Z A s ((ws1 ++ [(o, outE cL f)]) ++ wR Z AR N 16) H locs) {k bb : Int32} {P C : va_W → Prop} {rmL rmR : Room} {mc ms mc2 ms2 : Nat} {x1 x2 x3 : Int32} (ex1 : (xs (i + 1)) = x1) (ex2 : (xs (i + 2)) = x2) (ex3 : (xs (i + 3)) = x3) (hL : gL Z cL l yL_apart cL_apart 6 [(0, 12, 15, 24), (0, 12, 19, 13)] rmL [.ref ax, .int x1, .int x2, .int x3, .ref o] (ws1 ++ [(o, outE cL f)]) k P mc ms) (hrL : rmL.cells = mc ∧ rmL.slots = ms) (hRL : rmL.frames + 1 ≤ room_1.frames ∧ 8 + (6 + 11) + rmL.locals ≤ room_1.locals) (hR : gM Z l yX8_apart cX8_apart 10 (some .int) rmR [.ref (AR 0), .int x1, .int x2, .int x3] (wR Z AR N 16) (some (.int bb)) (wR Z AR N' 16) mc2 ms2) (hrR : rmR.cells = mc2 ∧ rmR.slots = ms2) (hRR : rmR.frames + 1 ≤ room_1.frames ∧ 8 + (10 + 11) + rmR.locals ≤ room_1.locals) (hroom : cells + mc + mc2 ≤ room_1.cells ∧ slots + ms + ms2 ≤ room_1.slots) (hk : N' 1 0 0 = k) (hP : ∀ w, P w → ∃ (ws2 : va_W) (g : Nat → Int64), w = ws2 ++ [(o, outE cL g)] ∧ (k = 0 → g 0 = bb.toInt64) ∧ C ws2) (kk : ∀ (H : Heap) (locs : List Loc) (ws2 : va_W) (g : Nat → Int64) (ls : Array Slot), C ws2 → gG Z A s ((ws2 ++ [(o, outE cL g)]) ++ wR Z AR N' 16) H locs → lv_has ls 9 [(0, .ref b), (1, .ref ax), (2, .ref (AR 0)), (3, .ref o), (4, .int (nI i))] → W p l e room_1 s m #[Value.ref b] below meth c H locs (cells + mc + mc2) (slots + ms + ms2) Q (F0 m 1524 ls [])) : W p l e room_1 s m #[Value.ref b] below meth c H locs cells slots Q (F0 m 1321 ls []) := by
  subst ex1 ex2 ex3
  have hx := F.1
  have hb := F.2.1
  refine lv_aload_n hx hb dL_law_1321 rfl (lv_at hl 1 rfl) ?_
  refine gl_arg (k := 1) F G hX hbl hbA (by omega) hL3 (lv_at hl 0 rfl) (lv_at hl 4 rfl) dL_law_1322 dL_law_1323 dL_law_1325 dL_law_1326 dL_law_1327 rfl ?_
  refine gl_arg (k := 2) F G hX hbl hbA (by omega) hL3 (lv_at hl 0 rfl) (lv_at hl 4 rfl) dL_law_1328 dL_law_1329 dL_law_1331 dL_law_1332 dL_law_1333 rfl ?_
  refine gl_arg (k := 3) F G hX hbl hbA (by omega) hL3 (lv_at hl 0 rfl) (lv_at hl 4 rfl) dL_law_1334 dL_law_1335 dL_law_1337 dL_law_1338 dL_law_1339 rfl ?_
  refine lv_aload_n hx hb dL_law_1340 rfl (lv_at hl 3 rfl) ?_
  refine gl_callL F hxK hxZ hKL hnC G (n := 5) (As := [.ref ax, .int (xs (i + 1)), .int (xs (i + 2)), .int (xs (i + 3)), .ref o]) (rest := []) hL wc_apart w1_0 ⟨⟨by decide +kernel, by decide +kernel⟩, by decide +kernel⟩ w3_234 w3_233 rfl hrL hRL rfl (Nat.le_of_ble_eq_true rfl) hl.1 ⟨by omega, by omega⟩ dL_law_1341 (fun H locs w hw G => ?_)
  obtain ⟨ws2, g, rfl, hg, hC⟩ := hP w hw
  refine lv_istore (lv' := [(5, .int k), (0, .ref b), (1, .ref ax), (2, .ref (AR 0)), (3, .ref o), (4, .int (nI i))]) hx hb dL_law_1344 hl (by decide) rfl (fun ls hl => ?_)
  refine lv_aload_n hx hb dL_law_1346 rfl (lv_at hl 3 rfl) ?_
  refine gl_arg (k := 1) F G hX hbl hbA (by omega) hL3 (lv_at hl 1 rfl) (lv_at hl 5 rfl) dL_law_1347 dL_law_1348 dL_law_1350 dL_law_1351 dL_law_1352 rfl ?_
  refine gl_arg (k := 2) F G hX hbl hbA (by omega) hL3 (lv_at hl 1 rfl) (lv_at hl 5 rfl) dL_law_1353 dL_law_1354 dL_law_1356 dL_law_1357 dL_law_1358 rfl ?_
  refine gl_arg (k := 3) F G hX hbl hbA (by omega) hL3 (lv_at hl 1 rfl) (lv_at hl 5 rfl) dL_law_1359 dL_law_1360 dL_law_1362 dL_law_1363 dL_law_1364 rfl ?_
  refine ge_callV F G.comm (ci := 8) (k := 0) (As := [.int (xs (i + 1)), .int (xs (i + 2)), .int (xs (i + 3))]) (rest := []) hR.toE kY_X8_apart kV_X8_apart (gR_model (Nat.le_refl 16)) rfl rfl w5_40 rfl hrR hRR rfl (Nat.le_of_ble_eq_true rfl) hl.1 ⟨by omega, by omega⟩ dL_law_1365 rfl (fun H locs w hw G => ?_)
  subst hw
  refine lv_istore (lv' := [(6, .int bb), (5, .int k), (0, .ref b), (1, .ref ax), (2, .ref (AR 0)), (3, .ref o), (4, .int (nI i))]) hx hb dL_law_1368 hl (by decide) rfl (fun ls hl => ?_)
  refine lv_aload_n hx hb dL_law_1370 rfl (lv_at hl 4 rfl) ?_
  refine ge_callV F G (ci := 8) (k := 0) (As := []) (rest := []) (c_X8_thrown Z l AR N' 16 (Nat.le_refl 16)).toE kY_X8_thrown kV_X8_thrown (gR_model (Nat.le_refl 16)) rfl rfl w4_110 rfl ⟨rfl, rfl⟩ ⟨(Nat.le_of_ble_eq_true rfl), (Nat.le_of_ble_eq_true rfl)⟩ rfl (Nat.le_of_ble_eq_true rfl) hl.1 ⟨hroom.1, hroom.2⟩ dL_law_1371 rfl (fun H locs w hw G => ?_)
  subst hw
  rw [hk]
  refine lv_iload hx hb dL_law_1374 (lv_at hl 1 rfl) ?_
  refine lv_icmp_eq (tgt := 1381) hx hb dL_law_1376 (by decide) (fun h => ?_) (fun h => absurd rfl h)
  refine lv_iload hx hb dL_law_1381 (lv_at hl 1 rfl) ?_
  have fin : W p l e room_1 s m #[Value.ref b] below meth c H locs (cells + mc + mc2) (slots + ms + ms2) Q (F0 m 1398 ls []) := by
    refine lv_goto (tgt := 1524) hx hb dL_law_1398 (by decide) ?_
    exact kk H locs ws2 g ls hC G.comm (lv_sub hl [2, 3, 4, 5, 6] rfl)
  refine lv_if_ne (tgt := 1398) hx hb dL_law_1383 (by decide) (fun h => fin) (fun h => ?_)
  have h0 : k = 0 := h
  refine lv_aload_n hx hb dL_law_1386 rfl (lv_at hl 5 rfl) ?_
  refine lv_iconst (v := 0) hx hb dL_law_1387 rfl ?_
  refine gl_lald F hKL G.comm dL_law_1388 ?_
  refine lv_iload hx hb dL_law_1389 (lv_at hl 0 rfl) ?_
  refine lv_i2l (v := bb.toInt64) hx hb dL_law_1391 rfl ?_
  rw [hg h0]
  refine W.lcmp hx hb dL_law_1392 ?_
  rw [cmp_self]
  exact lv_if_eq (tgt := 1398) hx hb dL_law_1393 (by decide) (fun _ => fin) (fun h => absurd rfl h)
set_option maxRecDepth 100000 in
set_option maxHeartbeats 4000000 in
theorem law_foresee {p : Program} {l : Launch} {e : Env} {s : State} {m : MethodId} {below : List Frame} {meth : Method} {c : Code} {H : Heap} {locs : List Loc} {cells slots : Nat} {Q : State → Prop} {Z : gZ} {cL : ClassId} {A : Nat → Prop} {ls : Array Slot} {b L : Nat} {xs : Nat → Int32} (F : gF Z p m s #[Value.ref b] meth c cL_law 9 RL ret) (hxK : xK s) (hxZ : xZ A s s.heap) (hKL : gKL Z cL s) (hnC : nC s) (hX : va_X b L xs s s.heap) (hbl : b < s.heap.size) (hbA : ¬ A b) (hL3 : L ≤ 3584) {i : Nat} (hi : i + 6 < L) {ax o : Nat} {AR : Nat → Nat} (hl : lv_has ls 9 [(0, .ref b), (1, .ref ax), (2, .ref (AR 0)), (3, .ref o), (4, .int (nI i))]) {ws1 : va_W} {f : Nat → Int64} {N N' : St} (G : gG Z A s ((ws1 ++ [(o, outE cL f)]) ++ wR Z AR N 16) H locs) {k bb : Int32} {P C : va_W → Prop} {rmL rmR : Room} {mc ms mc2 ms2 : Nat} {x1 x2 : Int32} (ex1 : (xs (i + 1)) = x1) (ex2 : (xs (i + 2)) = x2) (hL : gL Z cL l yL_foresee cL_foresee 5 [(0, 10, 13, 13), (0, 10, 17, 24)] rmL [.ref ax, .int x1, .int x2, .ref o] (ws1 ++ [(o, outE cL f)]) k P mc ms) (hrL : rmL.cells = mc ∧ rmL.slots = ms) (hRL : rmL.frames + 1 ≤ room_1.frames ∧ 8 + (5 + 11) + rmL.locals ≤ room_1.locals) (hR : gM Z l yX8_foresee cX8_foresee 3 (some .int) rmR [.ref (AR 0), .int x1, .int x2] (wR Z AR N 16) (some (.int bb)) (wR Z AR N' 16) mc2 ms2) (hrR : rmR.cells = mc2 ∧ rmR.slots = ms2) (hRR : rmR.frames + 1 ≤ room_1.frames ∧ 8 + (3 + 11) + rmR.locals ≤ room_1.locals) (hroom : cells + mc + mc2 ≤ room_1.cells ∧ slots + ms + ms2 ≤ room_1.slots) (hk : N' 1 0 0 = k) (hP : ∀ w, P w → ∃ (ws2 : va_W) (g : Nat → Int64), w = ws2 ++ [(o, outE cL g)] ∧ (k = 0 → g 0 = bb.toInt64) ∧ C ws2) (kk : ∀ (H : Heap) (locs : List Loc) (ws2 : va_W) (g : Nat → Int64) (ls : Array Slot), C ws2 → gG Z A s ((ws2 ++ [(o, outE cL g)]) ++ wR Z AR N' 16) H locs → lv_has ls 9 [(0, .ref b), (1, .ref ax), (2, .ref (AR 0)), (3, .ref o), (4, .int (nI i))] → W p l e room_1 s m #[Value.ref b] below meth c H locs (cells + mc + mc2) (slots + ms + ms2) Q (F0 m 1524 ls [])) : W p l e room_1 s m #[Value.ref b] below meth c H locs cells slots Q (F0 m 1401 ls []) := by
  subst ex1 ex2
  have hx := F.1
  have hb := F.2.1
  refine lv_aload_n hx hb dL_law_1401 rfl (lv_at hl 1 rfl) ?_
  refine gl_arg (k := 1) F G hX hbl hbA (by omega) hL3 (lv_at hl 0 rfl) (lv_at hl 4 rfl) dL_law_1402 dL_law_1403 dL_law_1405 dL_law_1406 dL_law_1407 rfl ?_
  refine gl_arg (k := 2) F G hX hbl hbA (by omega) hL3 (lv_at hl 0 rfl) (lv_at hl 4 rfl) dL_law_1408 dL_law_1409 dL_law_1411 dL_law_1412 dL_law_1413 rfl ?_
  refine lv_aload_n hx hb dL_law_1414 rfl (lv_at hl 3 rfl) ?_
  refine gl_callL F hxK hxZ hKL hnC G (n := 4) (As := [.ref ax, .int (xs (i + 1)), .int (xs (i + 2)), .ref o]) (rest := []) hL wc_foresee w1_0 ⟨⟨by decide +kernel, by decide +kernel⟩, by decide +kernel⟩ w4_6 w4_5 rfl hrL hRL rfl (Nat.le_of_ble_eq_true rfl) hl.1 ⟨by omega, by omega⟩ dL_law_1415 (fun H locs w hw G => ?_)
  obtain ⟨ws2, g, rfl, hg, hC⟩ := hP w hw
  refine lv_istore (lv' := [(5, .int k), (0, .ref b), (1, .ref ax), (2, .ref (AR 0)), (3, .ref o), (4, .int (nI i))]) hx hb dL_law_1418 hl (by decide) rfl (fun ls hl => ?_)
  refine lv_aload_n hx hb dL_law_1420 rfl (lv_at hl 3 rfl) ?_
  refine gl_arg (k := 1) F G hX hbl hbA (by omega) hL3 (lv_at hl 1 rfl) (lv_at hl 5 rfl) dL_law_1421 dL_law_1422 dL_law_1424 dL_law_1425 dL_law_1426 rfl ?_
  refine gl_arg (k := 2) F G hX hbl hbA (by omega) hL3 (lv_at hl 1 rfl) (lv_at hl 5 rfl) dL_law_1427 dL_law_1428 dL_law_1430 dL_law_1431 dL_law_1432 rfl ?_
  refine ge_callV F G.comm (ci := 8) (k := 0) (As := [.int (xs (i + 1)), .int (xs (i + 2))]) (rest := []) hR.toE kY_X8_foresee kV_X8_foresee (gR_model (Nat.le_refl 16)) rfl rfl w5_44 rfl hrR hRR rfl (Nat.le_of_ble_eq_true rfl) hl.1 ⟨by omega, by omega⟩ dL_law_1433 rfl (fun H locs w hw G => ?_)
  subst hw
  refine lv_istore (lv' := [(6, .int bb), (5, .int k), (0, .ref b), (1, .ref ax), (2, .ref (AR 0)), (3, .ref o), (4, .int (nI i))]) hx hb dL_law_1436 hl (by decide) rfl (fun ls hl => ?_)
  refine lv_aload_n hx hb dL_law_1438 rfl (lv_at hl 4 rfl) ?_
  refine ge_callV F G (ci := 8) (k := 0) (As := []) (rest := []) (c_X8_thrown Z l AR N' 16 (Nat.le_refl 16)).toE kY_X8_thrown kV_X8_thrown (gR_model (Nat.le_refl 16)) rfl rfl w4_110 rfl ⟨rfl, rfl⟩ ⟨(Nat.le_of_ble_eq_true rfl), (Nat.le_of_ble_eq_true rfl)⟩ rfl (Nat.le_of_ble_eq_true rfl) hl.1 ⟨hroom.1, hroom.2⟩ dL_law_1439 rfl (fun H locs w hw G => ?_)
  subst hw
  rw [hk]
  refine lv_iload hx hb dL_law_1442 (lv_at hl 1 rfl) ?_
  refine lv_icmp_eq (tgt := 1449) hx hb dL_law_1444 (by decide) (fun h => ?_) (fun h => absurd rfl h)
  refine lv_iload hx hb dL_law_1449 (lv_at hl 1 rfl) ?_
  have fin : W p l e room_1 s m #[Value.ref b] below meth c H locs (cells + mc + mc2) (slots + ms + ms2) Q (F0 m 1466 ls []) := by
    refine lv_goto (tgt := 1524) hx hb dL_law_1466 (by decide) ?_
    exact kk H locs ws2 g ls hC G.comm (lv_sub hl [2, 3, 4, 5, 6] rfl)
  refine lv_if_ne (tgt := 1466) hx hb dL_law_1451 (by decide) (fun h => fin) (fun h => ?_)
  have h0 : k = 0 := h
  refine lv_aload_n hx hb dL_law_1454 rfl (lv_at hl 5 rfl) ?_
  refine lv_iconst (v := 0) hx hb dL_law_1455 rfl ?_
  refine gl_lald F hKL G.comm dL_law_1456 ?_
  refine lv_iload hx hb dL_law_1457 (lv_at hl 0 rfl) ?_
  refine lv_i2l (v := bb.toInt64) hx hb dL_law_1459 rfl ?_
  rw [hg h0]
  refine W.lcmp hx hb dL_law_1460 ?_
  rw [cmp_self]
  exact lv_if_eq (tgt := 1466) hx hb dL_law_1461 (by decide) (fun _ => fin) (fun h => absurd rfl h)
