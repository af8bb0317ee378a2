/-! the law's wrappers: what each hands back -/
theorem cast_at {s : State} {Z : gZ} {E : String} {args : Array Value} (hK : gK Z s) (h : Cond.castable E E ∈ nW) : (Cond.castable E E).before args s = true := va_Nw.use rfl (hK.2 _ h)
theorem wc_addStation : Cond.codeWith yL_addStation cL_addStation 9 (some .int) [(0, 18, 21, 13), (0, 18, 25, 15)] ∈ gW := gW_2 (List.mem_of_getElem? (i := 42) rfl) rfl
set_option maxRecDepth 100000 in
set_option maxHeartbeats 4000000 in
theorem l_addStation {Z : gZ} {cL : ClassId} {l : Launch} {a o mc ms : Nat} {f : Nat → Int64} {ws : va_W} {fs : List Value} {rm : Room} {v : Int32} {P : va_W → Prop} (h0 : ws[0]? = some (a, .inr (6, fs))) (x1 x2 x3 x4 x5 x6 : Int32) (hrm : rm.cells = mc ∧ rm.slots = ms) (hM : gE Z l yX6_addStation cX6_addStation 7 (some .int) rm (.ref a :: [.int x1, .int x2, .int x3, .int x4, .int x5, .int x6]) ws (some (.int v)) P mc ms) : gL Z cL l yL_addStation cL_addStation 9 [(0, 18, 21, 13), (0, 18, 25, 15)] ({ frames := rm.frames + 1, cells := mc, slots := ms, locals := 8 + (7 + 11) + rm.locals } : Room) [.ref a, .int x1, .int x2, .int x3, .int x4, .int x5, .int x6, .ref o] (ws ++ [(o, outE cL f)]) 0 (fun w => ∃ (ws' : va_W) (g : Nat → Int64), P ws' ∧ g 0 = v.toInt64 ∧ w = ws' ++ [(o, outE cL g)]) mc ms := by
  refine gL_of (by decide +kernel) (Nat.le_of_ble_eq_true rfl) ?_
  intro pP eE sS mI aA bB mE cC A F htab hxK hxZ hKL hnC hG ls hl
  have hx := F.1
  have hb := F.2.1
  have hl : lv_has ls 9 [(0, .ref a), (1, .int x1), (2, .int x2), (3, .int x3), (4, .int x4), (5, .int x5), (6, .int x6), (7, .ref o)] := hl
  refine lv_aload hx hb dL_addStation_0 (lv_at hl 7 rfl) ?_
  refine lv_iconst (v := 0) hx hb dL_addStation_2 rfl ?_
  refine lv_aload_n hx hb dL_addStation_3 rfl (lv_at hl 0 rfl) ?_
  refine lv_iload_n hx hb dL_addStation_4 rfl (lv_at hl 1 rfl) ?_
  refine lv_iload_n hx hb dL_addStation_5 rfl (lv_at hl 2 rfl) ?_
  refine lv_iload_n hx hb dL_addStation_6 rfl (lv_at hl 3 rfl) ?_
  refine lv_iload hx hb dL_addStation_7 (lv_at hl 4 rfl) ?_
  refine lv_iload hx hb dL_addStation_9 (lv_at hl 5 rfl) ?_
  refine lv_iload hx hb dL_addStation_11 (lv_at hl 6 rfl) ?_
  refine ge_callV F hG (ci := 6) (k := 0) (As := [.int x1, .int x2, .int x3, .int x4, .int x5, .int x6]) (rest := [.int 0, .ref o]) hM kY_X6_addStation kV_X6_addStation h0 rfl rfl w2_45 rfl hrm ⟨Nat.le_refl _, Nat.le_refl _⟩ rfl (Nat.le_of_ble_eq_true rfl) hl.1 ⟨Nat.le_of_eq (Nat.zero_add _), Nat.le_of_eq (Nat.zero_add _)⟩ dL_addStation_13 rfl (fun H locs ws2 hP hG => ?_)
  rw [Nat.zero_add mc, Nat.zero_add ms]
  refine lv_i2l (v := v.toInt64) hx hb dL_addStation_16 rfl ?_
  refine gl_last F hKL hG dL_addStation_17 (fun H locs g hg hG => ?_)
  refine lv_goto (tgt := 29) hx hb dL_addStation_18 (by decide) ?_
  refine lv_iconst (v := 0) hx hb dL_addStation_29 rfl ?_
  exact ge_iret F hG rfl rfl ⟨ws2, g, hP, hg, rfl⟩ dL_addStation_30
set_option maxRecDepth 100000 in
set_option maxHeartbeats 4000000 in
theorem l_addStation_IA {Z : gZ} {cL : ClassId} {l : Launch} {a o : Nat} {f : Nat → Int64} {ws : va_W} {fs : List Value} {rm : Room} (h0 : ws[0]? = some (a, .inr (6, fs))) (x1 x2 x3 x4 x5 x6 : Int32) (hrm : rm.cells = 1 ∧ rm.slots = 6) (hM : gX Z l yX6_addStation cX6_addStation 7 (some .int) rm (.ref a :: [.int x1, .int x2, .int x3, .int x4, .int x5, .int x6]) ws xIA 1 6) : gL Z cL l yL_addStation cL_addStation 9 [(0, 18, 21, 13), (0, 18, 25, 15)] ({ frames := rm.frames + 1, cells := 1, slots := 6, locals := 8 + (7 + 11) + rm.locals } : Room) [.ref a, .int x1, .int x2, .int x3, .int x4, .int x5, .int x6, .ref o] (ws ++ [(o, outE cL f)]) 1 (fun w => w = ws ++ [(o, outE cL f)]) 1 6 := by
  refine gL_of (by decide +kernel) (Nat.le_of_ble_eq_true rfl) ?_
  intro pP eE sS mI aA bB mE cC A F htab hxK hxZ hKL hnC hG ls hl
  have hx := F.1
  have hb := F.2.1
  have hl : lv_has ls 9 [(0, .ref a), (1, .int x1), (2, .int x2), (3, .int x3), (4, .int x4), (5, .int x5), (6, .int x6), (7, .ref o)] := hl
  refine lv_aload hx hb dL_addStation_0 (lv_at hl 7 rfl) ?_
  refine lv_iconst (v := 0) hx hb dL_addStation_2 rfl ?_
  refine lv_aload_n hx hb dL_addStation_3 rfl (lv_at hl 0 rfl) ?_
  refine lv_iload_n hx hb dL_addStation_4 rfl (lv_at hl 1 rfl) ?_
  refine lv_iload_n hx hb dL_addStation_5 rfl (lv_at hl 2 rfl) ?_
  refine lv_iload_n hx hb dL_addStation_6 rfl (lv_at hl 3 rfl) ?_
  refine lv_iload hx hb dL_addStation_7 (lv_at hl 4 rfl) ?_
  refine lv_iload hx hb dL_addStation_9 (lv_at hl 5 rfl) ?_
  refine lv_iload hx hb dL_addStation_11 (lv_at hl 6 rfl) ?_
  refine gl_callX F hxK hxZ hG (ci := 6) (k := 0) (As := [.int x1, .int x2, .int x3, .int x4, .int x5, .int x6]) (rest := [.int 0, .ref o]) hM kY_X6_addStation kV_X6_addStation h0 rfl rfl w2_45 rfl hrm ⟨Nat.le_refl _, Nat.le_refl _⟩ rfl (Nat.le_of_ble_eq_true rfl) hl.1 ⟨Nat.le_refl _, Nat.le_refl _⟩ dL_addStation_13 (fun H locs q ce hG hq hv hcl => ?_)
  refine vx_catch (own := RL) (name := xIA) F.2.2.2.1 [] { startPc := 0, endPc := 18, handlerPc := 21, catchType := 13 } [{ startPc := 0, endPc := 18, handlerPc := 25, catchType := 15 }] (by rw [htab]; rfl) (fun z hz => absurd hz List.not_mem_nil) (by decide) (by decide) (F.2.2.2.2.1 _ w2_43) (cast_at F.2.2.2.2.2.1 wn_55) hq hv hcl ?_
  refine lv_astore (lv' := [(8, .ref q), (0, .ref a), (1, .int x1), (2, .int x2), (3, .int x3), (4, .int x4), (5, .int x5), (6, .int x6), (7, .ref o)]) hx hb dL_addStation_21 hl (by decide) rfl (fun ls hl => ?_)
  refine lv_iconst (v := 1) hx hb dL_addStation_23 rfl ?_
  exact ge_iret F hG rfl rfl rfl dL_addStation_24
set_option maxRecDepth 100000 in
set_option maxHeartbeats 4000000 in
theorem l_addStation_IS {Z : gZ} {cL : ClassId} {l : Launch} {a o : Nat} {f : Nat → Int64} {ws : va_W} {fs : List Value} {rm : Room} (h0 : ws[0]? = some (a, .inr (6, fs))) (x1 x2 x3 x4 x5 x6 : Int32) (hrm : rm.cells = 1 ∧ rm.slots = 6) (hM : gX Z l yX6_addStation cX6_addStation 7 (some .int) rm (.ref a :: [.int x1, .int x2, .int x3, .int x4, .int x5, .int x6]) ws xIS 1 6) : gL Z cL l yL_addStation cL_addStation 9 [(0, 18, 21, 13), (0, 18, 25, 15)] ({ frames := rm.frames + 1, cells := 1, slots := 6, locals := 8 + (7 + 11) + rm.locals } : Room) [.ref a, .int x1, .int x2, .int x3, .int x4, .int x5, .int x6, .ref o] (ws ++ [(o, outE cL f)]) 2 (fun w => w = ws ++ [(o, outE cL f)]) 1 6 := by
  refine gL_of (by decide +kernel) (Nat.le_of_ble_eq_true rfl) ?_
  intro pP eE sS mI aA bB mE cC A F htab hxK hxZ hKL hnC hG ls hl
  have hx := F.1
  have hb := F.2.1
  have hl : lv_has ls 9 [(0, .ref a), (1, .int x1), (2, .int x2), (3, .int x3), (4, .int x4), (5, .int x5), (6, .int x6), (7, .ref o)] := hl
  refine lv_aload hx hb dL_addStation_0 (lv_at hl 7 rfl) ?_
  refine lv_iconst (v := 0) hx hb dL_addStation_2 rfl ?_
  refine lv_aload_n hx hb dL_addStation_3 rfl (lv_at hl 0 rfl) ?_
  refine lv_iload_n hx hb dL_addStation_4 rfl (lv_at hl 1 rfl) ?_
  refine lv_iload_n hx hb dL_addStation_5 rfl (lv_at hl 2 rfl) ?_
  refine lv_iload_n hx hb dL_addStation_6 rfl (lv_at hl 3 rfl) ?_
  refine lv_iload hx hb dL_addStation_7 (lv_at hl 4 rfl) ?_
  refine lv_iload hx hb dL_addStation_9 (lv_at hl 5 rfl) ?_
  refine lv_iload hx hb dL_addStation_11 (lv_at hl 6 rfl) ?_
  refine gl_callX F hxK hxZ hG (ci := 6) (k := 0) (As := [.int x1, .int x2, .int x3, .int x4, .int x5, .int x6]) (rest := [.int 0, .ref o]) hM kY_X6_addStation kV_X6_addStation h0 rfl rfl w2_45 rfl hrm ⟨Nat.le_refl _, Nat.le_refl _⟩ rfl (Nat.le_of_ble_eq_true rfl) hl.1 ⟨Nat.le_refl _, Nat.le_refl _⟩ dL_addStation_13 (fun H locs q ce hG hq hv hcl => ?_)
  refine vx_catch (own := RL) (name := xIS) F.2.2.2.1 [{ startPc := 0, endPc := 18, handlerPc := 21, catchType := 13 }] { startPc := 0, endPc := 18, handlerPc := 25, catchType := 15 } [] (by rw [htab]; rfl) (fun z hz => by
    cases List.mem_singleton.mp hz
    exact Or.inr ⟨by decide, xIA, F.2.2.2.2.1 _ w2_43, hnC.1⟩) (by decide) (by decide) (F.2.2.2.2.1 _ w2_44) (cast_at F.2.2.2.2.2.1 wn_56) hq hv hcl ?_
  refine lv_astore (lv' := [(8, .ref q), (0, .ref a), (1, .int x1), (2, .int x2), (3, .int x3), (4, .int x4), (5, .int x5), (6, .int x6), (7, .ref o)]) hx hb dL_addStation_25 hl (by decide) rfl (fun ls hl => ?_)
  refine lv_iconst (v := 2) hx hb dL_addStation_27 rfl ?_
  exact ge_iret F hG rfl rfl rfl dL_addStation_28
theorem wc_join : Cond.codeWith yL_join cL_join 5 (some .int) [(0, 10, 13, 13), (0, 10, 17, 15)] ∈ gW := gW_2 (List.mem_of_getElem? (i := 174) rfl) rfl
set_option maxRecDepth 100000 in
set_option maxHeartbeats 4000000 in
theorem l_join {Z : gZ} {cL : ClassId} {l : Launch} {a o mc ms : Nat} {f : Nat → Int64} {ws : va_W} {fs : List Value} {rm : Room} {v : Int32} {P : va_W → Prop} (h0 : ws[0]? = some (a, .inr (6, fs))) (x1 x2 : Int32) (hrm : rm.cells = mc ∧ rm.slots = ms) (hM : gE Z l yX6_join cX6_join 3 (some .int) rm (.ref a :: [.int x1, .int x2]) ws (some (.int v)) P mc ms) : gL Z cL l yL_join cL_join 5 [(0, 10, 13, 13), (0, 10, 17, 15)] ({ frames := rm.frames + 1, cells := mc, slots := ms, locals := 8 + (3 + 11) + rm.locals } : Room) [.ref a, .int x1, .int x2, .ref o] (ws ++ [(o, outE cL f)]) 0 (fun w => ∃ (ws' : va_W) (g : Nat → Int64), P ws' ∧ g 0 = v.toInt64 ∧ w = ws' ++ [(o, outE cL g)]) mc ms := by
  refine gL_of (by decide +kernel) (Nat.le_of_ble_eq_true rfl) ?_
  intro pP eE sS mI aA bB mE cC A F htab hxK hxZ hKL hnC hG ls hl
  have hx := F.1
  have hb := F.2.1
  have hl : lv_has ls 5 [(0, .ref a), (1, .int x1), (2, .int x2), (3, .ref o)] := hl
  refine lv_aload_n hx hb dL_join_0 rfl (lv_at hl 3 rfl) ?_
  refine lv_iconst (v := 0) hx hb dL_join_1 rfl ?_
  refine lv_aload_n hx hb dL_join_2 rfl (lv_at hl 0 rfl) ?_
  refine lv_iload_n hx hb dL_join_3 rfl (lv_at hl 1 rfl) ?_
  refine lv_iload_n hx hb dL_join_4 rfl (lv_at hl 2 rfl) ?_
  refine ge_callV F hG (ci := 6) (k := 0) (As := [.int x1, .int x2]) (rest := [.int 0, .ref o]) hM kY_X6_join kV_X6_join h0 rfl rfl w2_175 rfl hrm ⟨Nat.le_refl _, Nat.le_refl _⟩ rfl (Nat.le_of_ble_eq_true rfl) hl.1 ⟨Nat.le_of_eq (Nat.zero_add _), Nat.le_of_eq (Nat.zero_add _)⟩ dL_join_5 rfl (fun H locs ws2 hP hG => ?_)
  rw [Nat.zero_add mc, Nat.zero_add ms]
  refine lv_i2l (v := v.toInt64) hx hb dL_join_8 rfl ?_
  refine gl_last F hKL hG dL_join_9 (fun H locs g hg hG => ?_)
  refine lv_goto (tgt := 21) hx hb dL_join_10 (by decide) ?_
  refine lv_iconst (v := 0) hx hb dL_join_21 rfl ?_
  exact ge_iret F hG rfl rfl ⟨ws2, g, hP, hg, rfl⟩ dL_join_22
set_option maxRecDepth 100000 in
set_option maxHeartbeats 4000000 in
theorem l_join_IA {Z : gZ} {cL : ClassId} {l : Launch} {a o : Nat} {f : Nat → Int64} {ws : va_W} {fs : List Value} {rm : Room} (h0 : ws[0]? = some (a, .inr (6, fs))) (x1 x2 : Int32) (hrm : rm.cells = 1 ∧ rm.slots = 6) (hM : gX Z l yX6_join cX6_join 3 (some .int) rm (.ref a :: [.int x1, .int x2]) ws xIA 1 6) : gL Z cL l yL_join cL_join 5 [(0, 10, 13, 13), (0, 10, 17, 15)] ({ frames := rm.frames + 1, cells := 1, slots := 6, locals := 8 + (3 + 11) + rm.locals } : Room) [.ref a, .int x1, .int x2, .ref o] (ws ++ [(o, outE cL f)]) 1 (fun w => w = ws ++ [(o, outE cL f)]) 1 6 := by
  refine gL_of (by decide +kernel) (Nat.le_of_ble_eq_true rfl) ?_
  intro pP eE sS mI aA bB mE cC A F htab hxK hxZ hKL hnC hG ls hl
  have hx := F.1
  have hb := F.2.1
  have hl : lv_has ls 5 [(0, .ref a), (1, .int x1), (2, .int x2), (3, .ref o)] := hl
  refine lv_aload_n hx hb dL_join_0 rfl (lv_at hl 3 rfl) ?_
  refine lv_iconst (v := 0) hx hb dL_join_1 rfl ?_
  refine lv_aload_n hx hb dL_join_2 rfl (lv_at hl 0 rfl) ?_
  refine lv_iload_n hx hb dL_join_3 rfl (lv_at hl 1 rfl) ?_
  refine lv_iload_n hx hb dL_join_4 rfl (lv_at hl 2 rfl) ?_
  refine gl_callX F hxK hxZ hG (ci := 6) (k := 0) (As := [.int x1, .int x2]) (rest := [.int 0, .ref o]) hM kY_X6_join kV_X6_join h0 rfl rfl w2_175 rfl hrm ⟨Nat.le_refl _, Nat.le_refl _⟩ rfl (Nat.le_of_ble_eq_true rfl) hl.1 ⟨Nat.le_refl _, Nat.le_refl _⟩ dL_join_5 (fun H locs q ce hG hq hv hcl => ?_)
  refine vx_catch (own := RL) (name := xIA) F.2.2.2.1 [] { startPc := 0, endPc := 10, handlerPc := 13, catchType := 13 } [{ startPc := 0, endPc := 10, handlerPc := 17, catchType := 15 }] (by rw [htab]; rfl) (fun z hz => absurd hz List.not_mem_nil) (by decide) (by decide) (F.2.2.2.2.1 _ w2_43) (cast_at F.2.2.2.2.2.1 wn_55) hq hv hcl ?_
  refine lv_astore (lv' := [(4, .ref q), (0, .ref a), (1, .int x1), (2, .int x2), (3, .ref o)]) hx hb dL_join_13 hl (by decide) rfl (fun ls hl => ?_)
  refine lv_iconst (v := 1) hx hb dL_join_15 rfl ?_
  exact ge_iret F hG rfl rfl rfl dL_join_16
set_option maxRecDepth 100000 in
set_option maxHeartbeats 4000000 in
theorem l_join_IS {Z : gZ} {cL : ClassId} {l : Launch} {a o : Nat} {f : Nat → Int64} {ws : va_W} {fs : List Value} {rm : Room} (h0 : ws[0]? = some (a, .inr (6, fs))) (x1 x2 : Int32) (hrm : rm.cells = 1 ∧ rm.slots = 6) (hM : gX Z l yX6_join cX6_join 3 (some .int) rm (.ref a :: [.int x1, .int x2]) ws xIS 1 6) : gL Z cL l yL_join cL_join 5 [(0, 10, 13, 13), (0, 10, 17, 15)] ({ frames := rm.frames + 1, cells := 1, slots := 6, locals := 8 + (3 + 11) + rm.locals } : Room) [.ref a, .int x1, .int x2, .ref o] (ws ++ [(o, outE cL f)]) 2 (fun w => w = ws ++ [(o, outE cL f)]) 1 6 := by
  refine gL_of (by decide +kernel) (Nat.le_of_ble_eq_true rfl) ?_
  intro pP eE sS mI aA bB mE cC A F htab hxK hxZ hKL hnC hG ls hl
  have hx := F.1
  have hb := F.2.1
  have hl : lv_has ls 5 [(0, .ref a), (1, .int x1), (2, .int x2), (3, .ref o)] := hl
  refine lv_aload_n hx hb dL_join_0 rfl (lv_at hl 3 rfl) ?_
  refine lv_iconst (v := 0) hx hb dL_join_1 rfl ?_
  refine lv_aload_n hx hb dL_join_2 rfl (lv_at hl 0 rfl) ?_
  refine lv_iload_n hx hb dL_join_3 rfl (lv_at hl 1 rfl) ?_
  refine lv_iload_n hx hb dL_join_4 rfl (lv_at hl 2 rfl) ?_
  refine gl_callX F hxK hxZ hG (ci := 6) (k := 0) (As := [.int x1, .int x2]) (rest := [.int 0, .ref o]) hM kY_X6_join kV_X6_join h0 rfl rfl w2_175 rfl hrm ⟨Nat.le_refl _, Nat.le_refl _⟩ rfl (Nat.le_of_ble_eq_true rfl) hl.1 ⟨Nat.le_refl _, Nat.le_refl _⟩ dL_join_5 (fun H locs q ce hG hq hv hcl => ?_)
  refine vx_catch (own := RL) (name := xIS) F.2.2.2.1 [{ startPc := 0, endPc := 10, handlerPc := 13, catchType := 13 }] { startPc := 0, endPc := 10, handlerPc := 17, catchType := 15 } [] (by rw [htab]; rfl) (fun z hz => by
    cases List.mem_singleton.mp hz
    exact Or.inr ⟨by decide, xIA, F.2.2.2.2.1 _ w2_43, hnC.1⟩) (by decide) (by decide) (F.2.2.2.2.1 _ w2_44) (cast_at F.2.2.2.2.2.1 wn_56) hq hv hcl ?_
  refine lv_astore (lv' := [(4, .ref q), (0, .ref a), (1, .int x1), (2, .int x2), (3, .ref o)]) hx hb dL_join_17 hl (by decide) rfl (fun ls hl => ?_)
  refine lv_iconst (v := 2) hx hb dL_join_19 rfl ?_
  exact ge_iret F hG rfl rfl rfl dL_join_20
theorem wc_turn : Cond.codeWith yL_turn cL_turn 5 (some .int) [(0, 10, 13, 24), (0, 10, 17, 13)] ∈ gW := gW_2 (List.mem_of_getElem? (i := 200) rfl) rfl
set_option maxRecDepth 100000 in
set_option maxHeartbeats 4000000 in
theorem l_turn {Z : gZ} {cL : ClassId} {l : Launch} {a o mc ms : Nat} {f : Nat → Int64} {ws : va_W} {fs : List Value} {rm : Room} {v : Int32} {P : va_W → Prop} (h0 : ws[0]? = some (a, .inr (6, fs))) (x1 x2 : Int32) (hrm : rm.cells = mc ∧ rm.slots = ms) (hM : gE Z l yX6_turn cX6_turn 5 (some .int) rm (.ref a :: [.int x1, .int x2]) ws (some (.int v)) P mc ms) : gL Z cL l yL_turn cL_turn 5 [(0, 10, 13, 24), (0, 10, 17, 13)] ({ frames := rm.frames + 1, cells := mc, slots := ms, locals := 8 + (5 + 11) + rm.locals } : Room) [.ref a, .int x1, .int x2, .ref o] (ws ++ [(o, outE cL f)]) 0 (fun w => ∃ (ws' : va_W) (g : Nat → Int64), P ws' ∧ g 0 = v.toInt64 ∧ w = ws' ++ [(o, outE cL g)]) mc ms := by
  refine gL_of (by decide +kernel) (Nat.le_of_ble_eq_true rfl) ?_
  intro pP eE sS mI aA bB mE cC A F htab hxK hxZ hKL hnC hG ls hl
  have hx := F.1
  have hb := F.2.1
  have hl : lv_has ls 5 [(0, .ref a), (1, .int x1), (2, .int x2), (3, .ref o)] := hl
  refine lv_aload_n hx hb dL_turn_0 rfl (lv_at hl 3 rfl) ?_
  refine lv_iconst (v := 0) hx hb dL_turn_1 rfl ?_
  refine lv_aload_n hx hb dL_turn_2 rfl (lv_at hl 0 rfl) ?_
  refine lv_iload_n hx hb dL_turn_3 rfl (lv_at hl 1 rfl) ?_
  refine lv_iload_n hx hb dL_turn_4 rfl (lv_at hl 2 rfl) ?_
  refine ge_callV F hG (ci := 6) (k := 0) (As := [.int x1, .int x2]) (rest := [.int 0, .ref o]) hM kY_X6_turn kV_X6_turn h0 rfl rfl w2_202 rfl hrm ⟨Nat.le_refl _, Nat.le_refl _⟩ rfl (Nat.le_of_ble_eq_true rfl) hl.1 ⟨Nat.le_of_eq (Nat.zero_add _), Nat.le_of_eq (Nat.zero_add _)⟩ dL_turn_5 rfl (fun H locs ws2 hP hG => ?_)
  rw [Nat.zero_add mc, Nat.zero_add ms]
  refine lv_i2l (v := v.toInt64) hx hb dL_turn_8 rfl ?_
  refine gl_last F hKL hG dL_turn_9 (fun H locs g hg hG => ?_)
  refine lv_goto (tgt := 21) hx hb dL_turn_10 (by decide) ?_
  refine lv_iconst (v := 0) hx hb dL_turn_21 rfl ?_
  exact ge_iret F hG rfl rfl ⟨ws2, g, hP, hg, rfl⟩ dL_turn_22
set_option maxRecDepth 100000 in
set_option maxHeartbeats 4000000 in
theorem l_turn_IO {Z : gZ} {cL : ClassId} {l : Launch} {a o : Nat} {f : Nat → Int64} {ws : va_W} {fs : List Value} {rm : Room} (h0 : ws[0]? = some (a, .inr (6, fs))) (x1 x2 : Int32) (hrm : rm.cells = 1 ∧ rm.slots = 6) (hM : gX Z l yX6_turn cX6_turn 5 (some .int) rm (.ref a :: [.int x1, .int x2]) ws xIO 1 6) : gL Z cL l yL_turn cL_turn 5 [(0, 10, 13, 24), (0, 10, 17, 13)] ({ frames := rm.frames + 1, cells := 1, slots := 6, locals := 8 + (5 + 11) + rm.locals } : Room) [.ref a, .int x1, .int x2, .ref o] (ws ++ [(o, outE cL f)]) 1 (fun w => w = ws ++ [(o, outE cL f)]) 1 6 := by
  refine gL_of (by decide +kernel) (Nat.le_of_ble_eq_true rfl) ?_
  intro pP eE sS mI aA bB mE cC A F htab hxK hxZ hKL hnC hG ls hl
  have hx := F.1
  have hb := F.2.1
  have hl : lv_has ls 5 [(0, .ref a), (1, .int x1), (2, .int x2), (3, .ref o)] := hl
  refine lv_aload_n hx hb dL_turn_0 rfl (lv_at hl 3 rfl) ?_
  refine lv_iconst (v := 0) hx hb dL_turn_1 rfl ?_
  refine lv_aload_n hx hb dL_turn_2 rfl (lv_at hl 0 rfl) ?_
  refine lv_iload_n hx hb dL_turn_3 rfl (lv_at hl 1 rfl) ?_
  refine lv_iload_n hx hb dL_turn_4 rfl (lv_at hl 2 rfl) ?_
  refine gl_callX F hxK hxZ hG (ci := 6) (k := 0) (As := [.int x1, .int x2]) (rest := [.int 0, .ref o]) hM kY_X6_turn kV_X6_turn h0 rfl rfl w2_202 rfl hrm ⟨Nat.le_refl _, Nat.le_refl _⟩ rfl (Nat.le_of_ble_eq_true rfl) hl.1 ⟨Nat.le_refl _, Nat.le_refl _⟩ dL_turn_5 (fun H locs q ce hG hq hv hcl => ?_)
  refine vx_catch (own := RL) (name := xIO) F.2.2.2.1 [] { startPc := 0, endPc := 10, handlerPc := 13, catchType := 24 } [{ startPc := 0, endPc := 10, handlerPc := 17, catchType := 13 }] (by rw [htab]; rfl) (fun z hz => absurd hz List.not_mem_nil) (by decide) (by decide) (F.2.2.2.2.1 _ w2_201) (cast_at F.2.2.2.2.2.1 wn_57) hq hv hcl ?_
  refine lv_astore (lv' := [(4, .ref q), (0, .ref a), (1, .int x1), (2, .int x2), (3, .ref o)]) hx hb dL_turn_13 hl (by decide) rfl (fun ls hl => ?_)
  refine lv_iconst (v := 1) hx hb dL_turn_15 rfl ?_
  exact ge_iret F hG rfl rfl rfl dL_turn_16
set_option maxRecDepth 100000 in
set_option maxHeartbeats 4000000 in
theorem l_turn_IA {Z : gZ} {cL : ClassId} {l : Launch} {a o : Nat} {f : Nat → Int64} {ws : va_W} {fs : List Value} {rm : Room} (h0 : ws[0]? = some (a, .inr (6, fs))) (x1 x2 : Int32) (hrm : rm.cells = 1 ∧ rm.slots = 6) (hM : gX Z l yX6_turn cX6_turn 5 (some .int) rm (.ref a :: [.int x1, .int x2]) ws xIA 1 6) : gL Z cL l yL_turn cL_turn 5 [(0, 10, 13, 24), (0, 10, 17, 13)] ({ frames := rm.frames + 1, cells := 1, slots := 6, locals := 8 + (5 + 11) + rm.locals } : Room) [.ref a, .int x1, .int x2, .ref o] (ws ++ [(o, outE cL f)]) 2 (fun w => w = ws ++ [(o, outE cL f)]) 1 6 := by
  refine gL_of (by decide +kernel) (Nat.le_of_ble_eq_true rfl) ?_
  intro pP eE sS mI aA bB mE cC A F htab hxK hxZ hKL hnC hG ls hl
  have hx := F.1
  have hb := F.2.1
  have hl : lv_has ls 5 [(0, .ref a), (1, .int x1), (2, .int x2), (3, .ref o)] := hl
  refine lv_aload_n hx hb dL_turn_0 rfl (lv_at hl 3 rfl) ?_
  refine lv_iconst (v := 0) hx hb dL_turn_1 rfl ?_
  refine lv_aload_n hx hb dL_turn_2 rfl (lv_at hl 0 rfl) ?_
  refine lv_iload_n hx hb dL_turn_3 rfl (lv_at hl 1 rfl) ?_
  refine lv_iload_n hx hb dL_turn_4 rfl (lv_at hl 2 rfl) ?_
  refine gl_callX F hxK hxZ hG (ci := 6) (k := 0) (As := [.int x1, .int x2]) (rest := [.int 0, .ref o]) hM kY_X6_turn kV_X6_turn h0 rfl rfl w2_202 rfl hrm ⟨Nat.le_refl _, Nat.le_refl _⟩ rfl (Nat.le_of_ble_eq_true rfl) hl.1 ⟨Nat.le_refl _, Nat.le_refl _⟩ dL_turn_5 (fun H locs q ce hG hq hv hcl => ?_)
  refine vx_catch (own := RL) (name := xIA) F.2.2.2.1 [{ startPc := 0, endPc := 10, handlerPc := 13, catchType := 24 }] { startPc := 0, endPc := 10, handlerPc := 17, catchType := 13 } [] (by rw [htab]; rfl) (fun z hz => by
    cases List.mem_singleton.mp hz
    exact Or.inr ⟨by decide, xIO, F.2.2.2.2.1 _ w2_201, hnC.2.1⟩) (by decide) (by decide) (F.2.2.2.2.1 _ w2_43) (cast_at F.2.2.2.2.2.1 wn_55) hq hv hcl ?_
  refine lv_astore (lv' := [(4, .ref q), (0, .ref a), (1, .int x1), (2, .int x2), (3, .ref o)]) hx hb dL_turn_17 hl (by decide) rfl (fun ls hl => ?_)
  refine lv_iconst (v := 2) hx hb dL_turn_19 rfl ?_
  exact ge_iret F hG rfl rfl rfl dL_turn_20
theorem wc_wind : Cond.codeWith yL_wind cL_wind 5 (some .int) [(0, 10, 13, 24), (0, 10, 17, 13)] ∈ gW := gW_2 (List.mem_of_getElem? (i := 235) rfl) rfl
set_option maxRecDepth 100000 in
set_option maxHeartbeats 4000000 in
theorem l_wind {Z : gZ} {cL : ClassId} {l : Launch} {a o mc ms : Nat} {f : Nat → Int64} {ws : va_W} {fs : List Value} {rm : Room} {v : Int32} {P : va_W → Prop} (h0 : ws[0]? = some (a, .inr (6, fs))) (x1 x2 : Int32) (hrm : rm.cells = mc ∧ rm.slots = ms) (hM : gE Z l yX6_wind cX6_wind 5 (some .int) rm (.ref a :: [.int x1, .int x2]) ws (some (.int v)) P mc ms) : gL Z cL l yL_wind cL_wind 5 [(0, 10, 13, 24), (0, 10, 17, 13)] ({ frames := rm.frames + 1, cells := mc, slots := ms, locals := 8 + (5 + 11) + rm.locals } : Room) [.ref a, .int x1, .int x2, .ref o] (ws ++ [(o, outE cL f)]) 0 (fun w => ∃ (ws' : va_W) (g : Nat → Int64), P ws' ∧ g 0 = v.toInt64 ∧ w = ws' ++ [(o, outE cL g)]) mc ms := by
  refine gL_of (by decide +kernel) (Nat.le_of_ble_eq_true rfl) ?_
  intro pP eE sS mI aA bB mE cC A F htab hxK hxZ hKL hnC hG ls hl
  have hx := F.1
  have hb := F.2.1
  have hl : lv_has ls 5 [(0, .ref a), (1, .int x1), (2, .int x2), (3, .ref o)] := hl
  refine lv_aload_n hx hb dL_wind_0 rfl (lv_at hl 3 rfl) ?_
  refine lv_iconst (v := 0) hx hb dL_wind_1 rfl ?_
  refine lv_aload_n hx hb dL_wind_2 rfl (lv_at hl 0 rfl) ?_
  refine lv_iload_n hx hb dL_wind_3 rfl (lv_at hl 1 rfl) ?_
  refine lv_iload_n hx hb dL_wind_4 rfl (lv_at hl 2 rfl) ?_
  refine ge_callV F hG (ci := 6) (k := 0) (As := [.int x1, .int x2]) (rest := [.int 0, .ref o]) hM kY_X6_wind kV_X6_wind h0 rfl rfl w2_236 rfl hrm ⟨Nat.le_refl _, Nat.le_refl _⟩ rfl (Nat.le_of_ble_eq_true rfl) hl.1 ⟨Nat.le_of_eq (Nat.zero_add _), Nat.le_of_eq (Nat.zero_add _)⟩ dL_wind_5 rfl (fun H locs ws2 hP hG => ?_)
  rw [Nat.zero_add mc, Nat.zero_add ms]
  refine lv_i2l (v := v.toInt64) hx hb dL_wind_8 rfl ?_
  refine gl_last F hKL hG dL_wind_9 (fun H locs g hg hG => ?_)
  refine lv_goto (tgt := 21) hx hb dL_wind_10 (by decide) ?_
  refine lv_iconst (v := 0) hx hb dL_wind_21 rfl ?_
  exact ge_iret F hG rfl rfl ⟨ws2, g, hP, hg, rfl⟩ dL_wind_22
set_option maxRecDepth 100000 in
set_option maxHeartbeats 4000000 in
theorem l_wind_IO {Z : gZ} {cL : ClassId} {l : Launch} {a o : Nat} {f : Nat → Int64} {ws : va_W} {fs : List Value} {rm : Room} (h0 : ws[0]? = some (a, .inr (6, fs))) (x1 x2 : Int32) (hrm : rm.cells = 1 ∧ rm.slots = 6) (hM : gX Z l yX6_wind cX6_wind 5 (some .int) rm (.ref a :: [.int x1, .int x2]) ws xIO 1 6) : gL Z cL l yL_wind cL_wind 5 [(0, 10, 13, 24), (0, 10, 17, 13)] ({ frames := rm.frames + 1, cells := 1, slots := 6, locals := 8 + (5 + 11) + rm.locals } : Room) [.ref a, .int x1, .int x2, .ref o] (ws ++ [(o, outE cL f)]) 1 (fun w => w = ws ++ [(o, outE cL f)]) 1 6 := by
  refine gL_of (by decide +kernel) (Nat.le_of_ble_eq_true rfl) ?_
  intro pP eE sS mI aA bB mE cC A F htab hxK hxZ hKL hnC hG ls hl
  have hx := F.1
  have hb := F.2.1
  have hl : lv_has ls 5 [(0, .ref a), (1, .int x1), (2, .int x2), (3, .ref o)] := hl
  refine lv_aload_n hx hb dL_wind_0 rfl (lv_at hl 3 rfl) ?_
  refine lv_iconst (v := 0) hx hb dL_wind_1 rfl ?_
  refine lv_aload_n hx hb dL_wind_2 rfl (lv_at hl 0 rfl) ?_
  refine lv_iload_n hx hb dL_wind_3 rfl (lv_at hl 1 rfl) ?_
  refine lv_iload_n hx hb dL_wind_4 rfl (lv_at hl 2 rfl) ?_
  refine gl_callX F hxK hxZ hG (ci := 6) (k := 0) (As := [.int x1, .int x2]) (rest := [.int 0, .ref o]) hM kY_X6_wind kV_X6_wind h0 rfl rfl w2_236 rfl hrm ⟨Nat.le_refl _, Nat.le_refl _⟩ rfl (Nat.le_of_ble_eq_true rfl) hl.1 ⟨Nat.le_refl _, Nat.le_refl _⟩ dL_wind_5 (fun H locs q ce hG hq hv hcl => ?_)
  refine vx_catch (own := RL) (name := xIO) F.2.2.2.1 [] { startPc := 0, endPc := 10, handlerPc := 13, catchType := 24 } [{ startPc := 0, endPc := 10, handlerPc := 17, catchType := 13 }] (by rw [htab]; rfl) (fun z hz => absurd hz List.not_mem_nil) (by decide) (by decide) (F.2.2.2.2.1 _ w2_201) (cast_at F.2.2.2.2.2.1 wn_57) hq hv hcl ?_
  refine lv_astore (lv' := [(4, .ref q), (0, .ref a), (1, .int x1), (2, .int x2), (3, .ref o)]) hx hb dL_wind_13 hl (by decide) rfl (fun ls hl => ?_)
  refine lv_iconst (v := 1) hx hb dL_wind_15 rfl ?_
  exact ge_iret F hG rfl rfl rfl dL_wind_16
set_option maxRecDepth 100000 in
set_option maxHeartbeats 4000000 in
theorem l_wind_IA {Z : gZ} {cL : ClassId} {l : Launch} {a o : Nat} {f : Nat → Int64} {ws : va_W} {fs : List Value} {rm : Room} (h0 : ws[0]? = some (a, .inr (6, fs))) (x1 x2 : Int32) (hrm : rm.cells = 1 ∧ rm.slots = 6) (hM : gX Z l yX6_wind cX6_wind 5 (some .int) rm (.ref a :: [.int x1, .int x2]) ws xIA 1 6) : gL Z cL l yL_wind cL_wind 5 [(0, 10, 13, 24), (0, 10, 17, 13)] ({ frames := rm.frames + 1, cells := 1, slots := 6, locals := 8 + (5 + 11) + rm.locals } : Room) [.ref a, .int x1, .int x2, .ref o] (ws ++ [(o, outE cL f)]) 2 (fun w => w = ws ++ [(o, outE cL f)]) 1 6 := by
  refine gL_of (by decide +kernel) (Nat.le_of_ble_eq_true rfl) ?_
  intro pP eE sS mI aA bB mE cC A F htab hxK hxZ hKL hnC hG ls hl
  have hx := F.1
  have hb := F.2.1
  have hl : lv_has ls 5 [(0, .ref a), (1, .int x1), (2, .int x2), (3, .ref o)] := hl
  refine lv_aload_n hx hb dL_wind_0 rfl (lv_at hl 3 rfl) ?_
  refine lv_iconst (v := 0) hx hb dL_wind_1 rfl ?_
  refine lv_aload_n hx hb dL_wind_2 rfl (lv_at hl 0 rfl) ?_
  refine lv_iload_n hx hb dL_wind_3 rfl (lv_at hl 1 rfl) ?_
  refine lv_iload_n hx hb dL_wind_4 rfl (lv_at hl 2 rfl) ?_
  refine gl_callX F hxK hxZ hG (ci := 6) (k := 0) (As := [.int x1, .int x2]) (rest := [.int 0, .ref o]) hM kY_X6_wind kV_X6_wind h0 rfl rfl w2_236 rfl hrm ⟨Nat.le_refl _, Nat.le_refl _⟩ rfl (Nat.le_of_ble_eq_true rfl) hl.1 ⟨Nat.le_refl _, Nat.le_refl _⟩ dL_wind_5 (fun H locs q ce hG hq hv hcl => ?_)
  refine vx_catch (own := RL) (name := xIA) F.2.2.2.1 [{ startPc := 0, endPc := 10, handlerPc := 13, catchType := 24 }] { startPc := 0, endPc := 10, handlerPc := 17, catchType := 13 } [] (by rw [htab]; rfl) (fun z hz => by
    cases List.mem_singleton.mp hz
    exact Or.inr ⟨by decide, xIO, F.2.2.2.2.1 _ w2_201, hnC.2.1⟩) (by decide) (by decide) (F.2.2.2.2.1 _ w2_43) (cast_at F.2.2.2.2.2.1 wn_55) hq hv hcl ?_
  refine lv_astore (lv' := [(4, .ref q), (0, .ref a), (1, .int x1), (2, .int x2), (3, .ref o)]) hx hb dL_wind_17 hl (by decide) rfl (fun ls hl => ?_)
  refine lv_iconst (v := 2) hx hb dL_wind_19 rfl ?_
  exact ge_iret F hG rfl rfl rfl dL_wind_20
theorem wc_listen : Cond.codeWith yL_listen cL_listen 5 (some .int) [(0, 17, 20, 24)] ∈ gW := gW_3 (List.mem_of_getElem? (i := 3) rfl) rfl
set_option maxRecDepth 100000 in
set_option maxHeartbeats 4000000 in
theorem l_listen {Z : gZ} {cL : ClassId} {l : Launch} {a o mc ms : Nat} {f : Nat → Int64} {ws : va_W} {fs : List Value} {rm : Room} {v : Int32} {P : va_W → Prop} (h0 : ws[0]? = some (a, .inr (6, fs))) (x1 x2 : Int32) (hrm : rm.cells = mc ∧ rm.slots = ms) (hM : gE Z l yX6_listen cX6_listen 5 (some .boolean) rm (.ref a :: [.int x1, .int x2]) ws (some (.int v)) P mc ms) : gL Z cL l yL_listen cL_listen 5 [(0, 17, 20, 24)] ({ frames := rm.frames + 1, cells := mc, slots := ms, locals := 8 + (5 + 11) + rm.locals } : Room) [.ref a, .int x1, .int x2, .ref o] (ws ++ [(o, outE cL f)]) 0 (fun w => ∃ (ws' : va_W) (g : Nat → Int64), P ws' ∧ g 0 = (if v = 0 then 0 else 1) ∧ w = ws' ++ [(o, outE cL g)]) mc ms := by
  refine gL_of (by decide +kernel) (Nat.le_of_ble_eq_true rfl) ?_
  intro pP eE sS mI aA bB mE cC A F htab hxK hxZ hKL hnC hG ls hl
  have hx := F.1
  have hb := F.2.1
  have hl : lv_has ls 5 [(0, .ref a), (1, .int x1), (2, .int x2), (3, .ref o)] := hl
  refine lv_aload_n hx hb dL_listen_0 rfl (lv_at hl 3 rfl) ?_
  refine lv_iconst (v := 0) hx hb dL_listen_1 rfl ?_
  refine lv_aload_n hx hb dL_listen_2 rfl (lv_at hl 0 rfl) ?_
  refine lv_iload_n hx hb dL_listen_3 rfl (lv_at hl 1 rfl) ?_
  refine lv_iload_n hx hb dL_listen_4 rfl (lv_at hl 2 rfl) ?_
  refine ge_callV F hG (ci := 6) (k := 0) (As := [.int x1, .int x2]) (rest := [.int 0, .ref o]) hM kY_X6_listen kV_X6_listen h0 rfl rfl w3_4 rfl hrm ⟨Nat.le_refl _, Nat.le_refl _⟩ rfl (Nat.le_of_ble_eq_true rfl) hl.1 ⟨Nat.le_of_eq (Nat.zero_add _), Nat.le_of_eq (Nat.zero_add _)⟩ dL_listen_5 rfl (fun H locs ws2 hP hG => ?_)
  rw [Nat.zero_add mc, Nat.zero_add ms]
  refine lv_if_eq (tgt := 15) hx hb dL_listen_8 (by decide) (fun hc => ?_) (fun hc => ?_)
  · rw [if_pos hc]
    refine lv_lconst (v := 0) hx hb dL_listen_15 rfl ?_
    refine gl_last F hKL hG dL_listen_16 (fun H locs g hg hG => ?_)
    refine lv_goto (tgt := 24) hx hb dL_listen_17 (by decide) ?_
    refine lv_iconst (v := 0) hx hb dL_listen_24 rfl ?_
    exact ge_iret F hG rfl rfl ⟨ws2, g, hP, hg, rfl⟩ dL_listen_25
  · rw [if_neg hc]
    refine lv_lconst (v := 1) hx hb dL_listen_11 rfl ?_
    refine lv_goto (tgt := 16) hx hb dL_listen_12 (by decide) ?_
    refine gl_last F hKL hG dL_listen_16 (fun H locs g hg hG => ?_)
    refine lv_goto (tgt := 24) hx hb dL_listen_17 (by decide) ?_
    refine lv_iconst (v := 0) hx hb dL_listen_24 rfl ?_
    exact ge_iret F hG rfl rfl ⟨ws2, g, hP, hg, rfl⟩ dL_listen_25
set_option maxRecDepth 100000 in
set_option maxHeartbeats 4000000 in
theorem l_listen_IO {Z : gZ} {cL : ClassId} {l : Launch} {a o : Nat} {f : Nat → Int64} {ws : va_W} {fs : List Value} {rm : Room} (h0 : ws[0]? = some (a, .inr (6, fs))) (x1 x2 : Int32) (hrm : rm.cells = 1 ∧ rm.slots = 6) (hM : gX Z l yX6_listen cX6_listen 5 (some .boolean) rm (.ref a :: [.int x1, .int x2]) ws xIO 1 6) : gL Z cL l yL_listen cL_listen 5 [(0, 17, 20, 24)] ({ frames := rm.frames + 1, cells := 1, slots := 6, locals := 8 + (5 + 11) + rm.locals } : Room) [.ref a, .int x1, .int x2, .ref o] (ws ++ [(o, outE cL f)]) 1 (fun w => w = ws ++ [(o, outE cL f)]) 1 6 := by
  refine gL_of (by decide +kernel) (Nat.le_of_ble_eq_true rfl) ?_
  intro pP eE sS mI aA bB mE cC A F htab hxK hxZ hKL hnC hG ls hl
  have hx := F.1
  have hb := F.2.1
  have hl : lv_has ls 5 [(0, .ref a), (1, .int x1), (2, .int x2), (3, .ref o)] := hl
  refine lv_aload_n hx hb dL_listen_0 rfl (lv_at hl 3 rfl) ?_
  refine lv_iconst (v := 0) hx hb dL_listen_1 rfl ?_
  refine lv_aload_n hx hb dL_listen_2 rfl (lv_at hl 0 rfl) ?_
  refine lv_iload_n hx hb dL_listen_3 rfl (lv_at hl 1 rfl) ?_
  refine lv_iload_n hx hb dL_listen_4 rfl (lv_at hl 2 rfl) ?_
  refine gl_callX F hxK hxZ hG (ci := 6) (k := 0) (As := [.int x1, .int x2]) (rest := [.int 0, .ref o]) hM kY_X6_listen kV_X6_listen h0 rfl rfl w3_4 rfl hrm ⟨Nat.le_refl _, Nat.le_refl _⟩ rfl (Nat.le_of_ble_eq_true rfl) hl.1 ⟨Nat.le_refl _, Nat.le_refl _⟩ dL_listen_5 (fun H locs q ce hG hq hv hcl => ?_)
  refine vx_catch (own := RL) (name := xIO) F.2.2.2.1 [] { startPc := 0, endPc := 17, handlerPc := 20, catchType := 24 } [] (by rw [htab]; rfl) (fun z hz => absurd hz List.not_mem_nil) (by decide) (by decide) (F.2.2.2.2.1 _ w2_201) (cast_at F.2.2.2.2.2.1 wn_57) hq hv hcl ?_
  refine lv_astore (lv' := [(4, .ref q), (0, .ref a), (1, .int x1), (2, .int x2), (3, .ref o)]) hx hb dL_listen_20 hl (by decide) rfl (fun ls hl => ?_)
  refine lv_iconst (v := 1) hx hb dL_listen_22 rfl ?_
  exact ge_iret F hG rfl rfl rfl dL_listen_23
theorem wc_renew : Cond.codeWith yL_renew cL_renew 4 (some .int) [(0, 9, 12, 24)] ∈ gW := gW_3 (List.mem_of_getElem? (i := 10) rfl) rfl
set_option maxRecDepth 100000 in
set_option maxHeartbeats 4000000 in
theorem l_renew {Z : gZ} {cL : ClassId} {l : Launch} {a o mc ms : Nat} {f : Nat → Int64} {ws : va_W} {fs : List Value} {rm : Room} {v : Int32} {P : va_W → Prop} (h0 : ws[0]? = some (a, .inr (6, fs))) (x1 : Int32) (hrm : rm.cells = mc ∧ rm.slots = ms) (hM : gE Z l yX6_renew cX6_renew 4 (some .int) rm (.ref a :: [.int x1]) ws (some (.int v)) P mc ms) : gL Z cL l yL_renew cL_renew 4 [(0, 9, 12, 24)] ({ frames := rm.frames + 1, cells := mc, slots := ms, locals := 8 + (4 + 11) + rm.locals } : Room) [.ref a, .int x1, .ref o] (ws ++ [(o, outE cL f)]) 0 (fun w => ∃ (ws' : va_W) (g : Nat → Int64), P ws' ∧ g 0 = v.toInt64 ∧ w = ws' ++ [(o, outE cL g)]) mc ms := by
  refine gL_of (by decide +kernel) (Nat.le_of_ble_eq_true rfl) ?_
  intro pP eE sS mI aA bB mE cC A F htab hxK hxZ hKL hnC hG ls hl
  have hx := F.1
  have hb := F.2.1
  have hl : lv_has ls 4 [(0, .ref a), (1, .int x1), (2, .ref o)] := hl
  refine lv_aload_n hx hb dL_renew_0 rfl (lv_at hl 2 rfl) ?_
  refine lv_iconst (v := 0) hx hb dL_renew_1 rfl ?_
  refine lv_aload_n hx hb dL_renew_2 rfl (lv_at hl 0 rfl) ?_
  refine lv_iload_n hx hb dL_renew_3 rfl (lv_at hl 1 rfl) ?_
  refine ge_callV F hG (ci := 6) (k := 0) (As := [.int x1]) (rest := [.int 0, .ref o]) hM kY_X6_renew kV_X6_renew h0 rfl rfl w3_11 rfl hrm ⟨Nat.le_refl _, Nat.le_refl _⟩ rfl (Nat.le_of_ble_eq_true rfl) hl.1 ⟨Nat.le_of_eq (Nat.zero_add _), Nat.le_of_eq (Nat.zero_add _)⟩ dL_renew_4 rfl (fun H locs ws2 hP hG => ?_)
  rw [Nat.zero_add mc, Nat.zero_add ms]
  refine lv_i2l (v := v.toInt64) hx hb dL_renew_7 rfl ?_
  refine gl_last F hKL hG dL_renew_8 (fun H locs g hg hG => ?_)
  refine lv_goto (tgt := 15) hx hb dL_renew_9 (by decide) ?_
  refine lv_iconst (v := 0) hx hb dL_renew_15 rfl ?_
  exact ge_iret F hG rfl rfl ⟨ws2, g, hP, hg, rfl⟩ dL_renew_16
set_option maxRecDepth 100000 in
set_option maxHeartbeats 4000000 in
theorem l_renew_IO {Z : gZ} {cL : ClassId} {l : Launch} {a o : Nat} {f : Nat → Int64} {ws : va_W} {fs : List Value} {rm : Room} (h0 : ws[0]? = some (a, .inr (6, fs))) (x1 : Int32) (hrm : rm.cells = 1 ∧ rm.slots = 6) (hM : gX Z l yX6_renew cX6_renew 4 (some .int) rm (.ref a :: [.int x1]) ws xIO 1 6) : gL Z cL l yL_renew cL_renew 4 [(0, 9, 12, 24)] ({ frames := rm.frames + 1, cells := 1, slots := 6, locals := 8 + (4 + 11) + rm.locals } : Room) [.ref a, .int x1, .ref o] (ws ++ [(o, outE cL f)]) 1 (fun w => w = ws ++ [(o, outE cL f)]) 1 6 := by
  refine gL_of (by decide +kernel) (Nat.le_of_ble_eq_true rfl) ?_
  intro pP eE sS mI aA bB mE cC A F htab hxK hxZ hKL hnC hG ls hl
  have hx := F.1
  have hb := F.2.1
  have hl : lv_has ls 4 [(0, .ref a), (1, .int x1), (2, .ref o)] := hl
  refine lv_aload_n hx hb dL_renew_0 rfl (lv_at hl 2 rfl) ?_
  refine lv_iconst (v := 0) hx hb dL_renew_1 rfl ?_
  refine lv_aload_n hx hb dL_renew_2 rfl (lv_at hl 0 rfl) ?_
  refine lv_iload_n hx hb dL_renew_3 rfl (lv_at hl 1 rfl) ?_
  refine gl_callX F hxK hxZ hG (ci := 6) (k := 0) (As := [.int x1]) (rest := [.int 0, .ref o]) hM kY_X6_renew kV_X6_renew h0 rfl rfl w3_11 rfl hrm ⟨Nat.le_refl _, Nat.le_refl _⟩ rfl (Nat.le_of_ble_eq_true rfl) hl.1 ⟨Nat.le_refl _, Nat.le_refl _⟩ dL_renew_4 (fun H locs q ce hG hq hv hcl => ?_)
  refine vx_catch (own := RL) (name := xIO) F.2.2.2.1 [] { startPc := 0, endPc := 9, handlerPc := 12, catchType := 24 } [] (by rw [htab]; rfl) (fun z hz => absurd hz List.not_mem_nil) (by decide) (by decide) (F.2.2.2.2.1 _ w2_201) (cast_at F.2.2.2.2.2.1 wn_57) hq hv hcl ?_
  refine lv_astore_n (lv' := [(3, .ref q), (0, .ref a), (1, .int x1), (2, .ref o)]) hx hb dL_renew_12 rfl hl (by decide) rfl (fun ls hl => ?_)
  refine lv_iconst (v := 1) hx hb dL_renew_13 rfl ?_
  exact ge_iret F hG rfl rfl rfl dL_renew_14
theorem wc_station : Cond.codeWith yL_station cL_station 5 (some .int) [(0, 10, 13, 24)] ∈ gW := gW_3 (List.mem_of_getElem? (i := 17) rfl) rfl
set_option maxRecDepth 100000 in
set_option maxHeartbeats 4000000 in
theorem l_station {Z : gZ} {cL : ClassId} {l : Launch} {a o mc ms : Nat} {f : Nat → Int64} {ws : va_W} {fs : List Value} {rm : Room} {v : Int32} {P : va_W → Prop} (h0 : ws[0]? = some (a, .inr (6, fs))) (x1 x2 : Int32) (hrm : rm.cells = mc ∧ rm.slots = ms) (hM : gE Z l yX6_station cX6_station 3 (some .int) rm (.ref a :: [.int x1, .int x2]) ws (some (.int v)) P mc ms) : gL Z cL l yL_station cL_station 5 [(0, 10, 13, 24)] ({ frames := rm.frames + 1, cells := mc, slots := ms, locals := 8 + (3 + 11) + rm.locals } : Room) [.ref a, .int x1, .int x2, .ref o] (ws ++ [(o, outE cL f)]) 0 (fun w => ∃ (ws' : va_W) (g : Nat → Int64), P ws' ∧ g 0 = v.toInt64 ∧ w = ws' ++ [(o, outE cL g)]) mc ms := by
  refine gL_of (by decide +kernel) (Nat.le_of_ble_eq_true rfl) ?_
  intro pP eE sS mI aA bB mE cC A F htab hxK hxZ hKL hnC hG ls hl
  have hx := F.1
  have hb := F.2.1
  have hl : lv_has ls 5 [(0, .ref a), (1, .int x1), (2, .int x2), (3, .ref o)] := hl
  refine lv_aload_n hx hb dL_station_0 rfl (lv_at hl 3 rfl) ?_
  refine lv_iconst (v := 0) hx hb dL_station_1 rfl ?_
  refine lv_aload_n hx hb dL_station_2 rfl (lv_at hl 0 rfl) ?_
  refine lv_iload_n hx hb dL_station_3 rfl (lv_at hl 1 rfl) ?_
  refine lv_iload_n hx hb dL_station_4 rfl (lv_at hl 2 rfl) ?_
  refine ge_callV F hG (ci := 6) (k := 0) (As := [.int x1, .int x2]) (rest := [.int 0, .ref o]) hM kY_X6_station kV_X6_station h0 rfl rfl w3_18 rfl hrm ⟨Nat.le_refl _, Nat.le_refl _⟩ rfl (Nat.le_of_ble_eq_true rfl) hl.1 ⟨Nat.le_of_eq (Nat.zero_add _), Nat.le_of_eq (Nat.zero_add _)⟩ dL_station_5 rfl (fun H locs ws2 hP hG => ?_)
  rw [Nat.zero_add mc, Nat.zero_add ms]
  refine lv_i2l (v := v.toInt64) hx hb dL_station_8 rfl ?_
  refine gl_last F hKL hG dL_station_9 (fun H locs g hg hG => ?_)
  refine lv_goto (tgt := 17) hx hb dL_station_10 (by decide) ?_
  refine lv_iconst (v := 0) hx hb dL_station_17 rfl ?_
  exact ge_iret F hG rfl rfl ⟨ws2, g, hP, hg, rfl⟩ dL_station_18
set_option maxRecDepth 100000 in
set_option maxHeartbeats 4000000 in
theorem l_station_IO {Z : gZ} {cL : ClassId} {l : Launch} {a o : Nat} {f : Nat → Int64} {ws : va_W} {fs : List Value} {rm : Room} (h0 : ws[0]? = some (a, .inr (6, fs))) (x1 x2 : Int32) (hrm : rm.cells = 1 ∧ rm.slots = 6) (hM : gX Z l yX6_station cX6_station 3 (some .int) rm (.ref a :: [.int x1, .int x2]) ws xIO 1 6) : gL Z cL l yL_station cL_station 5 [(0, 10, 13, 24)] ({ frames := rm.frames + 1, cells := 1, slots := 6, locals := 8 + (3 + 11) + rm.locals } : Room) [.ref a, .int x1, .int x2, .ref o] (ws ++ [(o, outE cL f)]) 1 (fun w => w = ws ++ [(o, outE cL f)]) 1 6 := by
  refine gL_of (by decide +kernel) (Nat.le_of_ble_eq_true rfl) ?_
  intro pP eE sS mI aA bB mE cC A F htab hxK hxZ hKL hnC hG ls hl
  have hx := F.1
  have hb := F.2.1
  have hl : lv_has ls 5 [(0, .ref a), (1, .int x1), (2, .int x2), (3, .ref o)] := hl
  refine lv_aload_n hx hb dL_station_0 rfl (lv_at hl 3 rfl) ?_
  refine lv_iconst (v := 0) hx hb dL_station_1 rfl ?_
  refine lv_aload_n hx hb dL_station_2 rfl (lv_at hl 0 rfl) ?_
  refine lv_iload_n hx hb dL_station_3 rfl (lv_at hl 1 rfl) ?_
  refine lv_iload_n hx hb dL_station_4 rfl (lv_at hl 2 rfl) ?_
  refine gl_callX F hxK hxZ hG (ci := 6) (k := 0) (As := [.int x1, .int x2]) (rest := [.int 0, .ref o]) hM kY_X6_station kV_X6_station h0 rfl rfl w3_18 rfl hrm ⟨Nat.le_refl _, Nat.le_refl _⟩ rfl (Nat.le_of_ble_eq_true rfl) hl.1 ⟨Nat.le_refl _, Nat.le_refl _⟩ dL_station_5 (fun H locs q ce hG hq hv hcl => ?_)
  refine vx_catch (own := RL) (name := xIO) F.2.2.2.1 [] { startPc := 0, endPc := 10, handlerPc := 13, catchType := 24 } [] (by rw [htab]; rfl) (fun z hz => absurd hz List.not_mem_nil) (by decide) (by decide) (F.2.2.2.2.1 _ w2_201) (cast_at F.2.2.2.2.2.1 wn_57) hq hv hcl ?_
  refine lv_astore (lv' := [(4, .ref q), (0, .ref a), (1, .int x1), (2, .int x2), (3, .ref o)]) hx hb dL_station_13 hl (by decide) rfl (fun ls hl => ?_)
  refine lv_iconst (v := 1) hx hb dL_station_15 rfl ?_
  exact ge_iret F hG rfl rfl rfl dL_station_16
theorem wc_member : Cond.codeWith yL_member cL_member 5 (some .int) [(0, 10, 13, 24)] ∈ gW := gW_3 (List.mem_of_getElem? (i := 35) rfl) rfl
set_option maxRecDepth 100000 in
set_option maxHeartbeats 4000000 in
theorem l_member {Z : gZ} {cL : ClassId} {l : Launch} {a o mc ms : Nat} {f : Nat → Int64} {ws : va_W} {fs : List Value} {rm : Room} {v : Int32} {P : va_W → Prop} (h0 : ws[0]? = some (a, .inr (6, fs))) (x1 x2 : Int32) (hrm : rm.cells = mc ∧ rm.slots = ms) (hM : gE Z l yX6_member cX6_member 3 (some .int) rm (.ref a :: [.int x1, .int x2]) ws (some (.int v)) P mc ms) : gL Z cL l yL_member cL_member 5 [(0, 10, 13, 24)] ({ frames := rm.frames + 1, cells := mc, slots := ms, locals := 8 + (3 + 11) + rm.locals } : Room) [.ref a, .int x1, .int x2, .ref o] (ws ++ [(o, outE cL f)]) 0 (fun w => ∃ (ws' : va_W) (g : Nat → Int64), P ws' ∧ g 0 = v.toInt64 ∧ w = ws' ++ [(o, outE cL g)]) mc ms := by
  refine gL_of (by decide +kernel) (Nat.le_of_ble_eq_true rfl) ?_
  intro pP eE sS mI aA bB mE cC A F htab hxK hxZ hKL hnC hG ls hl
  have hx := F.1
  have hb := F.2.1
  have hl : lv_has ls 5 [(0, .ref a), (1, .int x1), (2, .int x2), (3, .ref o)] := hl
  refine lv_aload_n hx hb dL_member_0 rfl (lv_at hl 3 rfl) ?_
  refine lv_iconst (v := 0) hx hb dL_member_1 rfl ?_
  refine lv_aload_n hx hb dL_member_2 rfl (lv_at hl 0 rfl) ?_
  refine lv_iload_n hx hb dL_member_3 rfl (lv_at hl 1 rfl) ?_
  refine lv_iload_n hx hb dL_member_4 rfl (lv_at hl 2 rfl) ?_
  refine ge_callV F hG (ci := 6) (k := 0) (As := [.int x1, .int x2]) (rest := [.int 0, .ref o]) hM kY_X6_member kV_X6_member h0 rfl rfl w3_36 rfl hrm ⟨Nat.le_refl _, Nat.le_refl _⟩ rfl (Nat.le_of_ble_eq_true rfl) hl.1 ⟨Nat.le_of_eq (Nat.zero_add _), Nat.le_of_eq (Nat.zero_add _)⟩ dL_member_5 rfl (fun H locs ws2 hP hG => ?_)
  rw [Nat.zero_add mc, Nat.zero_add ms]
  refine lv_i2l (v := v.toInt64) hx hb dL_member_8 rfl ?_
  refine gl_last F hKL hG dL_member_9 (fun H locs g hg hG => ?_)
  refine lv_goto (tgt := 17) hx hb dL_member_10 (by decide) ?_
  refine lv_iconst (v := 0) hx hb dL_member_17 rfl ?_
  exact ge_iret F hG rfl rfl ⟨ws2, g, hP, hg, rfl⟩ dL_member_18
set_option maxRecDepth 100000 in
set_option maxHeartbeats 4000000 in
theorem l_member_IO {Z : gZ} {cL : ClassId} {l : Launch} {a o : Nat} {f : Nat → Int64} {ws : va_W} {fs : List Value} {rm : Room} (h0 : ws[0]? = some (a, .inr (6, fs))) (x1 x2 : Int32) (hrm : rm.cells = 1 ∧ rm.slots = 6) (hM : gX Z l yX6_member cX6_member 3 (some .int) rm (.ref a :: [.int x1, .int x2]) ws xIO 1 6) : gL Z cL l yL_member cL_member 5 [(0, 10, 13, 24)] ({ frames := rm.frames + 1, cells := 1, slots := 6, locals := 8 + (3 + 11) + rm.locals } : Room) [.ref a, .int x1, .int x2, .ref o] (ws ++ [(o, outE cL f)]) 1 (fun w => w = ws ++ [(o, outE cL f)]) 1 6 := by
  refine gL_of (by decide +kernel) (Nat.le_of_ble_eq_true rfl) ?_
  intro pP eE sS mI aA bB mE cC A F htab hxK hxZ hKL hnC hG ls hl
  have hx := F.1
  have hb := F.2.1
  have hl : lv_has ls 5 [(0, .ref a), (1, .int x1), (2, .int x2), (3, .ref o)] := hl
  refine lv_aload_n hx hb dL_member_0 rfl (lv_at hl 3 rfl) ?_
  refine lv_iconst (v := 0) hx hb dL_member_1 rfl ?_
  refine lv_aload_n hx hb dL_member_2 rfl (lv_at hl 0 rfl) ?_
  refine lv_iload_n hx hb dL_member_3 rfl (lv_at hl 1 rfl) ?_
  refine lv_iload_n hx hb dL_member_4 rfl (lv_at hl 2 rfl) ?_
  refine gl_callX F hxK hxZ hG (ci := 6) (k := 0) (As := [.int x1, .int x2]) (rest := [.int 0, .ref o]) hM kY_X6_member kV_X6_member h0 rfl rfl w3_36 rfl hrm ⟨Nat.le_refl _, Nat.le_refl _⟩ rfl (Nat.le_of_ble_eq_true rfl) hl.1 ⟨Nat.le_refl _, Nat.le_refl _⟩ dL_member_5 (fun H locs q ce hG hq hv hcl => ?_)
  refine vx_catch (own := RL) (name := xIO) F.2.2.2.1 [] { startPc := 0, endPc := 10, handlerPc := 13, catchType := 24 } [] (by rw [htab]; rfl) (fun z hz => absurd hz List.not_mem_nil) (by decide) (by decide) (F.2.2.2.2.1 _ w2_201) (cast_at F.2.2.2.2.2.1 wn_57) hq hv hcl ?_
  refine lv_astore (lv' := [(4, .ref q), (0, .ref a), (1, .int x1), (2, .int x2), (3, .ref o)]) hx hb dL_member_13 hl (by decide) rfl (fun ls hl => ?_)
  refine lv_iconst (v := 1) hx hb dL_member_15 rfl ?_
  exact ge_iret F hG rfl rfl rfl dL_member_16
theorem wc_strength : Cond.codeWith yL_strength cL_strength 5 (some .int) [(0, 10, 13, 24)] ∈ gW := gW_3 (List.mem_of_getElem? (i := 43) rfl) rfl
set_option maxRecDepth 100000 in
set_option maxHeartbeats 4000000 in
theorem l_strength {Z : gZ} {cL : ClassId} {l : Launch} {a o mc ms : Nat} {f : Nat → Int64} {ws : va_W} {fs : List Value} {rm : Room} {v : Int32} {P : va_W → Prop} (h0 : ws[0]? = some (a, .inr (6, fs))) (x1 x2 : Int32) (hrm : rm.cells = mc ∧ rm.slots = ms) (hM : gE Z l yX6_strength cX6_strength 5 (some .int) rm (.ref a :: [.int x1, .int x2]) ws (some (.int v)) P mc ms) : gL Z cL l yL_strength cL_strength 5 [(0, 10, 13, 24)] ({ frames := rm.frames + 1, cells := mc, slots := ms, locals := 8 + (5 + 11) + rm.locals } : Room) [.ref a, .int x1, .int x2, .ref o] (ws ++ [(o, outE cL f)]) 0 (fun w => ∃ (ws' : va_W) (g : Nat → Int64), P ws' ∧ g 0 = v.toInt64 ∧ w = ws' ++ [(o, outE cL g)]) mc ms := by
  refine gL_of (by decide +kernel) (Nat.le_of_ble_eq_true rfl) ?_
  intro pP eE sS mI aA bB mE cC A F htab hxK hxZ hKL hnC hG ls hl
  have hx := F.1
  have hb := F.2.1
  have hl : lv_has ls 5 [(0, .ref a), (1, .int x1), (2, .int x2), (3, .ref o)] := hl
  refine lv_aload_n hx hb dL_strength_0 rfl (lv_at hl 3 rfl) ?_
  refine lv_iconst (v := 0) hx hb dL_strength_1 rfl ?_
  refine lv_aload_n hx hb dL_strength_2 rfl (lv_at hl 0 rfl) ?_
  refine lv_iload_n hx hb dL_strength_3 rfl (lv_at hl 1 rfl) ?_
  refine lv_iload_n hx hb dL_strength_4 rfl (lv_at hl 2 rfl) ?_
  refine ge_callV F hG (ci := 6) (k := 0) (As := [.int x1, .int x2]) (rest := [.int 0, .ref o]) hM kY_X6_strength kV_X6_strength h0 rfl rfl w3_44 rfl hrm ⟨Nat.le_refl _, Nat.le_refl _⟩ rfl (Nat.le_of_ble_eq_true rfl) hl.1 ⟨Nat.le_of_eq (Nat.zero_add _), Nat.le_of_eq (Nat.zero_add _)⟩ dL_strength_5 rfl (fun H locs ws2 hP hG => ?_)
  rw [Nat.zero_add mc, Nat.zero_add ms]
  refine lv_i2l (v := v.toInt64) hx hb dL_strength_8 rfl ?_
  refine gl_last F hKL hG dL_strength_9 (fun H locs g hg hG => ?_)
  refine lv_goto (tgt := 17) hx hb dL_strength_10 (by decide) ?_
  refine lv_iconst (v := 0) hx hb dL_strength_17 rfl ?_
  exact ge_iret F hG rfl rfl ⟨ws2, g, hP, hg, rfl⟩ dL_strength_18
set_option maxRecDepth 100000 in
set_option maxHeartbeats 4000000 in
theorem l_strength_IO {Z : gZ} {cL : ClassId} {l : Launch} {a o : Nat} {f : Nat → Int64} {ws : va_W} {fs : List Value} {rm : Room} (h0 : ws[0]? = some (a, .inr (6, fs))) (x1 x2 : Int32) (hrm : rm.cells = 1 ∧ rm.slots = 6) (hM : gX Z l yX6_strength cX6_strength 5 (some .int) rm (.ref a :: [.int x1, .int x2]) ws xIO 1 6) : gL Z cL l yL_strength cL_strength 5 [(0, 10, 13, 24)] ({ frames := rm.frames + 1, cells := 1, slots := 6, locals := 8 + (5 + 11) + rm.locals } : Room) [.ref a, .int x1, .int x2, .ref o] (ws ++ [(o, outE cL f)]) 1 (fun w => w = ws ++ [(o, outE cL f)]) 1 6 := by
  refine gL_of (by decide +kernel) (Nat.le_of_ble_eq_true rfl) ?_
  intro pP eE sS mI aA bB mE cC A F htab hxK hxZ hKL hnC hG ls hl
  have hx := F.1
  have hb := F.2.1
  have hl : lv_has ls 5 [(0, .ref a), (1, .int x1), (2, .int x2), (3, .ref o)] := hl
  refine lv_aload_n hx hb dL_strength_0 rfl (lv_at hl 3 rfl) ?_
  refine lv_iconst (v := 0) hx hb dL_strength_1 rfl ?_
  refine lv_aload_n hx hb dL_strength_2 rfl (lv_at hl 0 rfl) ?_
  refine lv_iload_n hx hb dL_strength_3 rfl (lv_at hl 1 rfl) ?_
  refine lv_iload_n hx hb dL_strength_4 rfl (lv_at hl 2 rfl) ?_
  refine gl_callX F hxK hxZ hG (ci := 6) (k := 0) (As := [.int x1, .int x2]) (rest := [.int 0, .ref o]) hM kY_X6_strength kV_X6_strength h0 rfl rfl w3_44 rfl hrm ⟨Nat.le_refl _, Nat.le_refl _⟩ rfl (Nat.le_of_ble_eq_true rfl) hl.1 ⟨Nat.le_refl _, Nat.le_refl _⟩ dL_strength_5 (fun H locs q ce hG hq hv hcl => ?_)
  refine vx_catch (own := RL) (name := xIO) F.2.2.2.1 [] { startPc := 0, endPc := 10, handlerPc := 13, catchType := 24 } [] (by rw [htab]; rfl) (fun z hz => absurd hz List.not_mem_nil) (by decide) (by decide) (F.2.2.2.2.1 _ w2_201) (cast_at F.2.2.2.2.2.1 wn_57) hq hv hcl ?_
  refine lv_astore (lv' := [(4, .ref q), (0, .ref a), (1, .int x1), (2, .int x2), (3, .ref o)]) hx hb dL_strength_13 hl (by decide) rfl (fun ls hl => ?_)
  refine lv_iconst (v := 1) hx hb dL_strength_15 rfl ?_
  exact ge_iret F hG rfl rfl rfl dL_strength_16
theorem wc_hears : Cond.codeWith yL_hears cL_hears 4 (some .int) [(0, 9, 12, 24)] ∈ gW := gW_3 (List.mem_of_getElem? (i := 59) rfl) rfl
set_option maxRecDepth 100000 in
set_option maxHeartbeats 4000000 in
theorem l_hears {Z : gZ} {cL : ClassId} {l : Launch} {a o mc ms : Nat} {f : Nat → Int64} {ws : va_W} {fs : List Value} {rm : Room} {v : Int32} {P : va_W → Prop} (h0 : ws[0]? = some (a, .inr (6, fs))) (x1 : Int32) (hrm : rm.cells = mc ∧ rm.slots = ms) (hM : gE Z l yX6_hears cX6_hears 2 (some .int) rm (.ref a :: [.int x1]) ws (some (.int v)) P mc ms) : gL Z cL l yL_hears cL_hears 4 [(0, 9, 12, 24)] ({ frames := rm.frames + 1, cells := mc, slots := ms, locals := 8 + (2 + 11) + rm.locals } : Room) [.ref a, .int x1, .ref o] (ws ++ [(o, outE cL f)]) 0 (fun w => ∃ (ws' : va_W) (g : Nat → Int64), P ws' ∧ g 0 = v.toInt64 ∧ w = ws' ++ [(o, outE cL g)]) mc ms := by
  refine gL_of (by decide +kernel) (Nat.le_of_ble_eq_true rfl) ?_
  intro pP eE sS mI aA bB mE cC A F htab hxK hxZ hKL hnC hG ls hl
  have hx := F.1
  have hb := F.2.1
  have hl : lv_has ls 4 [(0, .ref a), (1, .int x1), (2, .ref o)] := hl
  refine lv_aload_n hx hb dL_hears_0 rfl (lv_at hl 2 rfl) ?_
  refine lv_iconst (v := 0) hx hb dL_hears_1 rfl ?_
  refine lv_aload_n hx hb dL_hears_2 rfl (lv_at hl 0 rfl) ?_
  refine lv_iload_n hx hb dL_hears_3 rfl (lv_at hl 1 rfl) ?_
  refine ge_callV F hG (ci := 6) (k := 0) (As := [.int x1]) (rest := [.int 0, .ref o]) hM kY_X6_hears kV_X6_hears h0 rfl rfl w3_60 rfl hrm ⟨Nat.le_refl _, Nat.le_refl _⟩ rfl (Nat.le_of_ble_eq_true rfl) hl.1 ⟨Nat.le_of_eq (Nat.zero_add _), Nat.le_of_eq (Nat.zero_add _)⟩ dL_hears_4 rfl (fun H locs ws2 hP hG => ?_)
  rw [Nat.zero_add mc, Nat.zero_add ms]
  refine lv_i2l (v := v.toInt64) hx hb dL_hears_7 rfl ?_
  refine gl_last F hKL hG dL_hears_8 (fun H locs g hg hG => ?_)
  refine lv_goto (tgt := 15) hx hb dL_hears_9 (by decide) ?_
  refine lv_iconst (v := 0) hx hb dL_hears_15 rfl ?_
  exact ge_iret F hG rfl rfl ⟨ws2, g, hP, hg, rfl⟩ dL_hears_16
set_option maxRecDepth 100000 in
set_option maxHeartbeats 4000000 in
theorem l_hears_IO {Z : gZ} {cL : ClassId} {l : Launch} {a o : Nat} {f : Nat → Int64} {ws : va_W} {fs : List Value} {rm : Room} (h0 : ws[0]? = some (a, .inr (6, fs))) (x1 : Int32) (hrm : rm.cells = 1 ∧ rm.slots = 6) (hM : gX Z l yX6_hears cX6_hears 2 (some .int) rm (.ref a :: [.int x1]) ws xIO 1 6) : gL Z cL l yL_hears cL_hears 4 [(0, 9, 12, 24)] ({ frames := rm.frames + 1, cells := 1, slots := 6, locals := 8 + (2 + 11) + rm.locals } : Room) [.ref a, .int x1, .ref o] (ws ++ [(o, outE cL f)]) 1 (fun w => w = ws ++ [(o, outE cL f)]) 1 6 := by
  refine gL_of (by decide +kernel) (Nat.le_of_ble_eq_true rfl) ?_
  intro pP eE sS mI aA bB mE cC A F htab hxK hxZ hKL hnC hG ls hl
  have hx := F.1
  have hb := F.2.1
  have hl : lv_has ls 4 [(0, .ref a), (1, .int x1), (2, .ref o)] := hl
  refine lv_aload_n hx hb dL_hears_0 rfl (lv_at hl 2 rfl) ?_
  refine lv_iconst (v := 0) hx hb dL_hears_1 rfl ?_
  refine lv_aload_n hx hb dL_hears_2 rfl (lv_at hl 0 rfl) ?_
  refine lv_iload_n hx hb dL_hears_3 rfl (lv_at hl 1 rfl) ?_
  refine gl_callX F hxK hxZ hG (ci := 6) (k := 0) (As := [.int x1]) (rest := [.int 0, .ref o]) hM kY_X6_hears kV_X6_hears h0 rfl rfl w3_60 rfl hrm ⟨Nat.le_refl _, Nat.le_refl _⟩ rfl (Nat.le_of_ble_eq_true rfl) hl.1 ⟨Nat.le_refl _, Nat.le_refl _⟩ dL_hears_4 (fun H locs q ce hG hq hv hcl => ?_)
  refine vx_catch (own := RL) (name := xIO) F.2.2.2.1 [] { startPc := 0, endPc := 9, handlerPc := 12, catchType := 24 } [] (by rw [htab]; rfl) (fun z hz => absurd hz List.not_mem_nil) (by decide) (by decide) (F.2.2.2.2.1 _ w2_201) (cast_at F.2.2.2.2.2.1 wn_57) hq hv hcl ?_
  refine lv_astore_n (lv' := [(3, .ref q), (0, .ref a), (1, .int x1), (2, .ref o)]) hx hb dL_hears_12 rfl hl (by decide) rfl (fun ls hl => ?_)
  refine lv_iconst (v := 1) hx hb dL_hears_13 rfl ?_
  exact ge_iret F hG rfl rfl rfl dL_hears_14
theorem wc_log : Cond.codeWith yL_log cL_log 6 (some .int) [(0, 12, 15, 24)] ∈ gW := gW_3 (List.mem_of_getElem? (i := 83) rfl) rfl
set_option maxRecDepth 100000 in
set_option maxHeartbeats 4000000 in
theorem l_log {Z : gZ} {cL : ClassId} {l : Launch} {a o mc ms : Nat} {f : Nat → Int64} {ws : va_W} {fs : List Value} {rm : Room} {v : Int32} {P : va_W → Prop} (h0 : ws[0]? = some (a, .inr (6, fs))) (x1 x2 x3 : Int32) (hrm : rm.cells = mc ∧ rm.slots = ms) (hM : gE Z l yX6_log cX6_log 5 (some .int) rm (.ref a :: [.int x1, .int x2, .int x3]) ws (some (.int v)) P mc ms) : gL Z cL l yL_log cL_log 6 [(0, 12, 15, 24)] ({ frames := rm.frames + 1, cells := mc, slots := ms, locals := 8 + (5 + 11) + rm.locals } : Room) [.ref a, .int x1, .int x2, .int x3, .ref o] (ws ++ [(o, outE cL f)]) 0 (fun w => ∃ (ws' : va_W) (g : Nat → Int64), P ws' ∧ g 0 = v.toInt64 ∧ w = ws' ++ [(o, outE cL g)]) mc ms := by
  refine gL_of (by decide +kernel) (Nat.le_of_ble_eq_true rfl) ?_
  intro pP eE sS mI aA bB mE cC A F htab hxK hxZ hKL hnC hG ls hl
  have hx := F.1
  have hb := F.2.1
  have hl : lv_has ls 6 [(0, .ref a), (1, .int x1), (2, .int x2), (3, .int x3), (4, .ref o)] := hl
  refine lv_aload hx hb dL_log_0 (lv_at hl 4 rfl) ?_
  refine lv_iconst (v := 0) hx hb dL_log_2 rfl ?_
  refine lv_aload_n hx hb dL_log_3 rfl (lv_at hl 0 rfl) ?_
  refine lv_iload_n hx hb dL_log_4 rfl (lv_at hl 1 rfl) ?_
  refine lv_iload_n hx hb dL_log_5 rfl (lv_at hl 2 rfl) ?_
  refine lv_iload_n hx hb dL_log_6 rfl (lv_at hl 3 rfl) ?_
  refine ge_callV F hG (ci := 6) (k := 0) (As := [.int x1, .int x2, .int x3]) (rest := [.int 0, .ref o]) hM kY_X6_log kV_X6_log h0 rfl rfl w3_84 rfl hrm ⟨Nat.le_refl _, Nat.le_refl _⟩ rfl (Nat.le_of_ble_eq_true rfl) hl.1 ⟨Nat.le_of_eq (Nat.zero_add _), Nat.le_of_eq (Nat.zero_add _)⟩ dL_log_7 rfl (fun H locs ws2 hP hG => ?_)
  rw [Nat.zero_add mc, Nat.zero_add ms]
  refine lv_i2l (v := v.toInt64) hx hb dL_log_10 rfl ?_
  refine gl_last F hKL hG dL_log_11 (fun H locs g hg hG => ?_)
  refine lv_goto (tgt := 19) hx hb dL_log_12 (by decide) ?_
  refine lv_iconst (v := 0) hx hb dL_log_19 rfl ?_
  exact ge_iret F hG rfl rfl ⟨ws2, g, hP, hg, rfl⟩ dL_log_20
set_option maxRecDepth 100000 in
set_option maxHeartbeats 4000000 in
theorem l_log_IO {Z : gZ} {cL : ClassId} {l : Launch} {a o : Nat} {f : Nat → Int64} {ws : va_W} {fs : List Value} {rm : Room} (h0 : ws[0]? = some (a, .inr (6, fs))) (x1 x2 x3 : Int32) (hrm : rm.cells = 1 ∧ rm.slots = 6) (hM : gX Z l yX6_log cX6_log 5 (some .int) rm (.ref a :: [.int x1, .int x2, .int x3]) ws xIO 1 6) : gL Z cL l yL_log cL_log 6 [(0, 12, 15, 24)] ({ frames := rm.frames + 1, cells := 1, slots := 6, locals := 8 + (5 + 11) + rm.locals } : Room) [.ref a, .int x1, .int x2, .int x3, .ref o] (ws ++ [(o, outE cL f)]) 1 (fun w => w = ws ++ [(o, outE cL f)]) 1 6 := by
  refine gL_of (by decide +kernel) (Nat.le_of_ble_eq_true rfl) ?_
  intro pP eE sS mI aA bB mE cC A F htab hxK hxZ hKL hnC hG ls hl
  have hx := F.1
  have hb := F.2.1
  have hl : lv_has ls 6 [(0, .ref a), (1, .int x1), (2, .int x2), (3, .int x3), (4, .ref o)] := hl
  refine lv_aload hx hb dL_log_0 (lv_at hl 4 rfl) ?_
  refine lv_iconst (v := 0) hx hb dL_log_2 rfl ?_
  refine lv_aload_n hx hb dL_log_3 rfl (lv_at hl 0 rfl) ?_
  refine lv_iload_n hx hb dL_log_4 rfl (lv_at hl 1 rfl) ?_
  refine lv_iload_n hx hb dL_log_5 rfl (lv_at hl 2 rfl) ?_
  refine lv_iload_n hx hb dL_log_6 rfl (lv_at hl 3 rfl) ?_
  refine gl_callX F hxK hxZ hG (ci := 6) (k := 0) (As := [.int x1, .int x2, .int x3]) (rest := [.int 0, .ref o]) hM kY_X6_log kV_X6_log h0 rfl rfl w3_84 rfl hrm ⟨Nat.le_refl _, Nat.le_refl _⟩ rfl (Nat.le_of_ble_eq_true rfl) hl.1 ⟨Nat.le_refl _, Nat.le_refl _⟩ dL_log_7 (fun H locs q ce hG hq hv hcl => ?_)
  refine vx_catch (own := RL) (name := xIO) F.2.2.2.1 [] { startPc := 0, endPc := 12, handlerPc := 15, catchType := 24 } [] (by rw [htab]; rfl) (fun z hz => absurd hz List.not_mem_nil) (by decide) (by decide) (F.2.2.2.2.1 _ w2_201) (cast_at F.2.2.2.2.2.1 wn_57) hq hv hcl ?_
  refine lv_astore (lv' := [(5, .ref q), (0, .ref a), (1, .int x1), (2, .int x2), (3, .int x3), (4, .ref o)]) hx hb dL_log_15 hl (by decide) rfl (fun ls hl => ?_)
  refine lv_iconst (v := 1) hx hb dL_log_17 rfl ?_
  exact ge_iret F hG rfl rfl rfl dL_log_18
theorem wc_write : Cond.codeWith yL_write cL_write 5 (some .int) [(0, 10, 13, 24), (0, 10, 17, 15)] ∈ gW := gW_3 (List.mem_of_getElem? (i := 95) rfl) rfl
set_option maxRecDepth 100000 in
set_option maxHeartbeats 4000000 in
theorem l_write {Z : gZ} {cL : ClassId} {l : Launch} {a o mc ms : Nat} {f : Nat → Int64} {ws : va_W} {fs : List Value} {rm : Room} {v : Int32} {P : va_W → Prop} (h0 : ws[0]? = some (a, .inr (6, fs))) (x1 x2 : Int32) (hrm : rm.cells = mc ∧ rm.slots = ms) (hM : gE Z l yX6_write cX6_write 4 (some .int) rm (.ref a :: [.int x1, .int x2]) ws (some (.int v)) P mc ms) : gL Z cL l yL_write cL_write 5 [(0, 10, 13, 24), (0, 10, 17, 15)] ({ frames := rm.frames + 1, cells := mc, slots := ms, locals := 8 + (4 + 11) + rm.locals } : Room) [.ref a, .int x1, .int x2, .ref o] (ws ++ [(o, outE cL f)]) 0 (fun w => ∃ (ws' : va_W) (g : Nat → Int64), P ws' ∧ g 0 = v.toInt64 ∧ w = ws' ++ [(o, outE cL g)]) mc ms := by
  refine gL_of (by decide +kernel) (Nat.le_of_ble_eq_true rfl) ?_
  intro pP eE sS mI aA bB mE cC A F htab hxK hxZ hKL hnC hG ls hl
  have hx := F.1
  have hb := F.2.1
  have hl : lv_has ls 5 [(0, .ref a), (1, .int x1), (2, .int x2), (3, .ref o)] := hl
  refine lv_aload_n hx hb dL_write_0 rfl (lv_at hl 3 rfl) ?_
  refine lv_iconst (v := 0) hx hb dL_write_1 rfl ?_
  refine lv_aload_n hx hb dL_write_2 rfl (lv_at hl 0 rfl) ?_
  refine lv_iload_n hx hb dL_write_3 rfl (lv_at hl 1 rfl) ?_
  refine lv_iload_n hx hb dL_write_4 rfl (lv_at hl 2 rfl) ?_
  refine ge_callV F hG (ci := 6) (k := 0) (As := [.int x1, .int x2]) (rest := [.int 0, .ref o]) hM kY_X6_write kV_X6_write h0 rfl rfl w3_96 rfl hrm ⟨Nat.le_refl _, Nat.le_refl _⟩ rfl (Nat.le_of_ble_eq_true rfl) hl.1 ⟨Nat.le_of_eq (Nat.zero_add _), Nat.le_of_eq (Nat.zero_add _)⟩ dL_write_5 rfl (fun H locs ws2 hP hG => ?_)
  rw [Nat.zero_add mc, Nat.zero_add ms]
  refine lv_i2l (v := v.toInt64) hx hb dL_write_8 rfl ?_
  refine gl_last F hKL hG dL_write_9 (fun H locs g hg hG => ?_)
  refine lv_goto (tgt := 21) hx hb dL_write_10 (by decide) ?_
  refine lv_iconst (v := 0) hx hb dL_write_21 rfl ?_
  exact ge_iret F hG rfl rfl ⟨ws2, g, hP, hg, rfl⟩ dL_write_22
set_option maxRecDepth 100000 in
set_option maxHeartbeats 4000000 in
theorem l_write_IO {Z : gZ} {cL : ClassId} {l : Launch} {a o : Nat} {f : Nat → Int64} {ws : va_W} {fs : List Value} {rm : Room} (h0 : ws[0]? = some (a, .inr (6, fs))) (x1 x2 : Int32) (hrm : rm.cells = 1 ∧ rm.slots = 6) (hM : gX Z l yX6_write cX6_write 4 (some .int) rm (.ref a :: [.int x1, .int x2]) ws xIO 1 6) : gL Z cL l yL_write cL_write 5 [(0, 10, 13, 24), (0, 10, 17, 15)] ({ frames := rm.frames + 1, cells := 1, slots := 6, locals := 8 + (4 + 11) + rm.locals } : Room) [.ref a, .int x1, .int x2, .ref o] (ws ++ [(o, outE cL f)]) 1 (fun w => w = ws ++ [(o, outE cL f)]) 1 6 := by
  refine gL_of (by decide +kernel) (Nat.le_of_ble_eq_true rfl) ?_
  intro pP eE sS mI aA bB mE cC A F htab hxK hxZ hKL hnC hG ls hl
  have hx := F.1
  have hb := F.2.1
  have hl : lv_has ls 5 [(0, .ref a), (1, .int x1), (2, .int x2), (3, .ref o)] := hl
  refine lv_aload_n hx hb dL_write_0 rfl (lv_at hl 3 rfl) ?_
  refine lv_iconst (v := 0) hx hb dL_write_1 rfl ?_
  refine lv_aload_n hx hb dL_write_2 rfl (lv_at hl 0 rfl) ?_
  refine lv_iload_n hx hb dL_write_3 rfl (lv_at hl 1 rfl) ?_
  refine lv_iload_n hx hb dL_write_4 rfl (lv_at hl 2 rfl) ?_
  refine gl_callX F hxK hxZ hG (ci := 6) (k := 0) (As := [.int x1, .int x2]) (rest := [.int 0, .ref o]) hM kY_X6_write kV_X6_write h0 rfl rfl w3_96 rfl hrm ⟨Nat.le_refl _, Nat.le_refl _⟩ rfl (Nat.le_of_ble_eq_true rfl) hl.1 ⟨Nat.le_refl _, Nat.le_refl _⟩ dL_write_5 (fun H locs q ce hG hq hv hcl => ?_)
  refine vx_catch (own := RL) (name := xIO) F.2.2.2.1 [] { startPc := 0, endPc := 10, handlerPc := 13, catchType := 24 } [{ startPc := 0, endPc := 10, handlerPc := 17, catchType := 15 }] (by rw [htab]; rfl) (fun z hz => absurd hz List.not_mem_nil) (by decide) (by decide) (F.2.2.2.2.1 _ w2_201) (cast_at F.2.2.2.2.2.1 wn_57) hq hv hcl ?_
  refine lv_astore (lv' := [(4, .ref q), (0, .ref a), (1, .int x1), (2, .int x2), (3, .ref o)]) hx hb dL_write_13 hl (by decide) rfl (fun ls hl => ?_)
  refine lv_iconst (v := 1) hx hb dL_write_15 rfl ?_
  exact ge_iret F hG rfl rfl rfl dL_write_16
set_option maxRecDepth 100000 in
set_option maxHeartbeats 4000000 in
theorem l_write_IS {Z : gZ} {cL : ClassId} {l : Launch} {a o : Nat} {f : Nat → Int64} {ws : va_W} {fs : List Value} {rm : Room} (h0 : ws[0]? = some (a, .inr (6, fs))) (x1 x2 : Int32) (hrm : rm.cells = 1 ∧ rm.slots = 6) (hM : gX Z l yX6_write cX6_write 4 (some .int) rm (.ref a :: [.int x1, .int x2]) ws xIS 1 6) : gL Z cL l yL_write cL_write 5 [(0, 10, 13, 24), (0, 10, 17, 15)] ({ frames := rm.frames + 1, cells := 1, slots := 6, locals := 8 + (4 + 11) + rm.locals } : Room) [.ref a, .int x1, .int x2, .ref o] (ws ++ [(o, outE cL f)]) 2 (fun w => w = ws ++ [(o, outE cL f)]) 1 6 := by
  refine gL_of (by decide +kernel) (Nat.le_of_ble_eq_true rfl) ?_
  intro pP eE sS mI aA bB mE cC A F htab hxK hxZ hKL hnC hG ls hl
  have hx := F.1
  have hb := F.2.1
  have hl : lv_has ls 5 [(0, .ref a), (1, .int x1), (2, .int x2), (3, .ref o)] := hl
  refine lv_aload_n hx hb dL_write_0 rfl (lv_at hl 3 rfl) ?_
  refine lv_iconst (v := 0) hx hb dL_write_1 rfl ?_
  refine lv_aload_n hx hb dL_write_2 rfl (lv_at hl 0 rfl) ?_
  refine lv_iload_n hx hb dL_write_3 rfl (lv_at hl 1 rfl) ?_
  refine lv_iload_n hx hb dL_write_4 rfl (lv_at hl 2 rfl) ?_
  refine gl_callX F hxK hxZ hG (ci := 6) (k := 0) (As := [.int x1, .int x2]) (rest := [.int 0, .ref o]) hM kY_X6_write kV_X6_write h0 rfl rfl w3_96 rfl hrm ⟨Nat.le_refl _, Nat.le_refl _⟩ rfl (Nat.le_of_ble_eq_true rfl) hl.1 ⟨Nat.le_refl _, Nat.le_refl _⟩ dL_write_5 (fun H locs q ce hG hq hv hcl => ?_)
  refine vx_catch (own := RL) (name := xIS) F.2.2.2.1 [{ startPc := 0, endPc := 10, handlerPc := 13, catchType := 24 }] { startPc := 0, endPc := 10, handlerPc := 17, catchType := 15 } [] (by rw [htab]; rfl) (fun z hz => by
    cases List.mem_singleton.mp hz
    exact Or.inr ⟨by decide, xIO, F.2.2.2.2.1 _ w2_201, hnC.2.2.1⟩) (by decide) (by decide) (F.2.2.2.2.1 _ w2_44) (cast_at F.2.2.2.2.2.1 wn_56) hq hv hcl ?_
  refine lv_astore (lv' := [(4, .ref q), (0, .ref a), (1, .int x1), (2, .int x2), (3, .ref o)]) hx hb dL_write_17 hl (by decide) rfl (fun ls hl => ?_)
  refine lv_iconst (v := 2) hx hb dL_write_19 rfl ?_
  exact ge_iret F hG rfl rfl rfl dL_write_20
theorem wc_pass : Cond.codeWith yL_pass cL_pass 4 (some .int) [(0, 9, 12, 13)] ∈ gW := gW_3 (List.mem_of_getElem? (i := 125) rfl) rfl
set_option maxRecDepth 100000 in
set_option maxHeartbeats 4000000 in
theorem l_pass {Z : gZ} {cL : ClassId} {l : Launch} {a o mc ms : Nat} {f : Nat → Int64} {ws : va_W} {fs : List Value} {rm : Room} {v : Int32} {P : va_W → Prop} (h0 : ws[0]? = some (a, .inr (6, fs))) (x1 : Int32) (hrm : rm.cells = mc ∧ rm.slots = ms) (hM : gE Z l yX6_pass cX6_pass 2 (some .int) rm (.ref a :: [.int x1]) ws (some (.int v)) P mc ms) : gL Z cL l yL_pass cL_pass 4 [(0, 9, 12, 13)] ({ frames := rm.frames + 1, cells := mc, slots := ms, locals := 8 + (2 + 11) + rm.locals } : Room) [.ref a, .int x1, .ref o] (ws ++ [(o, outE cL f)]) 0 (fun w => ∃ (ws' : va_W) (g : Nat → Int64), P ws' ∧ g 0 = v.toInt64 ∧ w = ws' ++ [(o, outE cL g)]) mc ms := by
  refine gL_of (by decide +kernel) (Nat.le_of_ble_eq_true rfl) ?_
  intro pP eE sS mI aA bB mE cC A F htab hxK hxZ hKL hnC hG ls hl
  have hx := F.1
  have hb := F.2.1
  have hl : lv_has ls 4 [(0, .ref a), (1, .int x1), (2, .ref o)] := hl
  refine lv_aload_n hx hb dL_pass_0 rfl (lv_at hl 2 rfl) ?_
  refine lv_iconst (v := 0) hx hb dL_pass_1 rfl ?_
  refine lv_aload_n hx hb dL_pass_2 rfl (lv_at hl 0 rfl) ?_
  refine lv_iload_n hx hb dL_pass_3 rfl (lv_at hl 1 rfl) ?_
  refine ge_callV F hG (ci := 6) (k := 0) (As := [.int x1]) (rest := [.int 0, .ref o]) hM kY_X6_pass kV_X6_pass h0 rfl rfl w3_126 rfl hrm ⟨Nat.le_refl _, Nat.le_refl _⟩ rfl (Nat.le_of_ble_eq_true rfl) hl.1 ⟨Nat.le_of_eq (Nat.zero_add _), Nat.le_of_eq (Nat.zero_add _)⟩ dL_pass_4 rfl (fun H locs ws2 hP hG => ?_)
  rw [Nat.zero_add mc, Nat.zero_add ms]
  refine lv_i2l (v := v.toInt64) hx hb dL_pass_7 rfl ?_
  refine gl_last F hKL hG dL_pass_8 (fun H locs g hg hG => ?_)
  refine lv_goto (tgt := 15) hx hb dL_pass_9 (by decide) ?_
  refine lv_iconst (v := 0) hx hb dL_pass_15 rfl ?_
  exact ge_iret F hG rfl rfl ⟨ws2, g, hP, hg, rfl⟩ dL_pass_16
set_option maxRecDepth 100000 in
set_option maxHeartbeats 4000000 in
theorem l_pass_IA {Z : gZ} {cL : ClassId} {l : Launch} {a o : Nat} {f : Nat → Int64} {ws : va_W} {fs : List Value} {rm : Room} (h0 : ws[0]? = some (a, .inr (6, fs))) (x1 : Int32) (hrm : rm.cells = 1 ∧ rm.slots = 6) (hM : gX Z l yX6_pass cX6_pass 2 (some .int) rm (.ref a :: [.int x1]) ws xIA 1 6) : gL Z cL l yL_pass cL_pass 4 [(0, 9, 12, 13)] ({ frames := rm.frames + 1, cells := 1, slots := 6, locals := 8 + (2 + 11) + rm.locals } : Room) [.ref a, .int x1, .ref o] (ws ++ [(o, outE cL f)]) 1 (fun w => w = ws ++ [(o, outE cL f)]) 1 6 := by
  refine gL_of (by decide +kernel) (Nat.le_of_ble_eq_true rfl) ?_
  intro pP eE sS mI aA bB mE cC A F htab hxK hxZ hKL hnC hG ls hl
  have hx := F.1
  have hb := F.2.1
  have hl : lv_has ls 4 [(0, .ref a), (1, .int x1), (2, .ref o)] := hl
  refine lv_aload_n hx hb dL_pass_0 rfl (lv_at hl 2 rfl) ?_
  refine lv_iconst (v := 0) hx hb dL_pass_1 rfl ?_
  refine lv_aload_n hx hb dL_pass_2 rfl (lv_at hl 0 rfl) ?_
  refine lv_iload_n hx hb dL_pass_3 rfl (lv_at hl 1 rfl) ?_
  refine gl_callX F hxK hxZ hG (ci := 6) (k := 0) (As := [.int x1]) (rest := [.int 0, .ref o]) hM kY_X6_pass kV_X6_pass h0 rfl rfl w3_126 rfl hrm ⟨Nat.le_refl _, Nat.le_refl _⟩ rfl (Nat.le_of_ble_eq_true rfl) hl.1 ⟨Nat.le_refl _, Nat.le_refl _⟩ dL_pass_4 (fun H locs q ce hG hq hv hcl => ?_)
  refine vx_catch (own := RL) (name := xIA) F.2.2.2.1 [] { startPc := 0, endPc := 9, handlerPc := 12, catchType := 13 } [] (by rw [htab]; rfl) (fun z hz => absurd hz List.not_mem_nil) (by decide) (by decide) (F.2.2.2.2.1 _ w2_43) (cast_at F.2.2.2.2.2.1 wn_55) hq hv hcl ?_
  refine lv_astore_n (lv' := [(3, .ref q), (0, .ref a), (1, .int x1), (2, .ref o)]) hx hb dL_pass_12 rfl hl (by decide) rfl (fun ls hl => ?_)
  refine lv_iconst (v := 1) hx hb dL_pass_13 rfl ?_
  exact ge_iret F hG rfl rfl rfl dL_pass_14
theorem wc_count : Cond.codeWith yL_count cL_count 4 (some .int) [(0, 9, 12, 24)] ∈ gW := gW_3 (List.mem_of_getElem? (i := 182) rfl) rfl
set_option maxRecDepth 100000 in
set_option maxHeartbeats 4000000 in
theorem l_count {Z : gZ} {cL : ClassId} {l : Launch} {a o mc ms : Nat} {f : Nat → Int64} {ws : va_W} {fs : List Value} {rm : Room} {v : Int32} {P : va_W → Prop} (h0 : ws[0]? = some (a, .inr (6, fs))) (x1 : Int32) (hrm : rm.cells = mc ∧ rm.slots = ms) (hM : gE Z l yX6_count cX6_count 2 (some .int) rm (.ref a :: [.int x1]) ws (some (.int v)) P mc ms) : gL Z cL l yL_count cL_count 4 [(0, 9, 12, 24)] ({ frames := rm.frames + 1, cells := mc, slots := ms, locals := 8 + (2 + 11) + rm.locals } : Room) [.ref a, .int x1, .ref o] (ws ++ [(o, outE cL f)]) 0 (fun w => ∃ (ws' : va_W) (g : Nat → Int64), P ws' ∧ g 0 = v.toInt64 ∧ w = ws' ++ [(o, outE cL g)]) mc ms := by
  refine gL_of (by decide +kernel) (Nat.le_of_ble_eq_true rfl) ?_
  intro pP eE sS mI aA bB mE cC A F htab hxK hxZ hKL hnC hG ls hl
  have hx := F.1
  have hb := F.2.1
  have hl : lv_has ls 4 [(0, .ref a), (1, .int x1), (2, .ref o)] := hl
  refine lv_aload_n hx hb dL_count_0 rfl (lv_at hl 2 rfl) ?_
  refine lv_iconst (v := 0) hx hb dL_count_1 rfl ?_
  refine lv_aload_n hx hb dL_count_2 rfl (lv_at hl 0 rfl) ?_
  refine lv_iload_n hx hb dL_count_3 rfl (lv_at hl 1 rfl) ?_
  refine ge_callV F hG (ci := 6) (k := 0) (As := [.int x1]) (rest := [.int 0, .ref o]) hM kY_X6_count kV_X6_count h0 rfl rfl w3_183 rfl hrm ⟨Nat.le_refl _, Nat.le_refl _⟩ rfl (Nat.le_of_ble_eq_true rfl) hl.1 ⟨Nat.le_of_eq (Nat.zero_add _), Nat.le_of_eq (Nat.zero_add _)⟩ dL_count_4 rfl (fun H locs ws2 hP hG => ?_)
  rw [Nat.zero_add mc, Nat.zero_add ms]
  refine lv_i2l (v := v.toInt64) hx hb dL_count_7 rfl ?_
  refine gl_last F hKL hG dL_count_8 (fun H locs g hg hG => ?_)
  refine lv_goto (tgt := 15) hx hb dL_count_9 (by decide) ?_
  refine lv_iconst (v := 0) hx hb dL_count_15 rfl ?_
  exact ge_iret F hG rfl rfl ⟨ws2, g, hP, hg, rfl⟩ dL_count_16
set_option maxRecDepth 100000 in
set_option maxHeartbeats 4000000 in
theorem l_count_IO {Z : gZ} {cL : ClassId} {l : Launch} {a o : Nat} {f : Nat → Int64} {ws : va_W} {fs : List Value} {rm : Room} (h0 : ws[0]? = some (a, .inr (6, fs))) (x1 : Int32) (hrm : rm.cells = 1 ∧ rm.slots = 6) (hM : gX Z l yX6_count cX6_count 2 (some .int) rm (.ref a :: [.int x1]) ws xIO 1 6) : gL Z cL l yL_count cL_count 4 [(0, 9, 12, 24)] ({ frames := rm.frames + 1, cells := 1, slots := 6, locals := 8 + (2 + 11) + rm.locals } : Room) [.ref a, .int x1, .ref o] (ws ++ [(o, outE cL f)]) 1 (fun w => w = ws ++ [(o, outE cL f)]) 1 6 := by
  refine gL_of (by decide +kernel) (Nat.le_of_ble_eq_true rfl) ?_
  intro pP eE sS mI aA bB mE cC A F htab hxK hxZ hKL hnC hG ls hl
  have hx := F.1
  have hb := F.2.1
  have hl : lv_has ls 4 [(0, .ref a), (1, .int x1), (2, .ref o)] := hl
  refine lv_aload_n hx hb dL_count_0 rfl (lv_at hl 2 rfl) ?_
  refine lv_iconst (v := 0) hx hb dL_count_1 rfl ?_
  refine lv_aload_n hx hb dL_count_2 rfl (lv_at hl 0 rfl) ?_
  refine lv_iload_n hx hb dL_count_3 rfl (lv_at hl 1 rfl) ?_
  refine gl_callX F hxK hxZ hG (ci := 6) (k := 0) (As := [.int x1]) (rest := [.int 0, .ref o]) hM kY_X6_count kV_X6_count h0 rfl rfl w3_183 rfl hrm ⟨Nat.le_refl _, Nat.le_refl _⟩ rfl (Nat.le_of_ble_eq_true rfl) hl.1 ⟨Nat.le_refl _, Nat.le_refl _⟩ dL_count_4 (fun H locs q ce hG hq hv hcl => ?_)
  refine vx_catch (own := RL) (name := xIO) F.2.2.2.1 [] { startPc := 0, endPc := 9, handlerPc := 12, catchType := 24 } [] (by rw [htab]; rfl) (fun z hz => absurd hz List.not_mem_nil) (by decide) (by decide) (F.2.2.2.2.1 _ w2_201) (cast_at F.2.2.2.2.2.1 wn_57) hq hv hcl ?_
  refine lv_astore_n (lv' := [(3, .ref q), (0, .ref a), (1, .int x1), (2, .ref o)]) hx hb dL_count_12 rfl hl (by decide) rfl (fun ls hl => ?_)
  refine lv_iconst (v := 1) hx hb dL_count_13 rfl ?_
  exact ge_iret F hG rfl rfl rfl dL_count_14
theorem wc_rank : Cond.codeWith yL_rank cL_rank 4 (some .int) [(0, 9, 12, 24)] ∈ gW := gW_3 (List.mem_of_getElem? (i := 190) rfl) rfl
set_option maxRecDepth 100000 in
set_option maxHeartbeats 4000000 in
theorem l_rank {Z : gZ} {cL : ClassId} {l : Launch} {a o mc ms : Nat} {f : Nat → Int64} {ws : va_W} {fs : List Value} {rm : Room} {v : Int32} {P : va_W → Prop} (h0 : ws[0]? = some (a, .inr (6, fs))) (x1 : Int32) (hrm : rm.cells = mc ∧ rm.slots = ms) (hM : gE Z l yX6_rank cX6_rank 2 (some .int) rm (.ref a :: [.int x1]) ws (some (.int v)) P mc ms) : gL Z cL l yL_rank cL_rank 4 [(0, 9, 12, 24)] ({ frames := rm.frames + 1, cells := mc, slots := ms, locals := 8 + (2 + 11) + rm.locals } : Room) [.ref a, .int x1, .ref o] (ws ++ [(o, outE cL f)]) 0 (fun w => ∃ (ws' : va_W) (g : Nat → Int64), P ws' ∧ g 0 = v.toInt64 ∧ w = ws' ++ [(o, outE cL g)]) mc ms := by
  refine gL_of (by decide +kernel) (Nat.le_of_ble_eq_true rfl) ?_
  intro pP eE sS mI aA bB mE cC A F htab hxK hxZ hKL hnC hG ls hl
  have hx := F.1
  have hb := F.2.1
  have hl : lv_has ls 4 [(0, .ref a), (1, .int x1), (2, .ref o)] := hl
  refine lv_aload_n hx hb dL_rank_0 rfl (lv_at hl 2 rfl) ?_
  refine lv_iconst (v := 0) hx hb dL_rank_1 rfl ?_
  refine lv_aload_n hx hb dL_rank_2 rfl (lv_at hl 0 rfl) ?_
  refine lv_iload_n hx hb dL_rank_3 rfl (lv_at hl 1 rfl) ?_
  refine ge_callV F hG (ci := 6) (k := 0) (As := [.int x1]) (rest := [.int 0, .ref o]) hM kY_X6_rank kV_X6_rank h0 rfl rfl w3_191 rfl hrm ⟨Nat.le_refl _, Nat.le_refl _⟩ rfl (Nat.le_of_ble_eq_true rfl) hl.1 ⟨Nat.le_of_eq (Nat.zero_add _), Nat.le_of_eq (Nat.zero_add _)⟩ dL_rank_4 rfl (fun H locs ws2 hP hG => ?_)
  rw [Nat.zero_add mc, Nat.zero_add ms]
  refine lv_i2l (v := v.toInt64) hx hb dL_rank_7 rfl ?_
  refine gl_last F hKL hG dL_rank_8 (fun H locs g hg hG => ?_)
  refine lv_goto (tgt := 15) hx hb dL_rank_9 (by decide) ?_
  refine lv_iconst (v := 0) hx hb dL_rank_15 rfl ?_
  exact ge_iret F hG rfl rfl ⟨ws2, g, hP, hg, rfl⟩ dL_rank_16
set_option maxRecDepth 100000 in
set_option maxHeartbeats 4000000 in
theorem l_rank_IO {Z : gZ} {cL : ClassId} {l : Launch} {a o : Nat} {f : Nat → Int64} {ws : va_W} {fs : List Value} {rm : Room} (h0 : ws[0]? = some (a, .inr (6, fs))) (x1 : Int32) (hrm : rm.cells = 1 ∧ rm.slots = 6) (hM : gX Z l yX6_rank cX6_rank 2 (some .int) rm (.ref a :: [.int x1]) ws xIO 1 6) : gL Z cL l yL_rank cL_rank 4 [(0, 9, 12, 24)] ({ frames := rm.frames + 1, cells := 1, slots := 6, locals := 8 + (2 + 11) + rm.locals } : Room) [.ref a, .int x1, .ref o] (ws ++ [(o, outE cL f)]) 1 (fun w => w = ws ++ [(o, outE cL f)]) 1 6 := by
  refine gL_of (by decide +kernel) (Nat.le_of_ble_eq_true rfl) ?_
  intro pP eE sS mI aA bB mE cC A F htab hxK hxZ hKL hnC hG ls hl
  have hx := F.1
  have hb := F.2.1
  have hl : lv_has ls 4 [(0, .ref a), (1, .int x1), (2, .ref o)] := hl
  refine lv_aload_n hx hb dL_rank_0 rfl (lv_at hl 2 rfl) ?_
  refine lv_iconst (v := 0) hx hb dL_rank_1 rfl ?_
  refine lv_aload_n hx hb dL_rank_2 rfl (lv_at hl 0 rfl) ?_
  refine lv_iload_n hx hb dL_rank_3 rfl (lv_at hl 1 rfl) ?_
  refine gl_callX F hxK hxZ hG (ci := 6) (k := 0) (As := [.int x1]) (rest := [.int 0, .ref o]) hM kY_X6_rank kV_X6_rank h0 rfl rfl w3_191 rfl hrm ⟨Nat.le_refl _, Nat.le_refl _⟩ rfl (Nat.le_of_ble_eq_true rfl) hl.1 ⟨Nat.le_refl _, Nat.le_refl _⟩ dL_rank_4 (fun H locs q ce hG hq hv hcl => ?_)
  refine vx_catch (own := RL) (name := xIO) F.2.2.2.1 [] { startPc := 0, endPc := 9, handlerPc := 12, catchType := 24 } [] (by rw [htab]; rfl) (fun z hz => absurd hz List.not_mem_nil) (by decide) (by decide) (F.2.2.2.2.1 _ w2_201) (cast_at F.2.2.2.2.2.1 wn_57) hq hv hcl ?_
  refine lv_astore_n (lv' := [(3, .ref q), (0, .ref a), (1, .int x1), (2, .ref o)]) hx hb dL_rank_12 rfl hl (by decide) rfl (fun ls hl => ?_)
  refine lv_iconst (v := 1) hx hb dL_rank_13 rfl ?_
  exact ge_iret F hG rfl rfl rfl dL_rank_14
theorem wc_dial : Cond.codeWith yL_dial cL_dial 5 (some .int) [(0, 10, 13, 24)] ∈ gW := gW_3 (List.mem_of_getElem? (i := 212) rfl) rfl
set_option maxRecDepth 100000 in
set_option maxHeartbeats 4000000 in
theorem l_dial {Z : gZ} {cL : ClassId} {l : Launch} {a o mc ms : Nat} {f : Nat → Int64} {ws : va_W} {fs : List Value} {rm : Room} {v : Int32} {P : va_W → Prop} (h0 : ws[0]? = some (a, .inr (6, fs))) (x1 x2 : Int32) (hrm : rm.cells = mc ∧ rm.slots = ms) (hM : gE Z l yX6_dial cX6_dial 4 (some .int) rm (.ref a :: [.int x1, .int x2]) ws (some (.int v)) P mc ms) : gL Z cL l yL_dial cL_dial 5 [(0, 10, 13, 24)] ({ frames := rm.frames + 1, cells := mc, slots := ms, locals := 8 + (4 + 11) + rm.locals } : Room) [.ref a, .int x1, .int x2, .ref o] (ws ++ [(o, outE cL f)]) 0 (fun w => ∃ (ws' : va_W) (g : Nat → Int64), P ws' ∧ g 0 = v.toInt64 ∧ w = ws' ++ [(o, outE cL g)]) mc ms := by
  refine gL_of (by decide +kernel) (Nat.le_of_ble_eq_true rfl) ?_
  intro pP eE sS mI aA bB mE cC A F htab hxK hxZ hKL hnC hG ls hl
  have hx := F.1
  have hb := F.2.1
  have hl : lv_has ls 5 [(0, .ref a), (1, .int x1), (2, .int x2), (3, .ref o)] := hl
  refine lv_aload_n hx hb dL_dial_0 rfl (lv_at hl 3 rfl) ?_
  refine lv_iconst (v := 0) hx hb dL_dial_1 rfl ?_
  refine lv_aload_n hx hb dL_dial_2 rfl (lv_at hl 0 rfl) ?_
  refine lv_iload_n hx hb dL_dial_3 rfl (lv_at hl 1 rfl) ?_
  refine lv_iload_n hx hb dL_dial_4 rfl (lv_at hl 2 rfl) ?_
  refine ge_callV F hG (ci := 6) (k := 0) (As := [.int x1, .int x2]) (rest := [.int 0, .ref o]) hM kY_X6_dial kV_X6_dial h0 rfl rfl w3_213 rfl hrm ⟨Nat.le_refl _, Nat.le_refl _⟩ rfl (Nat.le_of_ble_eq_true rfl) hl.1 ⟨Nat.le_of_eq (Nat.zero_add _), Nat.le_of_eq (Nat.zero_add _)⟩ dL_dial_5 rfl (fun H locs ws2 hP hG => ?_)
  rw [Nat.zero_add mc, Nat.zero_add ms]
  refine lv_i2l (v := v.toInt64) hx hb dL_dial_8 rfl ?_
  refine gl_last F hKL hG dL_dial_9 (fun H locs g hg hG => ?_)
  refine lv_goto (tgt := 17) hx hb dL_dial_10 (by decide) ?_
  refine lv_iconst (v := 0) hx hb dL_dial_17 rfl ?_
  exact ge_iret F hG rfl rfl ⟨ws2, g, hP, hg, rfl⟩ dL_dial_18
set_option maxRecDepth 100000 in
set_option maxHeartbeats 4000000 in
theorem l_dial_IO {Z : gZ} {cL : ClassId} {l : Launch} {a o : Nat} {f : Nat → Int64} {ws : va_W} {fs : List Value} {rm : Room} (h0 : ws[0]? = some (a, .inr (6, fs))) (x1 x2 : Int32) (hrm : rm.cells = 1 ∧ rm.slots = 6) (hM : gX Z l yX6_dial cX6_dial 4 (some .int) rm (.ref a :: [.int x1, .int x2]) ws xIO 1 6) : gL Z cL l yL_dial cL_dial 5 [(0, 10, 13, 24)] ({ frames := rm.frames + 1, cells := 1, slots := 6, locals := 8 + (4 + 11) + rm.locals } : Room) [.ref a, .int x1, .int x2, .ref o] (ws ++ [(o, outE cL f)]) 1 (fun w => w = ws ++ [(o, outE cL f)]) 1 6 := by
  refine gL_of (by decide +kernel) (Nat.le_of_ble_eq_true rfl) ?_
  intro pP eE sS mI aA bB mE cC A F htab hxK hxZ hKL hnC hG ls hl
  have hx := F.1
  have hb := F.2.1
  have hl : lv_has ls 5 [(0, .ref a), (1, .int x1), (2, .int x2), (3, .ref o)] := hl
  refine lv_aload_n hx hb dL_dial_0 rfl (lv_at hl 3 rfl) ?_
  refine lv_iconst (v := 0) hx hb dL_dial_1 rfl ?_
  refine lv_aload_n hx hb dL_dial_2 rfl (lv_at hl 0 rfl) ?_
  refine lv_iload_n hx hb dL_dial_3 rfl (lv_at hl 1 rfl) ?_
  refine lv_iload_n hx hb dL_dial_4 rfl (lv_at hl 2 rfl) ?_
  refine gl_callX F hxK hxZ hG (ci := 6) (k := 0) (As := [.int x1, .int x2]) (rest := [.int 0, .ref o]) hM kY_X6_dial kV_X6_dial h0 rfl rfl w3_213 rfl hrm ⟨Nat.le_refl _, Nat.le_refl _⟩ rfl (Nat.le_of_ble_eq_true rfl) hl.1 ⟨Nat.le_refl _, Nat.le_refl _⟩ dL_dial_5 (fun H locs q ce hG hq hv hcl => ?_)
  refine vx_catch (own := RL) (name := xIO) F.2.2.2.1 [] { startPc := 0, endPc := 10, handlerPc := 13, catchType := 24 } [] (by rw [htab]; rfl) (fun z hz => absurd hz List.not_mem_nil) (by decide) (by decide) (F.2.2.2.2.1 _ w2_201) (cast_at F.2.2.2.2.2.1 wn_57) hq hv hcl ?_
  refine lv_astore (lv' := [(4, .ref q), (0, .ref a), (1, .int x1), (2, .int x2), (3, .ref o)]) hx hb dL_dial_13 hl (by decide) rfl (fun ls hl => ?_)
  refine lv_iconst (v := 1) hx hb dL_dial_15 rfl ?_
  exact ge_iret F hG rfl rfl rfl dL_dial_16
theorem wc_next : Cond.codeWith yL_next cL_next 5 (some .int) [(0, 10, 13, 24)] ∈ gW := gW_3 (List.mem_of_getElem? (i := 228) rfl) rfl
set_option maxRecDepth 100000 in
set_option maxHeartbeats 4000000 in
theorem l_next {Z : gZ} {cL : ClassId} {l : Launch} {a o mc ms : Nat} {f : Nat → Int64} {ws : va_W} {fs : List Value} {rm : Room} {v : Int32} {P : va_W → Prop} (h0 : ws[0]? = some (a, .inr (6, fs))) (x1 x2 : Int32) (hrm : rm.cells = mc ∧ rm.slots = ms) (hM : gE Z l yX6_next cX6_next 5 (some .int) rm (.ref a :: [.int x1, .int x2]) ws (some (.int v)) P mc ms) : gL Z cL l yL_next cL_next 5 [(0, 10, 13, 24)] ({ frames := rm.frames + 1, cells := mc, slots := ms, locals := 8 + (5 + 11) + rm.locals } : Room) [.ref a, .int x1, .int x2, .ref o] (ws ++ [(o, outE cL f)]) 0 (fun w => ∃ (ws' : va_W) (g : Nat → Int64), P ws' ∧ g 0 = v.toInt64 ∧ w = ws' ++ [(o, outE cL g)]) mc ms := by
  refine gL_of (by decide +kernel) (Nat.le_of_ble_eq_true rfl) ?_
  intro pP eE sS mI aA bB mE cC A F htab hxK hxZ hKL hnC hG ls hl
  have hx := F.1
  have hb := F.2.1
  have hl : lv_has ls 5 [(0, .ref a), (1, .int x1), (2, .int x2), (3, .ref o)] := hl
  refine lv_aload_n hx hb dL_next_0 rfl (lv_at hl 3 rfl) ?_
  refine lv_iconst (v := 0) hx hb dL_next_1 rfl ?_
  refine lv_aload_n hx hb dL_next_2 rfl (lv_at hl 0 rfl) ?_
  refine lv_iload_n hx hb dL_next_3 rfl (lv_at hl 1 rfl) ?_
  refine lv_iload_n hx hb dL_next_4 rfl (lv_at hl 2 rfl) ?_
  refine ge_callV F hG (ci := 6) (k := 0) (As := [.int x1, .int x2]) (rest := [.int 0, .ref o]) hM kY_X6_next kV_X6_next h0 rfl rfl w3_229 rfl hrm ⟨Nat.le_refl _, Nat.le_refl _⟩ rfl (Nat.le_of_ble_eq_true rfl) hl.1 ⟨Nat.le_of_eq (Nat.zero_add _), Nat.le_of_eq (Nat.zero_add _)⟩ dL_next_5 rfl (fun H locs ws2 hP hG => ?_)
  rw [Nat.zero_add mc, Nat.zero_add ms]
  refine lv_i2l (v := v.toInt64) hx hb dL_next_8 rfl ?_
  refine gl_last F hKL hG dL_next_9 (fun H locs g hg hG => ?_)
  refine lv_goto (tgt := 17) hx hb dL_next_10 (by decide) ?_
  refine lv_iconst (v := 0) hx hb dL_next_17 rfl ?_
  exact ge_iret F hG rfl rfl ⟨ws2, g, hP, hg, rfl⟩ dL_next_18
set_option maxRecDepth 100000 in
set_option maxHeartbeats 4000000 in
theorem l_next_IO {Z : gZ} {cL : ClassId} {l : Launch} {a o : Nat} {f : Nat → Int64} {ws : va_W} {fs : List Value} {rm : Room} (h0 : ws[0]? = some (a, .inr (6, fs))) (x1 x2 : Int32) (hrm : rm.cells = 1 ∧ rm.slots = 6) (hM : gX Z l yX6_next cX6_next 5 (some .int) rm (.ref a :: [.int x1, .int x2]) ws xIO 1 6) : gL Z cL l yL_next cL_next 5 [(0, 10, 13, 24)] ({ frames := rm.frames + 1, cells := 1, slots := 6, locals := 8 + (5 + 11) + rm.locals } : Room) [.ref a, .int x1, .int x2, .ref o] (ws ++ [(o, outE cL f)]) 1 (fun w => w = ws ++ [(o, outE cL f)]) 1 6 := by
  refine gL_of (by decide +kernel) (Nat.le_of_ble_eq_true rfl) ?_
  intro pP eE sS mI aA bB mE cC A F htab hxK hxZ hKL hnC hG ls hl
  have hx := F.1
  have hb := F.2.1
  have hl : lv_has ls 5 [(0, .ref a), (1, .int x1), (2, .int x2), (3, .ref o)] := hl
  refine lv_aload_n hx hb dL_next_0 rfl (lv_at hl 3 rfl) ?_
  refine lv_iconst (v := 0) hx hb dL_next_1 rfl ?_
  refine lv_aload_n hx hb dL_next_2 rfl (lv_at hl 0 rfl) ?_
  refine lv_iload_n hx hb dL_next_3 rfl (lv_at hl 1 rfl) ?_
  refine lv_iload_n hx hb dL_next_4 rfl (lv_at hl 2 rfl) ?_
  refine gl_callX F hxK hxZ hG (ci := 6) (k := 0) (As := [.int x1, .int x2]) (rest := [.int 0, .ref o]) hM kY_X6_next kV_X6_next h0 rfl rfl w3_229 rfl hrm ⟨Nat.le_refl _, Nat.le_refl _⟩ rfl (Nat.le_of_ble_eq_true rfl) hl.1 ⟨Nat.le_refl _, Nat.le_refl _⟩ dL_next_5 (fun H locs q ce hG hq hv hcl => ?_)
  refine vx_catch (own := RL) (name := xIO) F.2.2.2.1 [] { startPc := 0, endPc := 10, handlerPc := 13, catchType := 24 } [] (by rw [htab]; rfl) (fun z hz => absurd hz List.not_mem_nil) (by decide) (by decide) (F.2.2.2.2.1 _ w2_201) (cast_at F.2.2.2.2.2.1 wn_57) hq hv hcl ?_
  refine lv_astore (lv' := [(4, .ref q), (0, .ref a), (1, .int x1), (2, .int x2), (3, .ref o)]) hx hb dL_next_13 hl (by decide) rfl (fun ls hl => ?_)
  refine lv_iconst (v := 1) hx hb dL_next_15 rfl ?_
  exact ge_iret F hG rfl rfl rfl dL_next_16
theorem wc_apart : Cond.codeWith yL_apart cL_apart 6 (some .int) [(0, 12, 15, 24), (0, 12, 19, 13)] ∈ gW := gW_3 (List.mem_of_getElem? (i := 235) rfl) rfl
set_option maxRecDepth 100000 in
set_option maxHeartbeats 4000000 in
theorem l_apart {Z : gZ} {cL : ClassId} {l : Launch} {a o mc ms : Nat} {f : Nat → Int64} {ws : va_W} {fs : List Value} {rm : Room} {v : Int32} {P : va_W → Prop} (h0 : ws[0]? = some (a, .inr (6, fs))) (x1 x2 x3 : Int32) (hrm : rm.cells = mc ∧ rm.slots = ms) (hM : gE Z l yX6_apart cX6_apart 8 (some .int) rm (.ref a :: [.int x1, .int x2, .int x3]) ws (some (.int v)) P mc ms) : gL Z cL l yL_apart cL_apart 6 [(0, 12, 15, 24), (0, 12, 19, 13)] ({ frames := rm.frames + 1, cells := mc, slots := ms, locals := 8 + (8 + 11) + rm.locals } : Room) [.ref a, .int x1, .int x2, .int x3, .ref o] (ws ++ [(o, outE cL f)]) 0 (fun w => ∃ (ws' : va_W) (g : Nat → Int64), P ws' ∧ g 0 = v.toInt64 ∧ w = ws' ++ [(o, outE cL g)]) mc ms := by
  refine gL_of (by decide +kernel) (Nat.le_of_ble_eq_true rfl) ?_
  intro pP eE sS mI aA bB mE cC A F htab hxK hxZ hKL hnC hG ls hl
  have hx := F.1
  have hb := F.2.1
  have hl : lv_has ls 6 [(0, .ref a), (1, .int x1), (2, .int x2), (3, .int x3), (4, .ref o)] := hl
  refine lv_aload hx hb dL_apart_0 (lv_at hl 4 rfl) ?_
  refine lv_iconst (v := 0) hx hb dL_apart_2 rfl ?_
  refine lv_aload_n hx hb dL_apart_3 rfl (lv_at hl 0 rfl) ?_
  refine lv_iload_n hx hb dL_apart_4 rfl (lv_at hl 1 rfl) ?_
  refine lv_iload_n hx hb dL_apart_5 rfl (lv_at hl 2 rfl) ?_
  refine lv_iload_n hx hb dL_apart_6 rfl (lv_at hl 3 rfl) ?_
  refine ge_callV F hG (ci := 6) (k := 0) (As := [.int x1, .int x2, .int x3]) (rest := [.int 0, .ref o]) hM kY_X6_apart kV_X6_apart h0 rfl rfl w3_236 rfl hrm ⟨Nat.le_refl _, Nat.le_refl _⟩ rfl (Nat.le_of_ble_eq_true rfl) hl.1 ⟨Nat.le_of_eq (Nat.zero_add _), Nat.le_of_eq (Nat.zero_add _)⟩ dL_apart_7 rfl (fun H locs ws2 hP hG => ?_)
  rw [Nat.zero_add mc, Nat.zero_add ms]
  refine lv_i2l (v := v.toInt64) hx hb dL_apart_10 rfl ?_
  refine gl_last F hKL hG dL_apart_11 (fun H locs g hg hG => ?_)
  refine lv_goto (tgt := 23) hx hb dL_apart_12 (by decide) ?_
  refine lv_iconst (v := 0) hx hb dL_apart_23 rfl ?_
  exact ge_iret F hG rfl rfl ⟨ws2, g, hP, hg, rfl⟩ dL_apart_24
set_option maxRecDepth 100000 in
set_option maxHeartbeats 4000000 in
theorem l_apart_IO {Z : gZ} {cL : ClassId} {l : Launch} {a o : Nat} {f : Nat → Int64} {ws : va_W} {fs : List Value} {rm : Room} (h0 : ws[0]? = some (a, .inr (6, fs))) (x1 x2 x3 : Int32) (hrm : rm.cells = 1 ∧ rm.slots = 6) (hM : gX Z l yX6_apart cX6_apart 8 (some .int) rm (.ref a :: [.int x1, .int x2, .int x3]) ws xIO 1 6) : gL Z cL l yL_apart cL_apart 6 [(0, 12, 15, 24), (0, 12, 19, 13)] ({ frames := rm.frames + 1, cells := 1, slots := 6, locals := 8 + (8 + 11) + rm.locals } : Room) [.ref a, .int x1, .int x2, .int x3, .ref o] (ws ++ [(o, outE cL f)]) 1 (fun w => w = ws ++ [(o, outE cL f)]) 1 6 := by
  refine gL_of (by decide +kernel) (Nat.le_of_ble_eq_true rfl) ?_
  intro pP eE sS mI aA bB mE cC A F htab hxK hxZ hKL hnC hG ls hl
  have hx := F.1
  have hb := F.2.1
  have hl : lv_has ls 6 [(0, .ref a), (1, .int x1), (2, .int x2), (3, .int x3), (4, .ref o)] := hl
  refine lv_aload hx hb dL_apart_0 (lv_at hl 4 rfl) ?_
  refine lv_iconst (v := 0) hx hb dL_apart_2 rfl ?_
  refine lv_aload_n hx hb dL_apart_3 rfl (lv_at hl 0 rfl) ?_
  refine lv_iload_n hx hb dL_apart_4 rfl (lv_at hl 1 rfl) ?_
  refine lv_iload_n hx hb dL_apart_5 rfl (lv_at hl 2 rfl) ?_
  refine lv_iload_n hx hb dL_apart_6 rfl (lv_at hl 3 rfl) ?_
  refine gl_callX F hxK hxZ hG (ci := 6) (k := 0) (As := [.int x1, .int x2, .int x3]) (rest := [.int 0, .ref o]) hM kY_X6_apart kV_X6_apart h0 rfl rfl w3_236 rfl hrm ⟨Nat.le_refl _, Nat.le_refl _⟩ rfl (Nat.le_of_ble_eq_true rfl) hl.1 ⟨Nat.le_refl _, Nat.le_refl _⟩ dL_apart_7 (fun H locs q ce hG hq hv hcl => ?_)
  refine vx_catch (own := RL) (name := xIO) F.2.2.2.1 [] { startPc := 0, endPc := 12, handlerPc := 15, catchType := 24 } [{ startPc := 0, endPc := 12, handlerPc := 19, catchType := 13 }] (by rw [htab]; rfl) (fun z hz => absurd hz List.not_mem_nil) (by decide) (by decide) (F.2.2.2.2.1 _ w2_201) (cast_at F.2.2.2.2.2.1 wn_57) hq hv hcl ?_
  refine lv_astore (lv' := [(5, .ref q), (0, .ref a), (1, .int x1), (2, .int x2), (3, .int x3), (4, .ref o)]) hx hb dL_apart_15 hl (by decide) rfl (fun ls hl => ?_)
  refine lv_iconst (v := 1) hx hb dL_apart_17 rfl ?_
  exact ge_iret F hG rfl rfl rfl dL_apart_18
set_option maxRecDepth 100000 in
set_option maxHeartbeats 4000000 in
theorem l_apart_IA {Z : gZ} {cL : ClassId} {l : Launch} {a o : Nat} {f : Nat → Int64} {ws : va_W} {fs : List Value} {rm : Room} (h0 : ws[0]? = some (a, .inr (6, fs))) (x1 x2 x3 : Int32) (hrm : rm.cells = 1 ∧ rm.slots = 6) (hM : gX Z l yX6_apart cX6_apart 8 (some .int) rm (.ref a :: [.int x1, .int x2, .int x3]) ws xIA 1 6) : gL Z cL l yL_apart cL_apart 6 [(0, 12, 15, 24), (0, 12, 19, 13)] ({ frames := rm.frames + 1, cells := 1, slots := 6, locals := 8 + (8 + 11) + rm.locals } : Room) [.ref a, .int x1, .int x2, .int x3, .ref o] (ws ++ [(o, outE cL f)]) 2 (fun w => w = ws ++ [(o, outE cL f)]) 1 6 := by
  refine gL_of (by decide +kernel) (Nat.le_of_ble_eq_true rfl) ?_
  intro pP eE sS mI aA bB mE cC A F htab hxK hxZ hKL hnC hG ls hl
  have hx := F.1
  have hb := F.2.1
  have hl : lv_has ls 6 [(0, .ref a), (1, .int x1), (2, .int x2), (3, .int x3), (4, .ref o)] := hl
  refine lv_aload hx hb dL_apart_0 (lv_at hl 4 rfl) ?_
  refine lv_iconst (v := 0) hx hb dL_apart_2 rfl ?_
  refine lv_aload_n hx hb dL_apart_3 rfl (lv_at hl 0 rfl) ?_
  refine lv_iload_n hx hb dL_apart_4 rfl (lv_at hl 1 rfl) ?_
  refine lv_iload_n hx hb dL_apart_5 rfl (lv_at hl 2 rfl) ?_
  refine lv_iload_n hx hb dL_apart_6 rfl (lv_at hl 3 rfl) ?_
  refine gl_callX F hxK hxZ hG (ci := 6) (k := 0) (As := [.int x1, .int x2, .int x3]) (rest := [.int 0, .ref o]) hM kY_X6_apart kV_X6_apart h0 rfl rfl w3_236 rfl hrm ⟨Nat.le_refl _, Nat.le_refl _⟩ rfl (Nat.le_of_ble_eq_true rfl) hl.1 ⟨Nat.le_refl _, Nat.le_refl _⟩ dL_apart_7 (fun H locs q ce hG hq hv hcl => ?_)
  refine vx_catch (own := RL) (name := xIA) F.2.2.2.1 [{ startPc := 0, endPc := 12, handlerPc := 15, catchType := 24 }] { startPc := 0, endPc := 12, handlerPc := 19, catchType := 13 } [] (by rw [htab]; rfl) (fun z hz => by
    cases List.mem_singleton.mp hz
    exact Or.inr ⟨by decide, xIO, F.2.2.2.2.1 _ w2_201, hnC.2.1⟩) (by decide) (by decide) (F.2.2.2.2.1 _ w2_43) (cast_at F.2.2.2.2.2.1 wn_55) hq hv hcl ?_
  refine lv_astore (lv' := [(5, .ref q), (0, .ref a), (1, .int x1), (2, .int x2), (3, .int x3), (4, .ref o)]) hx hb dL_apart_19 hl (by decide) rfl (fun ls hl => ?_)
  refine lv_iconst (v := 2) hx hb dL_apart_21 rfl ?_
  exact ge_iret F hG rfl rfl rfl dL_apart_22
theorem wc_foresee : Cond.codeWith yL_foresee cL_foresee 5 (some .int) [(0, 10, 13, 13), (0, 10, 17, 24)] ∈ gW := gW_4 (List.mem_of_getElem? (i := 7) rfl) rfl
set_option maxRecDepth 100000 in
set_option maxHeartbeats 4000000 in
theorem l_foresee {Z : gZ} {cL : ClassId} {l : Launch} {a o mc ms : Nat} {f : Nat → Int64} {ws : va_W} {fs : List Value} {rm : Room} {v : Int32} {P : va_W → Prop} (h0 : ws[0]? = some (a, .inr (6, fs))) (x1 x2 : Int32) (hrm : rm.cells = mc ∧ rm.slots = ms) (hM : gE Z l yX6_foresee cX6_foresee 4 (some .int) rm (.ref a :: [.int x1, .int x2]) ws (some (.int v)) P mc ms) : gL Z cL l yL_foresee cL_foresee 5 [(0, 10, 13, 13), (0, 10, 17, 24)] ({ frames := rm.frames + 1, cells := mc, slots := ms, locals := 8 + (4 + 11) + rm.locals } : Room) [.ref a, .int x1, .int x2, .ref o] (ws ++ [(o, outE cL f)]) 0 (fun w => ∃ (ws' : va_W) (g : Nat → Int64), P ws' ∧ g 0 = v.toInt64 ∧ w = ws' ++ [(o, outE cL g)]) mc ms := by
  refine gL_of (by decide +kernel) (Nat.le_of_ble_eq_true rfl) ?_
  intro pP eE sS mI aA bB mE cC A F htab hxK hxZ hKL hnC hG ls hl
  have hx := F.1
  have hb := F.2.1
  have hl : lv_has ls 5 [(0, .ref a), (1, .int x1), (2, .int x2), (3, .ref o)] := hl
  refine lv_aload_n hx hb dL_foresee_0 rfl (lv_at hl 3 rfl) ?_
  refine lv_iconst (v := 0) hx hb dL_foresee_1 rfl ?_
  refine lv_aload_n hx hb dL_foresee_2 rfl (lv_at hl 0 rfl) ?_
  refine lv_iload_n hx hb dL_foresee_3 rfl (lv_at hl 1 rfl) ?_
  refine lv_iload_n hx hb dL_foresee_4 rfl (lv_at hl 2 rfl) ?_
  refine ge_callV F hG (ci := 6) (k := 0) (As := [.int x1, .int x2]) (rest := [.int 0, .ref o]) hM kY_X6_foresee kV_X6_foresee h0 rfl rfl w4_8 rfl hrm ⟨Nat.le_refl _, Nat.le_refl _⟩ rfl (Nat.le_of_ble_eq_true rfl) hl.1 ⟨Nat.le_of_eq (Nat.zero_add _), Nat.le_of_eq (Nat.zero_add _)⟩ dL_foresee_5 rfl (fun H locs ws2 hP hG => ?_)
  rw [Nat.zero_add mc, Nat.zero_add ms]
  refine lv_i2l (v := v.toInt64) hx hb dL_foresee_8 rfl ?_
  refine gl_last F hKL hG dL_foresee_9 (fun H locs g hg hG => ?_)
  refine lv_goto (tgt := 21) hx hb dL_foresee_10 (by decide) ?_
  refine lv_iconst (v := 0) hx hb dL_foresee_21 rfl ?_
  exact ge_iret F hG rfl rfl ⟨ws2, g, hP, hg, rfl⟩ dL_foresee_22
set_option maxRecDepth 100000 in
set_option maxHeartbeats 4000000 in
theorem l_foresee_IA {Z : gZ} {cL : ClassId} {l : Launch} {a o : Nat} {f : Nat → Int64} {ws : va_W} {fs : List Value} {rm : Room} (h0 : ws[0]? = some (a, .inr (6, fs))) (x1 x2 : Int32) (hrm : rm.cells = 1 ∧ rm.slots = 6) (hM : gX Z l yX6_foresee cX6_foresee 4 (some .int) rm (.ref a :: [.int x1, .int x2]) ws xIA 1 6) : gL Z cL l yL_foresee cL_foresee 5 [(0, 10, 13, 13), (0, 10, 17, 24)] ({ frames := rm.frames + 1, cells := 1, slots := 6, locals := 8 + (4 + 11) + rm.locals } : Room) [.ref a, .int x1, .int x2, .ref o] (ws ++ [(o, outE cL f)]) 1 (fun w => w = ws ++ [(o, outE cL f)]) 1 6 := by
  refine gL_of (by decide +kernel) (Nat.le_of_ble_eq_true rfl) ?_
  intro pP eE sS mI aA bB mE cC A F htab hxK hxZ hKL hnC hG ls hl
  have hx := F.1
  have hb := F.2.1
  have hl : lv_has ls 5 [(0, .ref a), (1, .int x1), (2, .int x2), (3, .ref o)] := hl
  refine lv_aload_n hx hb dL_foresee_0 rfl (lv_at hl 3 rfl) ?_
  refine lv_iconst (v := 0) hx hb dL_foresee_1 rfl ?_
  refine lv_aload_n hx hb dL_foresee_2 rfl (lv_at hl 0 rfl) ?_
  refine lv_iload_n hx hb dL_foresee_3 rfl (lv_at hl 1 rfl) ?_
  refine lv_iload_n hx hb dL_foresee_4 rfl (lv_at hl 2 rfl) ?_
  refine gl_callX F hxK hxZ hG (ci := 6) (k := 0) (As := [.int x1, .int x2]) (rest := [.int 0, .ref o]) hM kY_X6_foresee kV_X6_foresee h0 rfl rfl w4_8 rfl hrm ⟨Nat.le_refl _, Nat.le_refl _⟩ rfl (Nat.le_of_ble_eq_true rfl) hl.1 ⟨Nat.le_refl _, Nat.le_refl _⟩ dL_foresee_5 (fun H locs q ce hG hq hv hcl => ?_)
  refine vx_catch (own := RL) (name := xIA) F.2.2.2.1 [] { startPc := 0, endPc := 10, handlerPc := 13, catchType := 13 } [{ startPc := 0, endPc := 10, handlerPc := 17, catchType := 24 }] (by rw [htab]; rfl) (fun z hz => absurd hz List.not_mem_nil) (by decide) (by decide) (F.2.2.2.2.1 _ w2_43) (cast_at F.2.2.2.2.2.1 wn_55) hq hv hcl ?_
  refine lv_astore (lv' := [(4, .ref q), (0, .ref a), (1, .int x1), (2, .int x2), (3, .ref o)]) hx hb dL_foresee_13 hl (by decide) rfl (fun ls hl => ?_)
  refine lv_iconst (v := 1) hx hb dL_foresee_15 rfl ?_
  exact ge_iret F hG rfl rfl rfl dL_foresee_16
set_option maxRecDepth 100000 in
set_option maxHeartbeats 4000000 in
theorem l_foresee_IO {Z : gZ} {cL : ClassId} {l : Launch} {a o : Nat} {f : Nat → Int64} {ws : va_W} {fs : List Value} {rm : Room} (h0 : ws[0]? = some (a, .inr (6, fs))) (x1 x2 : Int32) (hrm : rm.cells = 1 ∧ rm.slots = 6) (hM : gX Z l yX6_foresee cX6_foresee 4 (some .int) rm (.ref a :: [.int x1, .int x2]) ws xIO 1 6) : gL Z cL l yL_foresee cL_foresee 5 [(0, 10, 13, 13), (0, 10, 17, 24)] ({ frames := rm.frames + 1, cells := 1, slots := 6, locals := 8 + (4 + 11) + rm.locals } : Room) [.ref a, .int x1, .int x2, .ref o] (ws ++ [(o, outE cL f)]) 2 (fun w => w = ws ++ [(o, outE cL f)]) 1 6 := by
  refine gL_of (by decide +kernel) (Nat.le_of_ble_eq_true rfl) ?_
  intro pP eE sS mI aA bB mE cC A F htab hxK hxZ hKL hnC hG ls hl
  have hx := F.1
  have hb := F.2.1
  have hl : lv_has ls 5 [(0, .ref a), (1, .int x1), (2, .int x2), (3, .ref o)] := hl
  refine lv_aload_n hx hb dL_foresee_0 rfl (lv_at hl 3 rfl) ?_
  refine lv_iconst (v := 0) hx hb dL_foresee_1 rfl ?_
  refine lv_aload_n hx hb dL_foresee_2 rfl (lv_at hl 0 rfl) ?_
  refine lv_iload_n hx hb dL_foresee_3 rfl (lv_at hl 1 rfl) ?_
  refine lv_iload_n hx hb dL_foresee_4 rfl (lv_at hl 2 rfl) ?_
  refine gl_callX F hxK hxZ hG (ci := 6) (k := 0) (As := [.int x1, .int x2]) (rest := [.int 0, .ref o]) hM kY_X6_foresee kV_X6_foresee h0 rfl rfl w4_8 rfl hrm ⟨Nat.le_refl _, Nat.le_refl _⟩ rfl (Nat.le_of_ble_eq_true rfl) hl.1 ⟨Nat.le_refl _, Nat.le_refl _⟩ dL_foresee_5 (fun H locs q ce hG hq hv hcl => ?_)
  refine vx_catch (own := RL) (name := xIO) F.2.2.2.1 [{ startPc := 0, endPc := 10, handlerPc := 13, catchType := 13 }] { startPc := 0, endPc := 10, handlerPc := 17, catchType := 24 } [] (by rw [htab]; rfl) (fun z hz => by
    cases List.mem_singleton.mp hz
    exact Or.inr ⟨by decide, xIA, F.2.2.2.2.1 _ w2_43, hnC.2.2.2⟩) (by decide) (by decide) (F.2.2.2.2.1 _ w2_201) (cast_at F.2.2.2.2.2.1 wn_57) hq hv hcl ?_
  refine lv_astore (lv' := [(4, .ref q), (0, .ref a), (1, .int x1), (2, .int x2), (3, .ref o)]) hx hb dL_foresee_17 hl (by decide) rfl (fun ls hl => ?_)
  refine lv_iconst (v := 2) hx hb dL_foresee_19 rfl ?_
  exact ge_iret F hG rfl rfl rfl dL_foresee_20
