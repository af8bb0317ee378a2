/-! mean and digest in the law -/
theorem law_mean {p : Program} {l : Launch} {e : Env} {s : State} {m : MethodId} {below : List Frame} {meth : Method} {c : Code} {H : Heap} {locs : List Loc} {cells slots : Nat} {Q : State → Prop} {Z : gZ} {cL : ClassId} {A : Nat → Prop} {ls : Array Slot} {b : Nat} (F : gF Z p m s #[Value.ref b] meth c cL_law 9 RL ret) {i : Nat} {ax o : Nat} {AR : Nat → Nat} (hl : lv_has ls 9 [(0, .ref b), (1, .ref ax), (2, .ref (AR 0)), (3, .ref o), (4, .int (nI i))]) {ws1 : va_W} {f : Nat → Int64} {N N' : St} {fs : List Value} (h0 : ws1[0]? = some (ax, .inr (6, fs))) (G : gG Z A s ((ws1 ++ [(o, outE cL f)]) ++ wR Z AR N 16) H locs) {rmL rmR : Room} {d : UInt64} (hL : gM Z l yX6_mean cX6_mean 2 (some .double) rmL [.ref ax] ws1 (some (.double d)) ws1 0 0) (hR : gM Z l yX8_mean cX8_mean 4 (some .double) rmR [.ref (AR 0)] (wR Z AR N 16) (some (.double d)) (wR Z AR N' 16) 0 0) (hrL : rmL.cells = 0 ∧ rmL.slots = 0) (hRL : rmL.frames + 1 ≤ room_1.frames ∧ 8 + (2 + 11) + rmL.locals ≤ room_1.locals) (hrR : rmR.cells = 0 ∧ rmR.slots = 0) (hRR : rmR.frames + 1 ≤ room_1.frames ∧ 8 + (4 + 11) + rmR.locals ≤ room_1.locals) (hroom : cells ≤ room_1.cells ∧ slots ≤ room_1.slots) (kk : ∀ (H : Heap) (locs : List Loc) (ls : Array Slot), gG Z A s ((ws1 ++ [(o, outE cL f)]) ++ wR Z AR N' 16) H locs → lv_has ls 9 [(0, .ref b), (1, .ref ax), (2, .ref (AR 0)), (3, .ref o), (4, .int (nI i))] → W p l e room_1 s m #[Value.ref b] below meth c H locs cells slots Q (F0 m 1524 ls [])) : W p l e room_1 s m #[Value.ref b] below meth c H locs cells slots Q (F0 m 1469 ls []) := by
  have hx := F.1
  have hb := F.2.1
  refine lv_aload_n hx hb dL_law_1469 rfl (lv_at hl 1 rfl) ?_
  refine ge_callV F (G.to (List.append_assoc _ _ _)) (ci := 6) (k := 0) (As := []) (rest := []) hL.toE kY_X6_mean kV_X6_mean h0 rfl rfl w1_178 rfl hrL hRL rfl (Nat.le_of_ble_eq_true rfl) hl.1 hroom dL_law_1470 rfl (fun H locs w hw G1 => ?_)
  rw [show w = ws1 from hw] at G1
  refine lv_dstore (lv' := [(5, .double d), (0, .ref b), (1, .ref ax), (2, .ref (AR 0)), (3, .ref o), (4, .int (nI i))]) hx hb dL_law_1473 hl (by decide) rfl (fun ls hl => ?_)
  refine lv_aload_n hx hb dL_law_1475 rfl (lv_at hl 3 rfl) ?_
  refine ge_callV F (G1.to (List.append_assoc _ _ _).symm).comm (ci := 8) (k := 0) (As := []) (rest := []) hR.toE kY_X8_mean kV_X8_mean (gR_model (Nat.le_refl 16)) rfl rfl w5_57 rfl hrR hRR rfl (Nat.le_of_ble_eq_true rfl) hl.1 hroom dL_law_1476 rfl (fun H locs w hw G => ?_)
  subst hw
  refine lv_dstore (lv' := [(7, .double d), (5, .double d), (0, .ref b), (1, .ref ax), (2, .ref (AR 0)), (3, .ref o), (4, .int (nI i))]) hx hb dL_law_1479 hl (by decide) rfl (fun ls hl => ?_)
  have fin : W p l e room_1 s m #[Value.ref b] below meth c H locs cells slots Q (F0 m 1507 ls []) := by
    refine lv_goto (tgt := 1524) hx hb dL_law_1507 (by decide) ?_
    exact kk H locs ls G.comm (lv_sub hl [2, 3, 4, 5, 6] rfl)
  refine lv_dload hx hb dL_law_1481 (lv_at hl 1 rfl) ?_
  refine lv_dload hx hb dL_law_1483 (lv_at hl 0 rfl) ?_
  refine lv_dcmp hx hb dL_law_1485 ?_
  refine lv_if_eq (tgt := 1507) hx hb dL_law_1486 (by decide) (fun _ => fin) (fun hc => ?_)
  refine lv_dload hx hb dL_law_1489 (lv_at hl 1 rfl) ?_
  refine lv_dload hx hb dL_law_1491 (lv_at hl 1 rfl) ?_
  refine lv_dcmp hx hb dL_law_1493 ?_
  refine lv_if_eq (tgt := 1505) hx hb dL_law_1494 (by decide) (fun h => absurd h hc) (fun _ => ?_)
  refine lv_dload hx hb dL_law_1497 (lv_at hl 0 rfl) ?_
  refine lv_dload hx hb dL_law_1499 (lv_at hl 0 rfl) ?_
  refine lv_dcmp hx hb dL_law_1501 ?_
  exact lv_if_ne (tgt := 1507) hx hb dL_law_1502 (by decide) (fun _ => fin) (fun h => absurd h hc)
theorem law_digest {p : Program} {l : Launch} {e : Env} {s : State} {m : MethodId} {below : List Frame} {meth : Method} {c : Code} {H : Heap} {locs : List Loc} {cells slots : Nat} {Q : State → Prop} {Z : gZ} {cL : ClassId} {A : Nat → Prop} {ls : Array Slot} {b : Nat} (F : gF Z p m s #[Value.ref b] meth c cL_law 9 RL ret) {i : Nat} {ax o : Nat} {AR : Nat → Nat} (hl : lv_has ls 9 [(0, .ref b), (1, .ref ax), (2, .ref (AR 0)), (3, .ref o), (4, .int (nI i))]) {ws1 : va_W} {f : Nat → Int64} {N N' : St} {fs : List Value} (h0 : ws1[0]? = some (ax, .inr (6, fs))) (G : gG Z A s ((ws1 ++ [(o, outE cL f)]) ++ wR Z AR N 16) H locs) {rmL rmR : Room} {d : Int64} (hL : gM Z l yX6_digest cX6_digest 1 (some .long) rmL [.ref ax] ws1 (some (.long d)) ws1 0 0) (hR : gM Z l yX8_digest cX8_digest 5 (some .long) rmR [.ref (AR 0)] (wR Z AR N 16) (some (.long d)) (wR Z AR N' 16) 0 0) (hrL : rmL.cells = 0 ∧ rmL.slots = 0) (hRL : rmL.frames + 1 ≤ room_1.frames ∧ 8 + (1 + 11) + rmL.locals ≤ room_1.locals) (hrR : rmR.cells = 0 ∧ rmR.slots = 0) (hRR : rmR.frames + 1 ≤ room_1.frames ∧ 8 + (5 + 11) + rmR.locals ≤ room_1.locals) (hroom : cells ≤ room_1.cells ∧ slots ≤ room_1.slots) (kk : ∀ (H : Heap) (locs : List Loc) (ls : Array Slot), gG Z A s ((ws1 ++ [(o, outE cL f)]) ++ wR Z AR N' 16) H locs → lv_has ls 9 [(0, .ref b), (1, .ref ax), (2, .ref (AR 0)), (3, .ref o), (4, .int (nI i))] → W p l e room_1 s m #[Value.ref b] below meth c H locs cells slots Q (F0 m 1524 ls [])) : W p l e room_1 s m #[Value.ref b] below meth c H locs cells slots Q (F0 m 1510 ls []) := by
  have hx := F.1
  have hb := F.2.1
  refine lv_aload_n hx hb dL_law_1510 rfl (lv_at hl 1 rfl) ?_
  refine ge_callV F (G.to (List.append_assoc _ _ _)) (ci := 6) (k := 0) (As := []) (rest := []) hL.toE kY_X6_digest kV_X6_digest h0 rfl rfl w1_206 rfl hrL hRL rfl (Nat.le_of_ble_eq_true rfl) hl.1 hroom dL_law_1511 rfl (fun H locs w hw G1 => ?_)
  rw [show w = ws1 from hw] at G1
  refine lv_aload_n hx hb dL_law_1514 rfl (lv_at hl 2 rfl) ?_
  refine ge_callV F (G1.to (List.append_assoc _ _ _).symm).comm (ci := 8) (k := 0) (As := []) (rest := [.long d]) hR.toE kY_X8_digest kV_X8_digest (gR_model (Nat.le_refl 16)) rfl rfl w5_61 rfl hrR hRR rfl (Nat.le_of_ble_eq_true rfl) hl.1 hroom dL_law_1515 rfl (fun H locs w hw G => ?_)
  subst hw
  refine W.lcmp hx hb dL_law_1518 ?_
  rw [cmp_self]
  exact lv_if_eq (tgt := 1524) hx hb dL_law_1519 (by decide) (fun _ => kk H locs ls G.comm hl) (fun h => absurd rfl h)
