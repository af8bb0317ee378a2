/-! constructors -/
theorem max0 {n : Nat} (h : n < 2147483648) : (if 0 < nI n then nI n else 0) = nI n := by
  rcases Nat.eq_zero_or_pos n with h0 | h0
  · subst h0; rfl
  · exact if_pos (nI_lt (a := 0) h0 (by omega))
set_option maxRecDepth 100000 in
set_option maxHeartbeats 4000000 in
theorem c_X1_init (Z : gZ) (l : Launch) (a : Nat) : gE Z l yX1_init cX1_init 1 none ({ frames := 1, cells := 0, slots := 0, locals := 20 } : Room) [.ref a] [(a, .inr (1, [.int 0, .int 0, .int 0, .int 0, .int 0, .int 0]))] none (fun w => w = [(a, .inr (1, [.int 0, .int 0, .int 0, .int 0, .int 0, .int 0]))]) 0 0 := by
  refine gE_of (by decide +kernel) (Nat.le_of_ble_eq_true rfl) ?_
  intro pP eE sS mI aA bB mE cC A F hname hG ls hl
  have hx := F.1
  have hb := F.2.1
  have hl : lv_has ls 1 [(0, .ref a)] := hl
  refine lv_aload_n hx hb dX1_init_0 rfl (lv_at hl 0 rfl) ?_
  refine W.objInit hx hb F.2.2.2.1 (F.2.2.2.2.1 _ w1_47) (F.2.2.2.2.1 _ w1_25) (F.2.2.2.2.1 _ w1_26) rfl (by rw [F.2.2.1]; exact hl.1) rfl dX1_init_1 (Nat.le_of_ble_eq_true rfl) (Nat.le_of_ble_eq_true rfl) ?_
  refine W.eq (g2 := F0 mI 4 ls []) rfl ?_
  exact ge_vret F hG rfl dX1_init_4
set_option maxRecDepth 100000 in
set_option maxHeartbeats 4000000 in
theorem c_X2_init (Z : gZ) (l : Launch) (a : Nat) : gE Z l yX2_init cX2_init 1 none ({ frames := 1, cells := 0, slots := 0, locals := 20 } : Room) [.ref a] [(a, .inr (2, [.int 0, .int 0, .int 0, .int 0]))] none (fun w => w = [(a, .inr (2, [.int 0, .int 0, .int 0, .int 0]))]) 0 0 := by
  refine gE_of (by decide +kernel) (Nat.le_of_ble_eq_true rfl) ?_
  intro pP eE sS mI aA bB mE cC A F hname hG ls hl
  have hx := F.1
  have hb := F.2.1
  have hl : lv_has ls 1 [(0, .ref a)] := hl
  refine lv_aload_n hx hb dX2_init_0 rfl (lv_at hl 0 rfl) ?_
  refine W.objInit hx hb F.2.2.2.1 (F.2.2.2.2.1 _ w1_125) (F.2.2.2.2.1 _ w1_25) (F.2.2.2.2.1 _ w1_26) rfl (by rw [F.2.2.1]; exact hl.1) rfl dX2_init_1 (Nat.le_of_ble_eq_true rfl) (Nat.le_of_ble_eq_true rfl) ?_
  refine W.eq (g2 := F0 mI 4 ls []) rfl ?_
  exact ge_vret F hG rfl dX2_init_4
set_option maxRecDepth 100000 in
set_option maxHeartbeats 4000000 in
theorem c_X5_init (Z : gZ) (l : Launch) (a r q : Nat) (hrq : r * q ≤ 160) : gE Z l yX5_init cX5_init 3 none ({ frames := 1, cells := 1, slots := (r * q), locals := 24 } : Room) [.ref a, .int (nI r), .int (nI q)] [(a, .inr (5, [.int 0, .null, .int 0]))] none (fun w => ∃ q1 : Nat, w = [(a, .inr (5, [.int (nI q), .ref q1, .int 0])), (q1, .inl (Z.2.1, (r * q), .inl (fun _ => 0)))]) 1 (r * q) := by
  refine gE_of (by decide +kernel) (Nat.le_of_ble_eq_true rfl) ?_
  intro pP eE sS mI aA bB mE cC A F hname hG ls hl
  have hx := F.1
  have hb := F.2.1
  have hl : lv_has ls 3 [(0, .ref a), (1, .int (nI r)), (2, .int (nI q))] := hl
  refine lv_aload_n hx hb dX5_init_0 rfl (lv_at hl 0 rfl) ?_
  refine W.objInit hx hb F.2.2.2.1 (F.2.2.2.2.1 _ w1_83) (F.2.2.2.2.1 _ w1_25) (F.2.2.2.2.1 _ w1_26) rfl (by rw [F.2.2.1]; exact hl.1) rfl dX5_init_1 (Nat.le_of_ble_eq_true rfl) (Nat.le_of_ble_eq_true rfl) ?_
  refine W.eq (g2 := F0 mI 4 ls []) rfl ?_
  refine lv_aload_n hx hb dX5_init_4 rfl (lv_at hl 0 rfl) ?_
  refine lv_iload_n hx hb dX5_init_5 rfl (lv_at hl 2 rfl) ?_
  refine gg_putF (ws' := [(a, .inr (5, [.int (nI q), .null, .int 0]))]) F hG (ci := 5) (q0 := 0) 0 gcX5 rfl rfl (by decide) w1_87 rfl (hname.trans rfl) rfl rfl rfl (Nat.le_of_ble_eq_true rfl) rfl dX5_init_6 (fun H locs hG => ?_)
  refine lv_aload_n hx hb dX5_init_9 rfl (lv_at hl 0 rfl) ?_
  refine lv_iconst (v := 0) hx hb dX5_init_10 (by decide) ?_
  refine lv_iload_n hx hb dX5_init_11 rfl (lv_at hl 1 rfl) ?_
  refine lv_iload_n hx hb dX5_init_12 rfl (lv_at hl 2 rfl) ?_
  refine lv_imul hx hb dX5_init_13 ?_
  rw [show ((nI r) * (nI q) : Int32) = nI (r * q) from pk_mul r q]
  refine gg_max F hl.1 w1_84 (Nat.le_of_ble_eq_true rfl) (Nat.le_of_ble_eq_true rfl) (by omega) (by omega) dX5_init_14 ?_
  rw [show (if 0 < nI (r * q) then nI (r * q) else 0 : Int32) = nI (r * q) from max0 (by omega)]
  refine gg_newI (N := (r * q)) F hG (nI_pos (by omega)) (nI_clamp (by omega)) (by omega) (Nat.le_of_ble_eq_true rfl) (by show 0 + r * q ≤ r * q; omega) dX5_init_17 (fun q1 H hG => ?_)
  have hG : gG Z A sS [(a, .inr (5, [.int (nI q), .null, .int 0])), (q1, .inl (Z.2.1, (r * q), .inl (fun _ => 0)))] _ _ := hG
  refine gg_putF (ws' := [(a, .inr (5, [.int (nI q), .ref q1, .int 0])), (q1, .inl (Z.2.1, (r * q), .inl (fun _ => 0)))]) F hG (ci := 5) (q0 := 0) 1 gcX5 rfl rfl (by decide) w1_89 rfl (hname.trans rfl) rfl rfl rfl (Nat.le_of_ble_eq_true rfl) rfl dX5_init_19 (fun H locs hG => ?_)
  rw [Nat.zero_add (r * q)]
  exact ge_vret F hG ⟨q1, rfl⟩ dX5_init_22
set_option maxRecDepth 100000 in
set_option maxHeartbeats 4000000 in
theorem c_X3_init (Z : gZ) (l : Launch) (a : Nat) : gE Z l yX3_init cX3_init 1 none ({ frames := 2, cells := 3, slots := 169, locals := 46 } : Room) [.ref a] [(a, .inr (3, [.null, .null, .int 0]))] none (fun w => ∃ q1 q2 q3 : Nat, w = [(q2, .inr (5, [.int 4, .ref q3, .int 0])), (q3, .inl (Z.2.1, 160, .inl (fun _ => 0))), (q1, .inr (1, [.int 0, .int 0, .int 0, .int 0, .int 0, .int 0])), (a, .inr (3, [.ref q1, .ref q2, .int 0]))]) 3 169 := by
  refine gE_of (by decide +kernel) (Nat.le_of_ble_eq_true rfl) ?_
  intro pP eE sS mI aA bB mE cC A F hname hG ls hl
  have hx := F.1
  have hb := F.2.1
  have hl : lv_has ls 1 [(0, .ref a)] := hl
  refine lv_aload_n hx hb dX3_init_0 rfl (lv_at hl 0 rfl) ?_
  refine W.objInit hx hb F.2.2.2.1 (F.2.2.2.2.1 _ w1_41) (F.2.2.2.2.1 _ w1_25) (F.2.2.2.2.1 _ w1_26) rfl (by rw [F.2.2.1]; exact hl.1) rfl dX3_init_1 (Nat.le_of_ble_eq_true rfl) (Nat.le_of_ble_eq_true rfl) ?_
  refine W.eq (g2 := F0 mI 4 ls []) rfl ?_
  refine lv_aload_n hx hb dX3_init_4 rfl (lv_at hl 0 rfl) ?_
  refine gg_new (ci := 1) (fs := [.int 0, .int 0, .int 0, .int 0, .int 0, .int 0]) F hG gcX1 w1_42 w1_43 w1_4 rfl (fun j hj => match j, hj with | 0, _ => rfl | 1, _ => rfl | 2, _ => rfl | 3, _ => rfl | 4, _ => rfl | 5, _ => rfl | j + 6, h => absurd h (by omega)) (by decide) (Nat.le_of_ble_eq_true rfl) dX3_init_5 (fun q1 H hG => ?_)
  have hG : gG Z A sS [(a, .inr (3, [.null, .null, .int 0])), (q1, .inr (1, [.int 0, .int 0, .int 0, .int 0, .int 0, .int 0]))] _ _ := hG
  refine lv_dup hx hb dX3_init_8 rfl ?_
  have hG : gG Z A sS ([(q1, .inr (1, [.int 0, .int 0, .int 0, .int 0, .int 0, .int 0]))] ++ [(a, .inr (3, [.null, .null, .int 0]))]) _ _ := gG.comm (show gG Z A sS ([(a, .inr (3, [.null, .null, .int 0]))] ++ [(q1, .inr (1, [.int 0, .int 0, .int 0, .int 0, .int 0, .int 0]))]) _ _ from hG)
  refine ge_callIN F hG (As := []) (rest := [.ref q1, .ref a]) (c_X1_init Z l q1) kY_X1_init kV_X1_init wn_0 rfl ⟨rfl, rfl⟩ ⟨(Nat.le_of_ble_eq_true rfl), (Nat.le_of_ble_eq_true rfl)⟩ rfl (Nat.le_of_ble_eq_true rfl) hl.1 ⟨(Nat.le_of_ble_eq_true rfl), (Nat.le_of_ble_eq_true rfl)⟩ dX3_init_9 rfl (fun H locs ws' hw hG => ?_)
  obtain ⟨rfl⟩ := hw
  have hG : gG Z A sS [(q1, .inr (1, [.int 0, .int 0, .int 0, .int 0, .int 0, .int 0])), (a, .inr (3, [.null, .null, .int 0]))] _ _ := hG
  refine gg_putF (ws' := [(q1, .inr (1, [.int 0, .int 0, .int 0, .int 0, .int 0, .int 0])), (a, .inr (3, [.ref q1, .null, .int 0]))]) F hG (ci := 3) (q0 := 1) 0 gcX3 rfl rfl (by decide) w1_102 rfl (hname.trans rfl) rfl rfl rfl (Nat.le_of_ble_eq_true rfl) rfl dX3_init_12 (fun H locs hG => ?_)
  refine lv_aload_n hx hb dX3_init_15 rfl (lv_at hl 0 rfl) ?_
  refine gg_new (ci := 5) (fs := [.int 0, .null, .int 0]) F hG gcX5 w1_78 w1_79 w1_5 rfl (fun j hj => match j, hj with | 0, _ => rfl | 1, _ => rfl | 2, _ => rfl | j + 3, h => absurd h (by omega)) (by decide) (Nat.le_of_ble_eq_true rfl) dX3_init_16 (fun q2 H hG => ?_)
  have hG : gG Z A sS [(q1, .inr (1, [.int 0, .int 0, .int 0, .int 0, .int 0, .int 0])), (a, .inr (3, [.ref q1, .null, .int 0])), (q2, .inr (5, [.int 0, .null, .int 0]))] _ _ := hG
  refine lv_dup hx hb dX3_init_19 rfl ?_
  refine lv_bipush (v := 40) hx hb dX3_init_20 (by decide) ?_
  refine lv_iconst (v := 4) hx hb dX3_init_22 (by decide) ?_
  have hG : gG Z A sS ([(q2, .inr (5, [.int 0, .null, .int 0]))] ++ [(q1, .inr (1, [.int 0, .int 0, .int 0, .int 0, .int 0, .int 0])), (a, .inr (3, [.ref q1, .null, .int 0]))]) _ _ := gG.comm (show gG Z A sS ([(q1, .inr (1, [.int 0, .int 0, .int 0, .int 0, .int 0, .int 0])), (a, .inr (3, [.ref q1, .null, .int 0]))] ++ [(q2, .inr (5, [.int 0, .null, .int 0]))]) _ _ from hG)
  refine ge_callI F hG (As := [.int 40, .int 4]) (rest := [.ref q2, .ref a]) (c_X5_init Z l q2 40 4 (by decide)) kY_X5_init kV_X5_init w1_80 rfl ⟨rfl, rfl⟩ ⟨(Nat.le_of_ble_eq_true rfl), (Nat.le_of_ble_eq_true rfl)⟩ rfl (Nat.le_of_ble_eq_true rfl) hl.1 ⟨(Nat.le_of_ble_eq_true rfl), (Nat.le_of_ble_eq_true rfl)⟩ dX3_init_23 rfl (fun H locs ws' hw hG => ?_)
  obtain ⟨q3, rfl⟩ := hw
  have hG : gG Z A sS [(q2, .inr (5, [.int 4, .ref q3, .int 0])), (q3, .inl (Z.2.1, 160, .inl (fun _ => 0))), (q1, .inr (1, [.int 0, .int 0, .int 0, .int 0, .int 0, .int 0])), (a, .inr (3, [.ref q1, .null, .int 0]))] _ _ := hG
  refine gg_putF (ws' := [(q2, .inr (5, [.int 4, .ref q3, .int 0])), (q3, .inl (Z.2.1, 160, .inl (fun _ => 0))), (q1, .inr (1, [.int 0, .int 0, .int 0, .int 0, .int 0, .int 0])), (a, .inr (3, [.ref q1, .ref q2, .int 0]))]) F hG (ci := 3) (q0 := 3) 1 gcX3 rfl rfl (by decide) w1_105 rfl (hname.trans rfl) rfl rfl rfl (Nat.le_of_ble_eq_true rfl) rfl dX3_init_26 (fun H locs hG => ?_)
  exact ge_vret F hG ⟨q1, q2, q3, rfl⟩ dX3_init_29
set_option maxRecDepth 100000 in
set_option maxHeartbeats 4000000 in
theorem c_X4_init (Z : gZ) (l : Launch) (a : Nat) (x0 x1 x2 x3 x4 x5 : Int32) : gE Z l yX4_init cX4_init 7 none ({ frames := 1, cells := 0, slots := 0, locals := 20 } : Room) [.ref a, .int x0, .int x1, .int x2, .int x3, .int x4, .int x5] [(a, .inr (4, [.int 0, .int 0, .int 0, .int 0, .int 0, .int 0]))] none (fun w => w = [(a, .inr (4, [.int x0, .int x1, .int x2, .int x3, .int x4, .int x5]))]) 0 0 := by
  refine gE_of (by decide +kernel) (Nat.le_of_ble_eq_true rfl) ?_
  intro pP eE sS mI aA bB mE cC A F hname hG ls hl
  have hx := F.1
  have hb := F.2.1
  have hl : lv_has ls 7 [(0, .ref a), (1, .int x0), (2, .int x1), (3, .int x2), (4, .int x3), (5, .int x4), (6, .int x5)] := hl
  refine lv_aload_n hx hb dX4_init_0 rfl (lv_at hl 0 rfl) ?_
  refine W.objInit hx hb F.2.2.2.1 (F.2.2.2.2.1 _ w2_142) (F.2.2.2.2.1 _ w1_25) (F.2.2.2.2.1 _ w1_26) rfl (by rw [F.2.2.1]; exact hl.1) rfl dX4_init_1 (Nat.le_of_ble_eq_true rfl) (Nat.le_of_ble_eq_true rfl) ?_
  refine W.eq (g2 := F0 mI 4 ls []) rfl ?_
  refine lv_aload_n hx hb dX4_init_4 rfl (lv_at hl 0 rfl) ?_
  refine lv_iload_n hx hb dX4_init_5 rfl (lv_at hl 1 rfl) ?_
  refine gg_putF (ws' := [(a, .inr (4, [.int x0, .int 0, .int 0, .int 0, .int 0, .int 0]))]) F hG (ci := 4) (q0 := 0) 0 gcX4 rfl rfl (by decide) w2_143 rfl (hname.trans rfl) rfl rfl rfl (Nat.le_of_ble_eq_true rfl) rfl dX4_init_6 (fun H locs hG => ?_)
  refine lv_aload_n hx hb dX4_init_9 rfl (lv_at hl 0 rfl) ?_
  refine lv_iload_n hx hb dX4_init_10 rfl (lv_at hl 2 rfl) ?_
  refine gg_putF (ws' := [(a, .inr (4, [.int x0, .int x1, .int 0, .int 0, .int 0, .int 0]))]) F hG (ci := 4) (q0 := 0) 1 gcX4 rfl rfl (by decide) w2_146 rfl (hname.trans rfl) rfl rfl rfl (Nat.le_of_ble_eq_true rfl) rfl dX4_init_11 (fun H locs hG => ?_)
  refine lv_aload_n hx hb dX4_init_14 rfl (lv_at hl 0 rfl) ?_
  refine lv_iload_n hx hb dX4_init_15 rfl (lv_at hl 3 rfl) ?_
  refine gg_putF (ws' := [(a, .inr (4, [.int x0, .int x1, .int x2, .int 0, .int 0, .int 0]))]) F hG (ci := 4) (q0 := 0) 2 gcX4 rfl rfl (by decide) w2_149 rfl (hname.trans rfl) rfl rfl rfl (Nat.le_of_ble_eq_true rfl) rfl dX4_init_16 (fun H locs hG => ?_)
  refine lv_aload_n hx hb dX4_init_19 rfl (lv_at hl 0 rfl) ?_
  refine lv_iload hx hb dX4_init_20 (lv_at hl 4 rfl) ?_
  refine gg_putF (ws' := [(a, .inr (4, [.int x0, .int x1, .int x2, .int x3, .int 0, .int 0]))]) F hG (ci := 4) (q0 := 0) 3 gcX4 rfl rfl (by decide) w2_152 rfl (hname.trans rfl) rfl rfl rfl (Nat.le_of_ble_eq_true rfl) rfl dX4_init_22 (fun H locs hG => ?_)
  refine lv_aload_n hx hb dX4_init_25 rfl (lv_at hl 0 rfl) ?_
  refine lv_iload hx hb dX4_init_26 (lv_at hl 5 rfl) ?_
  refine gg_putF (ws' := [(a, .inr (4, [.int x0, .int x1, .int x2, .int x3, .int x4, .int 0]))]) F hG (ci := 4) (q0 := 0) 4 gcX4 rfl rfl (by decide) w2_153 rfl (hname.trans rfl) rfl rfl rfl (Nat.le_of_ble_eq_true rfl) rfl dX4_init_28 (fun H locs hG => ?_)
  refine lv_aload_n hx hb dX4_init_31 rfl (lv_at hl 0 rfl) ?_
  refine lv_iload hx hb dX4_init_32 (lv_at hl 6 rfl) ?_
  refine gg_putF (ws' := [(a, .inr (4, [.int x0, .int x1, .int x2, .int x3, .int x4, .int x5]))]) F hG (ci := 4) (q0 := 0) 5 gcX4 rfl rfl (by decide) w2_154 rfl (hname.trans rfl) rfl rfl rfl (Nat.le_of_ble_eq_true rfl) rfl dX4_init_34 (fun H locs hG => ?_)
  exact ge_vret F hG rfl dX4_init_37
set_option maxRecDepth 100000 in
set_option maxHeartbeats 4000000 in
theorem c_X7_init (Z : gZ) (l : Launch) (a b : Nat) : gE Z l yX7_init cX7_init 2 none ({ frames := 1, cells := 4, slots := 1356, locals := 20 } : Room) [.ref a, .ref b] [(a, .inr (7, [.int 0, .int 0, .int 0, .int 0, .null, .null, .null, .null, .null]))] none (fun w => ∃ q1 q2 q3 q4 : Nat, w = [(a, .inr (7, [.int 0, .int 0, .int 0, .int 0, .ref q1, .ref q2, .ref q3, .ref q4, .ref b])), (q1, .inl (Z.2.1, 8, .inl (fun _ => 0))), (q2, .inl (Z.2.1, 8, .inl (fun _ => 0))), (q3, .inl (Z.2.1, 1280, .inl (fun _ => 0))), (q4, .inl (Z.2.1, 60, .inl (fun _ => 0)))]) 4 1356 := by
  refine gE_of (by decide +kernel) (Nat.le_of_ble_eq_true rfl) ?_
  intro pP eE sS mI aA bB mE cC A F hname hG ls hl
  have hx := F.1
  have hb := F.2.1
  have hl : lv_has ls 2 [(0, .ref a), (1, .ref b)] := hl
  refine lv_aload_n hx hb dX7_init_0 rfl (lv_at hl 0 rfl) ?_
  refine lv_aload_n hx hb dX7_init_1 rfl (lv_at hl 1 rfl) ?_
  refine gg_putF (ws' := [(a, .inr (7, [.int 0, .int 0, .int 0, .int 0, .null, .null, .null, .null, .ref b]))]) F hG (ci := 7) (q0 := 0) 8 gcX7 rfl rfl (by decide) w4_55 rfl (hname.trans rfl) rfl rfl rfl (Nat.le_of_ble_eq_true rfl) rfl dX7_init_2 (fun H locs hG => ?_)
  refine lv_aload_n hx hb dX7_init_5 rfl (lv_at hl 0 rfl) ?_
  refine W.objInit hx hb F.2.2.2.1 (F.2.2.2.2.1 _ w4_38) (F.2.2.2.2.1 _ w1_25) (F.2.2.2.2.1 _ w1_26) rfl (by rw [F.2.2.1]; exact hl.1) rfl dX7_init_6 (Nat.le_of_ble_eq_true rfl) (Nat.le_of_ble_eq_true rfl) ?_
  refine W.eq (g2 := F0 mI 9 ls []) rfl ?_
  refine lv_aload_n hx hb dX7_init_9 rfl (lv_at hl 0 rfl) ?_
  refine lv_bipush (v := 8) hx hb dX7_init_10 (by decide) ?_
  refine gg_newI (N := 8) F hG (by decide) (by decide) (Nat.le_of_ble_eq_true rfl) (by decide) (Nat.le_of_ble_eq_true rfl) dX7_init_12 (fun q1 H hG => ?_)
  have hG : gG Z A sS [(a, .inr (7, [.int 0, .int 0, .int 0, .int 0, .null, .null, .null, .null, .ref b])), (q1, .inl (Z.2.1, 8, .inl (fun _ => 0)))] _ _ := hG
  refine gg_putF (ws' := [(a, .inr (7, [.int 0, .int 0, .int 0, .int 0, .ref q1, .null, .null, .null, .ref b])), (q1, .inl (Z.2.1, 8, .inl (fun _ => 0)))]) F hG (ci := 7) (q0 := 0) 4 gcX7 rfl rfl (by decide) w4_47 rfl (hname.trans rfl) rfl rfl rfl (Nat.le_of_ble_eq_true rfl) rfl dX7_init_14 (fun H locs hG => ?_)
  refine lv_aload_n hx hb dX7_init_17 rfl (lv_at hl 0 rfl) ?_
  refine lv_bipush (v := 8) hx hb dX7_init_18 (by decide) ?_
  refine gg_newI (N := 8) F hG (by decide) (by decide) (Nat.le_of_ble_eq_true rfl) (by decide) (Nat.le_of_ble_eq_true rfl) dX7_init_20 (fun q2 H hG => ?_)
  have hG : gG Z A sS [(a, .inr (7, [.int 0, .int 0, .int 0, .int 0, .ref q1, .null, .null, .null, .ref b])), (q1, .inl (Z.2.1, 8, .inl (fun _ => 0))), (q2, .inl (Z.2.1, 8, .inl (fun _ => 0)))] _ _ := hG
  refine gg_putF (ws' := [(a, .inr (7, [.int 0, .int 0, .int 0, .int 0, .ref q1, .ref q2, .null, .null, .ref b])), (q1, .inl (Z.2.1, 8, .inl (fun _ => 0))), (q2, .inl (Z.2.1, 8, .inl (fun _ => 0)))]) F hG (ci := 7) (q0 := 0) 5 gcX7 rfl rfl (by decide) w4_49 rfl (hname.trans rfl) rfl rfl rfl (Nat.le_of_ble_eq_true rfl) rfl dX7_init_22 (fun H locs hG => ?_)
  refine lv_aload_n hx hb dX7_init_25 rfl (lv_at hl 0 rfl) ?_
  refine lv_sipush (v := 1280) hx hb dX7_init_26 (by decide) ?_
  refine gg_newI (N := 1280) F hG (by decide) (by decide) (Nat.le_of_ble_eq_true rfl) (by decide) (Nat.le_of_ble_eq_true rfl) dX7_init_29 (fun q3 H hG => ?_)
  have hG : gG Z A sS [(a, .inr (7, [.int 0, .int 0, .int 0, .int 0, .ref q1, .ref q2, .null, .null, .ref b])), (q1, .inl (Z.2.1, 8, .inl (fun _ => 0))), (q2, .inl (Z.2.1, 8, .inl (fun _ => 0))), (q3, .inl (Z.2.1, 1280, .inl (fun _ => 0)))] _ _ := hG
  refine gg_putF (ws' := [(a, .inr (7, [.int 0, .int 0, .int 0, .int 0, .ref q1, .ref q2, .ref q3, .null, .ref b])), (q1, .inl (Z.2.1, 8, .inl (fun _ => 0))), (q2, .inl (Z.2.1, 8, .inl (fun _ => 0))), (q3, .inl (Z.2.1, 1280, .inl (fun _ => 0)))]) F hG (ci := 7) (q0 := 0) 6 gcX7 rfl rfl (by decide) w4_51 rfl (hname.trans rfl) rfl rfl rfl (Nat.le_of_ble_eq_true rfl) rfl dX7_init_31 (fun H locs hG => ?_)
  refine lv_aload_n hx hb dX7_init_34 rfl (lv_at hl 0 rfl) ?_
  refine lv_bipush (v := 60) hx hb dX7_init_35 (by decide) ?_
  refine gg_newI (N := 60) F hG (by decide) (by decide) (Nat.le_of_ble_eq_true rfl) (by decide) (Nat.le_of_ble_eq_true rfl) dX7_init_37 (fun q4 H hG => ?_)
  have hG : gG Z A sS [(a, .inr (7, [.int 0, .int 0, .int 0, .int 0, .ref q1, .ref q2, .ref q3, .null, .ref b])), (q1, .inl (Z.2.1, 8, .inl (fun _ => 0))), (q2, .inl (Z.2.1, 8, .inl (fun _ => 0))), (q3, .inl (Z.2.1, 1280, .inl (fun _ => 0))), (q4, .inl (Z.2.1, 60, .inl (fun _ => 0)))] _ _ := hG
  refine gg_putF (ws' := [(a, .inr (7, [.int 0, .int 0, .int 0, .int 0, .ref q1, .ref q2, .ref q3, .ref q4, .ref b])), (q1, .inl (Z.2.1, 8, .inl (fun _ => 0))), (q2, .inl (Z.2.1, 8, .inl (fun _ => 0))), (q3, .inl (Z.2.1, 1280, .inl (fun _ => 0))), (q4, .inl (Z.2.1, 60, .inl (fun _ => 0)))]) F hG (ci := 7) (q0 := 0) 7 gcX7 rfl rfl (by decide) w4_53 rfl (hname.trans rfl) rfl rfl rfl (Nat.le_of_ble_eq_true rfl) rfl dX7_init_39 (fun H locs hG => ?_)
  exact ge_vret F hG ⟨q1, q2, q3, q4, rfl⟩ dX7_init_42
set_option maxRecDepth 100000 in
set_option maxHeartbeats 4000000 in
theorem c_X8_init (Z : gZ) (l : Launch) (a : Nat) : gE Z l yX8_init cX8_init 1 none ({ frames := 2, cells := 15, slots := 2834, locals := 41 } : Room) [.ref a] [(a, .inr (8, [.int 0, .int 0, .int 0, .null, .null, .null, .null, .null, .null, .null]))] none (fun w => ∃ q1 q2 q3 q4 q5 q6 q7 q8 q9 q10 q11 q12 q13 q14 q15 : Nat, w = [(q11, .inr (7, [.int 0, .int 0, .int 0, .int 0, .ref q12, .ref q13, .ref q14, .ref q15, .ref a])), (q12, .inl (Z.2.1, 8, .inl (fun _ => 0))), (q13, .inl (Z.2.1, 8, .inl (fun _ => 0))), (q14, .inl (Z.2.1, 1280, .inl (fun _ => 0))), (q15, .inl (Z.2.1, 60, .inl (fun _ => 0))), (q6, .inr (7, [.int 0, .int 0, .int 0, .int 0, .ref q7, .ref q8, .ref q9, .ref q10, .ref a])), (q7, .inl (Z.2.1, 8, .inl (fun _ => 0))), (q8, .inl (Z.2.1, 8, .inl (fun _ => 0))), (q9, .inl (Z.2.1, 1280, .inl (fun _ => 0))), (q10, .inl (Z.2.1, 60, .inl (fun _ => 0))), (a, .inr (8, [.int 0, .int 0, .int 0, .ref q1, .ref q2, .ref q3, .ref q4, .ref q5, .ref q6, .ref q11])), (q1, .inl (Z.2.1, 72, .inl (fun _ => 0))), (q2, .inl (Z.2.1, 8, .inl (fun _ => 0))), (q3, .inl (Z.2.1, 8, .inl (fun _ => 0))), (q4, .inl (Z.2.1, 8, .inl (fun _ => 0))), (q5, .inl (Z.2.1, 8, .inl (fun _ => 0)))]) 15 2834 := by
  refine gE_of (by decide +kernel) (Nat.le_of_ble_eq_true rfl) ?_
  intro pP eE sS mI aA bB mE cC A F hname hG ls hl
  have hx := F.1
  have hb := F.2.1
  have hl : lv_has ls 1 [(0, .ref a)] := hl
  refine lv_aload_n hx hb dX8_init_0 rfl (lv_at hl 0 rfl) ?_
  refine W.objInit hx hb F.2.2.2.1 (F.2.2.2.2.1 _ w4_32) (F.2.2.2.2.1 _ w1_25) (F.2.2.2.2.1 _ w1_26) rfl (by rw [F.2.2.1]; exact hl.1) rfl dX8_init_1 (Nat.le_of_ble_eq_true rfl) (Nat.le_of_ble_eq_true rfl) ?_
  refine W.eq (g2 := F0 mI 4 ls []) rfl ?_
  refine lv_aload_n hx hb dX8_init_4 rfl (lv_at hl 0 rfl) ?_
  refine lv_bipush (v := 72) hx hb dX8_init_5 (by decide) ?_
  refine gg_newI (N := 72) F hG (by decide) (by decide) (Nat.le_of_ble_eq_true rfl) (by decide) (Nat.le_of_ble_eq_true rfl) dX8_init_7 (fun q1 H hG => ?_)
  have hG : gG Z A sS [(a, .inr (8, [.int 0, .int 0, .int 0, .null, .null, .null, .null, .null, .null, .null])), (q1, .inl (Z.2.1, 72, .inl (fun _ => 0)))] _ _ := hG
  refine gg_putF (ws' := [(a, .inr (8, [.int 0, .int 0, .int 0, .ref q1, .null, .null, .null, .null, .null, .null])), (q1, .inl (Z.2.1, 72, .inl (fun _ => 0)))]) F hG (ci := 8) (q0 := 0) 3 gcX8 rfl rfl (by decide) w4_79 rfl (hname.trans rfl) rfl rfl rfl (Nat.le_of_ble_eq_true rfl) rfl dX8_init_9 (fun H locs hG => ?_)
  refine lv_aload_n hx hb dX8_init_12 rfl (lv_at hl 0 rfl) ?_
  refine lv_bipush (v := 8) hx hb dX8_init_13 (by decide) ?_
  refine gg_newI (N := 8) F hG (by decide) (by decide) (Nat.le_of_ble_eq_true rfl) (by decide) (Nat.le_of_ble_eq_true rfl) dX8_init_15 (fun q2 H hG => ?_)
  have hG : gG Z A sS [(a, .inr (8, [.int 0, .int 0, .int 0, .ref q1, .null, .null, .null, .null, .null, .null])), (q1, .inl (Z.2.1, 72, .inl (fun _ => 0))), (q2, .inl (Z.2.1, 8, .inl (fun _ => 0)))] _ _ := hG
  refine gg_putF (ws' := [(a, .inr (8, [.int 0, .int 0, .int 0, .ref q1, .ref q2, .null, .null, .null, .null, .null])), (q1, .inl (Z.2.1, 72, .inl (fun _ => 0))), (q2, .inl (Z.2.1, 8, .inl (fun _ => 0)))]) F hG (ci := 8) (q0 := 0) 4 gcX8 rfl rfl (by decide) w4_80 rfl (hname.trans rfl) rfl rfl rfl (Nat.le_of_ble_eq_true rfl) rfl dX8_init_17 (fun H locs hG => ?_)
  refine lv_aload_n hx hb dX8_init_20 rfl (lv_at hl 0 rfl) ?_
  refine lv_bipush (v := 8) hx hb dX8_init_21 (by decide) ?_
  refine gg_newI (N := 8) F hG (by decide) (by decide) (Nat.le_of_ble_eq_true rfl) (by decide) (Nat.le_of_ble_eq_true rfl) dX8_init_23 (fun q3 H hG => ?_)
  have hG : gG Z A sS [(a, .inr (8, [.int 0, .int 0, .int 0, .ref q1, .ref q2, .null, .null, .null, .null, .null])), (q1, .inl (Z.2.1, 72, .inl (fun _ => 0))), (q2, .inl (Z.2.1, 8, .inl (fun _ => 0))), (q3, .inl (Z.2.1, 8, .inl (fun _ => 0)))] _ _ := hG
  refine gg_putF (ws' := [(a, .inr (8, [.int 0, .int 0, .int 0, .ref q1, .ref q2, .ref q3, .null, .null, .null, .null])), (q1, .inl (Z.2.1, 72, .inl (fun _ => 0))), (q2, .inl (Z.2.1, 8, .inl (fun _ => 0))), (q3, .inl (Z.2.1, 8, .inl (fun _ => 0)))]) F hG (ci := 8) (q0 := 0) 5 gcX8 rfl rfl (by decide) w4_82 rfl (hname.trans rfl) rfl rfl rfl (Nat.le_of_ble_eq_true rfl) rfl dX8_init_25 (fun H locs hG => ?_)
  refine lv_aload_n hx hb dX8_init_28 rfl (lv_at hl 0 rfl) ?_
  refine lv_bipush (v := 8) hx hb dX8_init_29 (by decide) ?_
  refine gg_newI (N := 8) F hG (by decide) (by decide) (Nat.le_of_ble_eq_true rfl) (by decide) (Nat.le_of_ble_eq_true rfl) dX8_init_31 (fun q4 H hG => ?_)
  have hG : gG Z A sS [(a, .inr (8, [.int 0, .int 0, .int 0, .ref q1, .ref q2, .ref q3, .null, .null, .null, .null])), (q1, .inl (Z.2.1, 72, .inl (fun _ => 0))), (q2, .inl (Z.2.1, 8, .inl (fun _ => 0))), (q3, .inl (Z.2.1, 8, .inl (fun _ => 0))), (q4, .inl (Z.2.1, 8, .inl (fun _ => 0)))] _ _ := hG
  refine gg_putF (ws' := [(a, .inr (8, [.int 0, .int 0, .int 0, .ref q1, .ref q2, .ref q3, .ref q4, .null, .null, .null])), (q1, .inl (Z.2.1, 72, .inl (fun _ => 0))), (q2, .inl (Z.2.1, 8, .inl (fun _ => 0))), (q3, .inl (Z.2.1, 8, .inl (fun _ => 0))), (q4, .inl (Z.2.1, 8, .inl (fun _ => 0)))]) F hG (ci := 8) (q0 := 0) 6 gcX8 rfl rfl (by decide) w4_84 rfl (hname.trans rfl) rfl rfl rfl (Nat.le_of_ble_eq_true rfl) rfl dX8_init_33 (fun H locs hG => ?_)
  refine lv_aload_n hx hb dX8_init_36 rfl (lv_at hl 0 rfl) ?_
  refine lv_bipush (v := 8) hx hb dX8_init_37 (by decide) ?_
  refine gg_newI (N := 8) F hG (by decide) (by decide) (Nat.le_of_ble_eq_true rfl) (by decide) (Nat.le_of_ble_eq_true rfl) dX8_init_39 (fun q5 H hG => ?_)
  have hG : gG Z A sS [(a, .inr (8, [.int 0, .int 0, .int 0, .ref q1, .ref q2, .ref q3, .ref q4, .null, .null, .null])), (q1, .inl (Z.2.1, 72, .inl (fun _ => 0))), (q2, .inl (Z.2.1, 8, .inl (fun _ => 0))), (q3, .inl (Z.2.1, 8, .inl (fun _ => 0))), (q4, .inl (Z.2.1, 8, .inl (fun _ => 0))), (q5, .inl (Z.2.1, 8, .inl (fun _ => 0)))] _ _ := hG
  refine gg_putF (ws' := [(a, .inr (8, [.int 0, .int 0, .int 0, .ref q1, .ref q2, .ref q3, .ref q4, .ref q5, .null, .null])), (q1, .inl (Z.2.1, 72, .inl (fun _ => 0))), (q2, .inl (Z.2.1, 8, .inl (fun _ => 0))), (q3, .inl (Z.2.1, 8, .inl (fun _ => 0))), (q4, .inl (Z.2.1, 8, .inl (fun _ => 0))), (q5, .inl (Z.2.1, 8, .inl (fun _ => 0)))]) F hG (ci := 8) (q0 := 0) 7 gcX8 rfl rfl (by decide) w4_85 rfl (hname.trans rfl) rfl rfl rfl (Nat.le_of_ble_eq_true rfl) rfl dX8_init_41 (fun H locs hG => ?_)
  refine lv_aload_n hx hb dX8_init_44 rfl (lv_at hl 0 rfl) ?_
  refine gg_new (ci := 7) (fs := [.int 0, .int 0, .int 0, .int 0, .null, .null, .null, .null, .null]) F hG gcX7 w4_33 w4_34 w1_9 rfl (fun j hj => match j, hj with | 0, _ => rfl | 1, _ => rfl | 2, _ => rfl | 3, _ => rfl | 4, _ => rfl | 5, _ => rfl | 6, _ => rfl | 7, _ => rfl | 8, _ => rfl | j + 9, h => absurd h (by omega)) (by decide) (Nat.le_of_ble_eq_true rfl) dX8_init_45 (fun q6 H hG => ?_)
  have hG : gG Z A sS [(a, .inr (8, [.int 0, .int 0, .int 0, .ref q1, .ref q2, .ref q3, .ref q4, .ref q5, .null, .null])), (q1, .inl (Z.2.1, 72, .inl (fun _ => 0))), (q2, .inl (Z.2.1, 8, .inl (fun _ => 0))), (q3, .inl (Z.2.1, 8, .inl (fun _ => 0))), (q4, .inl (Z.2.1, 8, .inl (fun _ => 0))), (q5, .inl (Z.2.1, 8, .inl (fun _ => 0))), (q6, .inr (7, [.int 0, .int 0, .int 0, .int 0, .null, .null, .null, .null, .null]))] _ _ := hG
  refine lv_dup hx hb dX8_init_48 rfl ?_
  refine lv_aload_n hx hb dX8_init_49 rfl (lv_at hl 0 rfl) ?_
  have hG : gG Z A sS ([(q6, .inr (7, [.int 0, .int 0, .int 0, .int 0, .null, .null, .null, .null, .null]))] ++ [(a, .inr (8, [.int 0, .int 0, .int 0, .ref q1, .ref q2, .ref q3, .ref q4, .ref q5, .null, .null])), (q1, .inl (Z.2.1, 72, .inl (fun _ => 0))), (q2, .inl (Z.2.1, 8, .inl (fun _ => 0))), (q3, .inl (Z.2.1, 8, .inl (fun _ => 0))), (q4, .inl (Z.2.1, 8, .inl (fun _ => 0))), (q5, .inl (Z.2.1, 8, .inl (fun _ => 0)))]) _ _ := gG.comm (show gG Z A sS ([(a, .inr (8, [.int 0, .int 0, .int 0, .ref q1, .ref q2, .ref q3, .ref q4, .ref q5, .null, .null])), (q1, .inl (Z.2.1, 72, .inl (fun _ => 0))), (q2, .inl (Z.2.1, 8, .inl (fun _ => 0))), (q3, .inl (Z.2.1, 8, .inl (fun _ => 0))), (q4, .inl (Z.2.1, 8, .inl (fun _ => 0))), (q5, .inl (Z.2.1, 8, .inl (fun _ => 0)))] ++ [(q6, .inr (7, [.int 0, .int 0, .int 0, .int 0, .null, .null, .null, .null, .null]))]) _ _ from hG)
  refine ge_callIN F hG (As := [.ref a]) (rest := [.ref q6, .ref a]) (c_X7_init Z l q6 a) kY_X7_init kV_X7_init wn_37 rfl ⟨rfl, rfl⟩ ⟨(Nat.le_of_ble_eq_true rfl), (Nat.le_of_ble_eq_true rfl)⟩ rfl (Nat.le_of_ble_eq_true rfl) hl.1 ⟨(Nat.le_of_ble_eq_true rfl), (Nat.le_of_ble_eq_true rfl)⟩ dX8_init_50 rfl (fun H locs ws' hw hG => ?_)
  obtain ⟨q7, q8, q9, q10, rfl⟩ := hw
  have hG : gG Z A sS [(q6, .inr (7, [.int 0, .int 0, .int 0, .int 0, .ref q7, .ref q8, .ref q9, .ref q10, .ref a])), (q7, .inl (Z.2.1, 8, .inl (fun _ => 0))), (q8, .inl (Z.2.1, 8, .inl (fun _ => 0))), (q9, .inl (Z.2.1, 1280, .inl (fun _ => 0))), (q10, .inl (Z.2.1, 60, .inl (fun _ => 0))), (a, .inr (8, [.int 0, .int 0, .int 0, .ref q1, .ref q2, .ref q3, .ref q4, .ref q5, .null, .null])), (q1, .inl (Z.2.1, 72, .inl (fun _ => 0))), (q2, .inl (Z.2.1, 8, .inl (fun _ => 0))), (q3, .inl (Z.2.1, 8, .inl (fun _ => 0))), (q4, .inl (Z.2.1, 8, .inl (fun _ => 0))), (q5, .inl (Z.2.1, 8, .inl (fun _ => 0)))] _ _ := hG
  refine gg_putF (ws' := [(q6, .inr (7, [.int 0, .int 0, .int 0, .int 0, .ref q7, .ref q8, .ref q9, .ref q10, .ref a])), (q7, .inl (Z.2.1, 8, .inl (fun _ => 0))), (q8, .inl (Z.2.1, 8, .inl (fun _ => 0))), (q9, .inl (Z.2.1, 1280, .inl (fun _ => 0))), (q10, .inl (Z.2.1, 60, .inl (fun _ => 0))), (a, .inr (8, [.int 0, .int 0, .int 0, .ref q1, .ref q2, .ref q3, .ref q4, .ref q5, .ref q6, .null])), (q1, .inl (Z.2.1, 72, .inl (fun _ => 0))), (q2, .inl (Z.2.1, 8, .inl (fun _ => 0))), (q3, .inl (Z.2.1, 8, .inl (fun _ => 0))), (q4, .inl (Z.2.1, 8, .inl (fun _ => 0))), (q5, .inl (Z.2.1, 8, .inl (fun _ => 0)))]) F hG (ci := 8) (q0 := 5) 8 gcX8 rfl rfl (by decide) w4_87 rfl (hname.trans rfl) rfl rfl rfl (Nat.le_of_ble_eq_true rfl) rfl dX8_init_53 (fun H locs hG => ?_)
  refine lv_aload_n hx hb dX8_init_56 rfl (lv_at hl 0 rfl) ?_
  refine gg_new (ci := 7) (fs := [.int 0, .int 0, .int 0, .int 0, .null, .null, .null, .null, .null]) F hG gcX7 w4_33 w4_34 w1_9 rfl (fun j hj => match j, hj with | 0, _ => rfl | 1, _ => rfl | 2, _ => rfl | 3, _ => rfl | 4, _ => rfl | 5, _ => rfl | 6, _ => rfl | 7, _ => rfl | 8, _ => rfl | j + 9, h => absurd h (by omega)) (by decide) (Nat.le_of_ble_eq_true rfl) dX8_init_57 (fun q11 H hG => ?_)
  have hG : gG Z A sS [(q6, .inr (7, [.int 0, .int 0, .int 0, .int 0, .ref q7, .ref q8, .ref q9, .ref q10, .ref a])), (q7, .inl (Z.2.1, 8, .inl (fun _ => 0))), (q8, .inl (Z.2.1, 8, .inl (fun _ => 0))), (q9, .inl (Z.2.1, 1280, .inl (fun _ => 0))), (q10, .inl (Z.2.1, 60, .inl (fun _ => 0))), (a, .inr (8, [.int 0, .int 0, .int 0, .ref q1, .ref q2, .ref q3, .ref q4, .ref q5, .ref q6, .null])), (q1, .inl (Z.2.1, 72, .inl (fun _ => 0))), (q2, .inl (Z.2.1, 8, .inl (fun _ => 0))), (q3, .inl (Z.2.1, 8, .inl (fun _ => 0))), (q4, .inl (Z.2.1, 8, .inl (fun _ => 0))), (q5, .inl (Z.2.1, 8, .inl (fun _ => 0))), (q11, .inr (7, [.int 0, .int 0, .int 0, .int 0, .null, .null, .null, .null, .null]))] _ _ := hG
  refine lv_dup hx hb dX8_init_60 rfl ?_
  refine lv_aload_n hx hb dX8_init_61 rfl (lv_at hl 0 rfl) ?_
  have hG : gG Z A sS ([(q11, .inr (7, [.int 0, .int 0, .int 0, .int 0, .null, .null, .null, .null, .null]))] ++ [(q6, .inr (7, [.int 0, .int 0, .int 0, .int 0, .ref q7, .ref q8, .ref q9, .ref q10, .ref a])), (q7, .inl (Z.2.1, 8, .inl (fun _ => 0))), (q8, .inl (Z.2.1, 8, .inl (fun _ => 0))), (q9, .inl (Z.2.1, 1280, .inl (fun _ => 0))), (q10, .inl (Z.2.1, 60, .inl (fun _ => 0))), (a, .inr (8, [.int 0, .int 0, .int 0, .ref q1, .ref q2, .ref q3, .ref q4, .ref q5, .ref q6, .null])), (q1, .inl (Z.2.1, 72, .inl (fun _ => 0))), (q2, .inl (Z.2.1, 8, .inl (fun _ => 0))), (q3, .inl (Z.2.1, 8, .inl (fun _ => 0))), (q4, .inl (Z.2.1, 8, .inl (fun _ => 0))), (q5, .inl (Z.2.1, 8, .inl (fun _ => 0)))]) _ _ := gG.comm (show gG Z A sS ([(q6, .inr (7, [.int 0, .int 0, .int 0, .int 0, .ref q7, .ref q8, .ref q9, .ref q10, .ref a])), (q7, .inl (Z.2.1, 8, .inl (fun _ => 0))), (q8, .inl (Z.2.1, 8, .inl (fun _ => 0))), (q9, .inl (Z.2.1, 1280, .inl (fun _ => 0))), (q10, .inl (Z.2.1, 60, .inl (fun _ => 0))), (a, .inr (8, [.int 0, .int 0, .int 0, .ref q1, .ref q2, .ref q3, .ref q4, .ref q5, .ref q6, .null])), (q1, .inl (Z.2.1, 72, .inl (fun _ => 0))), (q2, .inl (Z.2.1, 8, .inl (fun _ => 0))), (q3, .inl (Z.2.1, 8, .inl (fun _ => 0))), (q4, .inl (Z.2.1, 8, .inl (fun _ => 0))), (q5, .inl (Z.2.1, 8, .inl (fun _ => 0)))] ++ [(q11, .inr (7, [.int 0, .int 0, .int 0, .int 0, .null, .null, .null, .null, .null]))]) _ _ from hG)
  refine ge_callIN F hG (As := [.ref a]) (rest := [.ref q11, .ref a]) (c_X7_init Z l q11 a) kY_X7_init kV_X7_init wn_37 rfl ⟨rfl, rfl⟩ ⟨(Nat.le_of_ble_eq_true rfl), (Nat.le_of_ble_eq_true rfl)⟩ rfl (Nat.le_of_ble_eq_true rfl) hl.1 ⟨(Nat.le_of_ble_eq_true rfl), (Nat.le_of_ble_eq_true rfl)⟩ dX8_init_62 rfl (fun H locs ws' hw hG => ?_)
  obtain ⟨q12, q13, q14, q15, rfl⟩ := hw
  have hG : gG Z A sS [(q11, .inr (7, [.int 0, .int 0, .int 0, .int 0, .ref q12, .ref q13, .ref q14, .ref q15, .ref a])), (q12, .inl (Z.2.1, 8, .inl (fun _ => 0))), (q13, .inl (Z.2.1, 8, .inl (fun _ => 0))), (q14, .inl (Z.2.1, 1280, .inl (fun _ => 0))), (q15, .inl (Z.2.1, 60, .inl (fun _ => 0))), (q6, .inr (7, [.int 0, .int 0, .int 0, .int 0, .ref q7, .ref q8, .ref q9, .ref q10, .ref a])), (q7, .inl (Z.2.1, 8, .inl (fun _ => 0))), (q8, .inl (Z.2.1, 8, .inl (fun _ => 0))), (q9, .inl (Z.2.1, 1280, .inl (fun _ => 0))), (q10, .inl (Z.2.1, 60, .inl (fun _ => 0))), (a, .inr (8, [.int 0, .int 0, .int 0, .ref q1, .ref q2, .ref q3, .ref q4, .ref q5, .ref q6, .null])), (q1, .inl (Z.2.1, 72, .inl (fun _ => 0))), (q2, .inl (Z.2.1, 8, .inl (fun _ => 0))), (q3, .inl (Z.2.1, 8, .inl (fun _ => 0))), (q4, .inl (Z.2.1, 8, .inl (fun _ => 0))), (q5, .inl (Z.2.1, 8, .inl (fun _ => 0)))] _ _ := hG
  refine gg_putF (ws' := [(q11, .inr (7, [.int 0, .int 0, .int 0, .int 0, .ref q12, .ref q13, .ref q14, .ref q15, .ref a])), (q12, .inl (Z.2.1, 8, .inl (fun _ => 0))), (q13, .inl (Z.2.1, 8, .inl (fun _ => 0))), (q14, .inl (Z.2.1, 1280, .inl (fun _ => 0))), (q15, .inl (Z.2.1, 60, .inl (fun _ => 0))), (q6, .inr (7, [.int 0, .int 0, .int 0, .int 0, .ref q7, .ref q8, .ref q9, .ref q10, .ref a])), (q7, .inl (Z.2.1, 8, .inl (fun _ => 0))), (q8, .inl (Z.2.1, 8, .inl (fun _ => 0))), (q9, .inl (Z.2.1, 1280, .inl (fun _ => 0))), (q10, .inl (Z.2.1, 60, .inl (fun _ => 0))), (a, .inr (8, [.int 0, .int 0, .int 0, .ref q1, .ref q2, .ref q3, .ref q4, .ref q5, .ref q6, .ref q11])), (q1, .inl (Z.2.1, 72, .inl (fun _ => 0))), (q2, .inl (Z.2.1, 8, .inl (fun _ => 0))), (q3, .inl (Z.2.1, 8, .inl (fun _ => 0))), (q4, .inl (Z.2.1, 8, .inl (fun _ => 0))), (q5, .inl (Z.2.1, 8, .inl (fun _ => 0)))]) F hG (ci := 8) (q0 := 10) 9 gcX8 rfl rfl (by decide) w4_88 rfl (hname.trans rfl) rfl rfl rfl (Nat.le_of_ble_eq_true rfl) rfl dX8_init_65 (fun H locs hG => ?_)
  exact ge_vret F hG ⟨q1, q2, q3, q4, q5, q6, q7, q8, q9, q10, q11, q12, q13, q14, q15, rfl⟩ dX8_init_68
