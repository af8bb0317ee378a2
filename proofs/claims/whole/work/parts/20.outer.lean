/-! the outer object's methods -/
theorem wth_1 {x a b : Int32} (h1 : ¬ x < a) (h2 : ¬ b < x) : wthF x a b = 1 := (if_neg h1).trans (if_neg h2)
theorem wth_0 {x a b : Int32} (h : x < a ∨ b < x) : wthF x a b = 0 := by
  unfold wthF
  by_cases h1 : x < a
  · rw [if_pos h1]
  · rw [if_neg h1, if_pos (h.resolve_left h1)]
set_option maxRecDepth 100000 in
set_option maxHeartbeats 4000000 in
theorem c_X6_refuseUnlessWithin (Z : gZ) (l : Launch) (x b : Int32) (hx1 : ¬ x < 0) (hx2 : x < b) (ws : va_W) : gM Z l yX6_refuseUnlessWithin cX6_refuseUnlessWithin 2 none ({ frames := 0, cells := 0, slots := 0, locals := 0 } : Room) [.int x, .int b] ws (none) ws 0 0 := by
  refine gM_of (by decide +kernel) (Nat.le_of_ble_eq_true rfl) ?_
  intro pP eE sS mI aA bB mE cC A F hname hG ls hl
  have hx := F.1
  have hb := F.2.1
  have hl : lv_has ls 2 [(0, .int x), (1, .int b)] := hl
  refine lv_iload_n hx hb dX6_refuseUnlessWithin_0 rfl (lv_at hl 0 rfl) ?_
  refine lv_if_lt (tgt := 9) hx hb dX6_refuseUnlessWithin_1 (by decide) (fun h1 => absurd h1 hx1) (fun h1 => ?_)
  refine lv_iload_n hx hb dX6_refuseUnlessWithin_4 rfl (lv_at hl 0 rfl) ?_
  refine lv_iload_n hx hb dX6_refuseUnlessWithin_5 rfl (lv_at hl 1 rfl) ?_
  refine lv_icmp_lt (tgt := 19) hx hb dX6_refuseUnlessWithin_6 (by decide) (fun h6 => ?_) (fun h6 => absurd hx2 h6)
  exact gg_vret F hG rfl dX6_refuseUnlessWithin_19
set_option maxRecDepth 100000 in
set_option maxHeartbeats 4000000 in
theorem x_X6_refuseUnlessWithin (Z : gZ) (l : Launch) (hst : l.stackTraces = false) (x b : Int32) (hxo : x < 0 ∨ ¬ x < b) (ws : va_W) : gX Z l yX6_refuseUnlessWithin cX6_refuseUnlessWithin 2 none ({ frames := 6, cells := 1, slots := 6, locals := 82 } : Room) [.int x, .int b] ws xIO 1 6 := by
  refine gX_of (by decide +kernel) (Nat.le_of_ble_eq_true rfl) ?_
  intro pP eE sS mI aA bB mE cC A F htab hxK hxZ hG ls hl
  have hx := F.1
  have hb := F.2.1
  have hl : lv_has ls 2 [(0, .int x), (1, .int b)] := hl
  refine lv_iload_n hx hb dX6_refuseUnlessWithin_0 rfl (lv_at hl 0 rfl) ?_
  refine lv_if_lt (tgt := 9) hx hb dX6_refuseUnlessWithin_1 (by decide) (fun h1 => ?_) (fun h1 => ?_)
  · exact gg_throw F htab hxK hxZ hG hst xE_IO (List.mem_of_getElem? (i := 9) rfl) hl.1 dX6_refuseUnlessWithin_9 dX6_refuseUnlessWithin_12 dX6_refuseUnlessWithin_13 dX6_refuseUnlessWithin_15 dX6_refuseUnlessWithin_18 (Nat.le_of_ble_eq_true rfl) (Nat.le_of_ble_eq_true rfl) (Nat.le_of_ble_eq_true rfl) (Nat.le_of_ble_eq_true rfl) (Nat.le_of_ble_eq_true rfl) (Nat.le_of_ble_eq_true rfl)
  · refine lv_iload_n hx hb dX6_refuseUnlessWithin_4 rfl (lv_at hl 0 rfl) ?_
    refine lv_iload_n hx hb dX6_refuseUnlessWithin_5 rfl (lv_at hl 1 rfl) ?_
    refine lv_icmp_lt (tgt := 19) hx hb dX6_refuseUnlessWithin_6 (by decide) (fun h6 => absurd h6 (hxo.resolve_left h1)) (fun h6 => ?_)
    exact gg_throw F htab hxK hxZ hG hst xE_IO (List.mem_of_getElem? (i := 9) rfl) hl.1 dX6_refuseUnlessWithin_9 dX6_refuseUnlessWithin_12 dX6_refuseUnlessWithin_13 dX6_refuseUnlessWithin_15 dX6_refuseUnlessWithin_18 (Nat.le_of_ble_eq_true rfl) (Nat.le_of_ble_eq_true rfl) (Nat.le_of_ble_eq_true rfl) (Nat.le_of_ble_eq_true rfl) (Nat.le_of_ble_eq_true rfl) (Nat.le_of_ble_eq_true rfl)
set_option maxRecDepth 100000 in
set_option maxHeartbeats 4000000 in
theorem c_X6_stationOf (Z : gZ) (l : Launch) (AD : Nat → Nat) (M : St) (n : Nat) (hn : 78 ≤ n) (ns k : Nat) (hS : okS M 0 ns n) (hk : k < ns) : gM Z l yX6_stationOf cX6_stationOf 3 (some (.object "CrystalClub$Station")) ({ frames := 1, cells := 0, slots := 0, locals := 22 } : Room) [.ref (AD 0), .int (nI k)] (wC Z AD M n) (some (.ref (AD (78 + k)))) (wC Z AD M n) 0 0 := by
  refine gM_of (by decide +kernel) (Nat.le_of_ble_eq_true rfl) ?_
  intro pP eE sS mI aA bB mE cC A F hname hG ls hl
  have hx := F.1
  have hb := F.2.1
  have hl : lv_has ls 3 [(0, .ref (AD 0)), (1, .int (nI k))] := hl
  have hns2 := hS.2.1
  have hns3 := hS.2.2.1
  refine lv_aload_n hx hb dX6_stationOf_0 rfl (lv_at hl 0 rfl) ?_
  refine gg_get F hG (ci := 6) (v := .ref (AD (1 + 0))) 0 gcX6 rfl (gC_root hn) (by decide) w1_168 rfl dX6_stationOf_1 ?_
  refine lv_iload_n hx hb dX6_stationOf_4 rfl (lv_at hl 1 rfl) ?_
  refine gg_callV F hG (ci := 0) (As := [.int (nI k)]) (rest := []) (c_X0_stationAt Z l AD M _ hn 0 (by omega) _ k hS hk) kY_X0_stationAt kV_X0_stationAt (gC_club (by omega) hn) rfl rfl w3_26 rfl ⟨rfl, rfl⟩ ⟨(Nat.le_of_ble_eq_true rfl), (Nat.le_of_ble_eq_true rfl)⟩ rfl (Nat.le_of_ble_eq_true rfl) hl.1 ⟨Nat.zero_le _, Nat.zero_le _⟩ dX6_stationOf_5 rfl (fun H locs hG => ?_)
  refine lv_astore_n (lv' := [(2, .ref (AD (78 + k))), (0, .ref (AD 0)), (1, .int (nI k))]) hx hb dX6_stationOf_8 rfl hl (by decide) rfl (fun ls hl => ?_)
  refine lv_aload_n hx hb dX6_stationOf_9 rfl (lv_at hl 0 rfl) ?_
  refine lv_ifnonnull (tgt := 23) hx hb dX6_stationOf_10 (by decide) ?_
  refine lv_aload_n hx hb dX6_stationOf_23 rfl (lv_at hl 0 rfl) ?_
  exact gg_aret F hG (Or.inr ⟨_, rfl⟩) rfl rfl dX6_stationOf_24
set_option maxRecDepth 100000 in
set_option maxHeartbeats 4000000 in
theorem x_X6_stationOf (Z : gZ) (l : Launch) (hst : l.stackTraces = false) (AD : Nat → Nat) (M : St) (n : Nat) (hn : 78 ≤ n) (ns : Nat) (hS : okS M 0 ns n) (x : Int32) (hxo : x < 0 ∨ nI ns ≤ x) : gX Z l yX6_stationOf cX6_stationOf 3 (some (.object "CrystalClub$Station")) ({ frames := 6, cells := 1, slots := 6, locals := 82 } : Room) [.ref (AD 0), .int x] (wC Z AD M n) xIO 1 6 := by
  refine gX_of (by decide +kernel) (Nat.le_of_ble_eq_true rfl) ?_
  intro pP eE sS mI aA bB mE cC A F htab hxK hxZ hG ls hl
  have hx := F.1
  have hb := F.2.1
  have hl : lv_has ls 3 [(0, .ref (AD 0)), (1, .int x)] := hl
  refine lv_aload_n hx hb dX6_stationOf_0 rfl (lv_at hl 0 rfl) ?_
  refine gg_get F hG (ci := 6) (v := .ref (AD (1 + 0))) 0 gcX6 rfl (gC_root hn) (by decide) w1_168 rfl dX6_stationOf_1 ?_
  refine lv_iload_n hx hb dX6_stationOf_4 rfl (lv_at hl 1 rfl) ?_
  refine gg_callV F hG (ci := 0) (As := [.int x]) (rest := []) (c_X0_stationAt_no Z l AD M _ hn 0 (by omega) _ hS x hxo) kY_X0_stationAt kV_X0_stationAt (gC_club (by omega) hn) rfl rfl w3_26 rfl ⟨rfl, rfl⟩ ⟨(Nat.le_of_ble_eq_true rfl), (Nat.le_of_ble_eq_true rfl)⟩ rfl (Nat.le_of_ble_eq_true rfl) hl.1 ⟨Nat.zero_le _, Nat.zero_le _⟩ dX6_stationOf_5 rfl (fun H locs hG => ?_)
  refine lv_astore_nN (lv' := [(2, .null), (0, .ref (AD 0)), (1, .int x)]) hx hb dX6_stationOf_8 rfl hl (by decide) rfl (fun ls hl => ?_)
  refine lv_aload_nN hx hb dX6_stationOf_9 rfl (lv_at hl 0 rfl) ?_
  refine lv_ifnonnullN hx hb dX6_stationOf_10 ?_
  exact gg_throw F htab hxK hxZ hG hst xE_IO (List.mem_of_getElem? (i := 8) rfl) hl.1 dX6_stationOf_13 dX6_stationOf_16 dX6_stationOf_17 dX6_stationOf_19 dX6_stationOf_22 (Nat.le_of_ble_eq_true rfl) (Nat.le_of_ble_eq_true rfl) (Nat.le_of_ble_eq_true rfl) (Nat.le_of_ble_eq_true rfl) (Nat.le_of_ble_eq_true rfl) (Nat.le_of_ble_eq_true rfl)
set_option maxRecDepth 100000 in
set_option maxHeartbeats 4000000 in
theorem c_X6_memberOf (Z : gZ) (l : Launch) (AD : Nat → Nat) (M : St) (n : Nat) (hn : 78 ≤ n) (nm k : Nat) (hM : okM M 0 nm) (hk : k < nm) : gM Z l yX6_memberOf cX6_memberOf 3 (some (.object "CrystalClub$Member")) ({ frames := 1, cells := 0, slots := 0, locals := 22 } : Room) [.ref (AD 0), .int (nI k)] (wC Z AD M n) (some (.ref (AD (26 + (8 * 0 + k))))) (wC Z AD M n) 0 0 := by
  refine gM_of (by decide +kernel) (Nat.le_of_ble_eq_true rfl) ?_
  intro pP eE sS mI aA bB mE cC A F hname hG ls hl
  have hx := F.1
  have hb := F.2.1
  have hl : lv_has ls 3 [(0, .ref (AD 0)), (1, .int (nI k))] := hl
  have hnm2 := hM.2
  refine lv_aload_n hx hb dX6_memberOf_0 rfl (lv_at hl 0 rfl) ?_
  refine gg_get F hG (ci := 6) (v := .ref (AD (1 + 0))) 0 gcX6 rfl (gC_root hn) (by decide) w1_168 rfl dX6_memberOf_1 ?_
  refine lv_iload_n hx hb dX6_memberOf_4 rfl (lv_at hl 1 rfl) ?_
  refine gg_callV F hG (ci := 0) (As := [.int (nI k)]) (rest := []) (c_X0_memberAt Z l AD M _ hn 0 (by omega) _ k hM hk) kY_X0_memberAt kV_X0_memberAt (gC_club (by omega) hn) rfl rfl w2_214 rfl ⟨rfl, rfl⟩ ⟨(Nat.le_of_ble_eq_true rfl), (Nat.le_of_ble_eq_true rfl)⟩ rfl (Nat.le_of_ble_eq_true rfl) hl.1 ⟨Nat.zero_le _, Nat.zero_le _⟩ dX6_memberOf_5 rfl (fun H locs hG => ?_)
  refine lv_astore_n (lv' := [(2, .ref (AD (26 + (8 * 0 + k)))), (0, .ref (AD 0)), (1, .int (nI k))]) hx hb dX6_memberOf_8 rfl hl (by decide) rfl (fun ls hl => ?_)
  refine lv_aload_n hx hb dX6_memberOf_9 rfl (lv_at hl 0 rfl) ?_
  refine lv_ifnonnull (tgt := 23) hx hb dX6_memberOf_10 (by decide) ?_
  refine lv_aload_n hx hb dX6_memberOf_23 rfl (lv_at hl 0 rfl) ?_
  exact gg_aret F hG (Or.inr ⟨_, rfl⟩) rfl rfl dX6_memberOf_24
set_option maxRecDepth 100000 in
set_option maxHeartbeats 4000000 in
theorem x_X6_memberOf (Z : gZ) (l : Launch) (hst : l.stackTraces = false) (AD : Nat → Nat) (M : St) (n : Nat) (hn : 78 ≤ n) (nm : Nat) (hM : okM M 0 nm) (x : Int32) (hxo : x < 0 ∨ nI nm ≤ x) : gX Z l yX6_memberOf cX6_memberOf 3 (some (.object "CrystalClub$Member")) ({ frames := 6, cells := 1, slots := 6, locals := 82 } : Room) [.ref (AD 0), .int x] (wC Z AD M n) xIO 1 6 := by
  refine gX_of (by decide +kernel) (Nat.le_of_ble_eq_true rfl) ?_
  intro pP eE sS mI aA bB mE cC A F htab hxK hxZ hG ls hl
  have hx := F.1
  have hb := F.2.1
  have hl : lv_has ls 3 [(0, .ref (AD 0)), (1, .int x)] := hl
  refine lv_aload_n hx hb dX6_memberOf_0 rfl (lv_at hl 0 rfl) ?_
  refine gg_get F hG (ci := 6) (v := .ref (AD (1 + 0))) 0 gcX6 rfl (gC_root hn) (by decide) w1_168 rfl dX6_memberOf_1 ?_
  refine lv_iload_n hx hb dX6_memberOf_4 rfl (lv_at hl 1 rfl) ?_
  refine gg_callV F hG (ci := 0) (As := [.int x]) (rest := []) (c_X0_memberAt_no Z l AD M _ hn 0 (by omega) _ hM x hxo) kY_X0_memberAt kV_X0_memberAt (gC_club (by omega) hn) rfl rfl w2_214 rfl ⟨rfl, rfl⟩ ⟨(Nat.le_of_ble_eq_true rfl), (Nat.le_of_ble_eq_true rfl)⟩ rfl (Nat.le_of_ble_eq_true rfl) hl.1 ⟨Nat.zero_le _, Nat.zero_le _⟩ dX6_memberOf_5 rfl (fun H locs hG => ?_)
  refine lv_astore_nN (lv' := [(2, .null), (0, .ref (AD 0)), (1, .int x)]) hx hb dX6_memberOf_8 rfl hl (by decide) rfl (fun ls hl => ?_)
  refine lv_aload_nN hx hb dX6_memberOf_9 rfl (lv_at hl 0 rfl) ?_
  refine lv_ifnonnullN hx hb dX6_memberOf_10 ?_
  exact gg_throw F htab hxK hxZ hG hst xE_IO (List.mem_of_getElem? (i := 5) rfl) hl.1 dX6_memberOf_13 dX6_memberOf_16 dX6_memberOf_17 dX6_memberOf_19 dX6_memberOf_22 (Nat.le_of_ble_eq_true rfl) (Nat.le_of_ble_eq_true rfl) (Nat.le_of_ble_eq_true rfl) (Nat.le_of_ble_eq_true rfl) (Nat.le_of_ble_eq_true rfl) (Nat.le_of_ble_eq_true rfl)
set_option maxRecDepth 100000 in
set_option maxHeartbeats 4000000 in
theorem c_X6_setOf (Z : gZ) (l : Launch) (AD : Nat → Nat) (M : St) (n : Nat) (hn : 78 ≤ n) (nm i : Nat) (hM : okM M 0 nm) (hi : i < nm) : gM Z l yX6_setOf cX6_setOf 2 (some (.object "CrystalClub$CrystalSet")) ({ frames := 2, cells := 0, slots := 0, locals := 44 } : Room) [.ref (AD 0), .int (nI i)] (wC Z AD M n) (some (.ref (AD (9 + (8 * 0 + i))))) (wC Z AD M n) 0 0 := by
  refine gM_of (by decide +kernel) (Nat.le_of_ble_eq_true rfl) ?_
  intro pP eE sS mI aA bB mE cC A F hname hG ls hl
  have hx := F.1
  have hb := F.2.1
  have hl : lv_has ls 2 [(0, .ref (AD 0)), (1, .int (nI i))] := hl
  have hnm2 := hM.2
  refine lv_aload_n hx hb dX6_setOf_0 rfl (lv_at hl 0 rfl) ?_
  refine lv_iload_n hx hb dX6_setOf_1 rfl (lv_at hl 1 rfl) ?_
  refine gg_callV F hG (ci := 6) (As := [.int (nI i)]) (rest := []) (c_X6_memberOf Z l AD M _ hn _ i hM hi) kY_X6_memberOf kV_X6_memberOf (gC_root hn) rfl rfl w2_210 rfl ⟨rfl, rfl⟩ ⟨(Nat.le_of_ble_eq_true rfl), (Nat.le_of_ble_eq_true rfl)⟩ rfl (Nat.le_of_ble_eq_true rfl) hl.1 ⟨Nat.zero_le _, Nat.zero_le _⟩ dX6_setOf_2 rfl (fun H locs hG => ?_)
  refine gg_getN F hG (ci := 3) (v := .ref (AD (9 + (8 * 0 + i)))) 0 gcX3 rfl (gC_memb (by omega) hn) (by decide) wn_17 rfl dX6_setOf_5 ?_
  exact gg_aret F hG (Or.inr ⟨_, rfl⟩) rfl rfl dX6_setOf_8
set_option maxRecDepth 100000 in
set_option maxHeartbeats 4000000 in
theorem x_X6_setOf (Z : gZ) (l : Launch) (hst : l.stackTraces = false) (AD : Nat → Nat) (M : St) (n : Nat) (hn : 78 ≤ n) (nm : Nat) (hM : okM M 0 nm) (x : Int32) (hxo : x < 0 ∨ nI nm ≤ x) : gX Z l yX6_setOf cX6_setOf 2 (some (.object "CrystalClub$CrystalSet")) ({ frames := 7, cells := 1, slots := 6, locals := 104 } : Room) [.ref (AD 0), .int x] (wC Z AD M n) xIO 1 6 := by
  refine gX_of (by decide +kernel) (Nat.le_of_ble_eq_true rfl) ?_
  intro pP eE sS mI aA bB mE cC A F htab hxK hxZ hG ls hl
  have hx := F.1
  have hb := F.2.1
  have hl : lv_has ls 2 [(0, .ref (AD 0)), (1, .int x)] := hl
  refine lv_aload_n hx hb dX6_setOf_0 rfl (lv_at hl 0 rfl) ?_
  refine lv_iload_n hx hb dX6_setOf_1 rfl (lv_at hl 1 rfl) ?_
  exact gx_callV F htab hxK hxZ hG (ci := 6) (As := [.int x]) (rest := []) (x_X6_memberOf Z l hst AD M _ hn _ hM x hxo) kY_X6_memberOf kV_X6_memberOf (gC_root hn) rfl rfl w2_210 rfl ⟨rfl, rfl⟩ ⟨(Nat.le_of_ble_eq_true rfl), (Nat.le_of_ble_eq_true rfl)⟩ rfl (Nat.le_of_ble_eq_true rfl) hl.1 ⟨(Nat.le_of_ble_eq_true rfl), (Nat.le_of_ble_eq_true rfl)⟩ ⟨(Nat.le_of_ble_eq_true rfl), (Nat.le_of_ble_eq_true rfl)⟩ dX6_setOf_2
set_option maxRecDepth 100000 in
set_option maxHeartbeats 4000000 in
theorem c_X6_logOf (Z : gZ) (l : Launch) (AD : Nat → Nat) (M : St) (n : Nat) (hn : 78 ≤ n) (nm i ln : Nat) (hM : okM M 0 nm) (hZ : okZ M 0 nm) (hi : i < nm) (hln : ln < szN M (8 * 0 + i)) : gM Z l yX6_logOf cX6_logOf 4 (some (.object "CrystalClub$Table")) ({ frames := 2, cells := 0, slots := 0, locals := 44 } : Room) [.ref (AD 0), .int (nI i), .int (nI ln)] (wC Z AD M n) (some (.ref (AD (42 + (8 * 0 + i))))) (wC Z AD M n) 0 0 := by
  refine gM_of (by decide +kernel) (Nat.le_of_ble_eq_true rfl) ?_
  intro pP eE sS mI aA bB mE cC A F hname hG ls hl
  have hx := F.1
  have hb := F.2.1
  have hl : lv_has ls 4 [(0, .ref (AD 0)), (1, .int (nI i)), (2, .int (nI ln))] := hl
  have hnm2 := hM.2
  have hZ1 := (hZ i hi).2
  refine lv_aload_n hx hb dX6_logOf_0 rfl (lv_at hl 0 rfl) ?_
  refine lv_iload_n hx hb dX6_logOf_1 rfl (lv_at hl 1 rfl) ?_
  refine gg_callV F hG (ci := 6) (As := [.int (nI i)]) (rest := []) (c_X6_memberOf Z l AD M _ hn _ i hM hi) kY_X6_memberOf kV_X6_memberOf (gC_root hn) rfl rfl w2_210 rfl ⟨rfl, rfl⟩ ⟨(Nat.le_of_ble_eq_true rfl), (Nat.le_of_ble_eq_true rfl)⟩ rfl (Nat.le_of_ble_eq_true rfl) hl.1 ⟨Nat.zero_le _, Nat.zero_le _⟩ dX6_logOf_2 rfl (fun H locs hG => ?_)
  refine gg_getN F hG (ci := 3) (v := .ref (AD (42 + (8 * 0 + i)))) 1 gcX3 rfl (gC_memb (by omega) hn) (by decide) wn_19 rfl dX6_logOf_5 ?_
  refine lv_astore_n (lv' := [(3, .ref (AD (42 + (8 * 0 + i)))), (0, .ref (AD 0)), (1, .int (nI i)), (2, .int (nI ln))]) hx hb dX6_logOf_8 rfl hl (by decide) rfl (fun ls hl => ?_)
  refine lv_iload_n hx hb dX6_logOf_9 rfl (lv_at hl 3 rfl) ?_
  refine lv_aload_n hx hb dX6_logOf_10 rfl (lv_at hl 0 rfl) ?_
  refine gg_getN F hG (ci := 5) (v := .int (nI (szN M (8 * 0 + i)))) 2 gcX5 rfl (gC_tabl (by omega) hn) (by decide) wn_15 (congrArg (fun z => some (Value.int z)) (hZ i hi).1) dX6_logOf_11 ?_
  refine gg_callS F hG (As := [.int (nI ln), .int (nI (szN M (8 * 0 + i)))]) (rest := []) (c_X6_refuseUnlessWithin Z l (nI ln) (nI (szN M (8 * 0 + i))) (nI_pos (by omega)) (nI_lt hln (by omega)) _) kY_X6_refuseUnlessWithin kV_X6_refuseUnlessWithin w3_28 rfl ⟨rfl, rfl⟩ ⟨(Nat.le_of_ble_eq_true rfl), (Nat.le_of_ble_eq_true rfl)⟩ rfl (Nat.le_of_ble_eq_true rfl) hl.1 ⟨Nat.zero_le _, Nat.zero_le _⟩ dX6_logOf_14 rfl (fun H locs hG => ?_)
  refine lv_aload_n hx hb dX6_logOf_17 rfl (lv_at hl 0 rfl) ?_
  exact gg_aret F hG (Or.inr ⟨_, rfl⟩) rfl rfl dX6_logOf_18
set_option maxRecDepth 100000 in
set_option maxHeartbeats 4000000 in
theorem x_X6_logOf_m (Z : gZ) (l : Launch) (hst : l.stackTraces = false) (AD : Nat → Nat) (M : St) (n : Nat) (hn : 78 ≤ n) (nm : Nat) (hM : okM M 0 nm) (x y : Int32) (hxo : x < 0 ∨ nI nm ≤ x) : gX Z l yX6_logOf cX6_logOf 4 (some (.object "CrystalClub$Table")) ({ frames := 7, cells := 1, slots := 6, locals := 104 } : Room) [.ref (AD 0), .int x, .int y] (wC Z AD M n) xIO 1 6 := by
  refine gX_of (by decide +kernel) (Nat.le_of_ble_eq_true rfl) ?_
  intro pP eE sS mI aA bB mE cC A F htab hxK hxZ hG ls hl
  have hx := F.1
  have hb := F.2.1
  have hl : lv_has ls 4 [(0, .ref (AD 0)), (1, .int x), (2, .int y)] := hl
  refine lv_aload_n hx hb dX6_logOf_0 rfl (lv_at hl 0 rfl) ?_
  refine lv_iload_n hx hb dX6_logOf_1 rfl (lv_at hl 1 rfl) ?_
  exact gx_callV F htab hxK hxZ hG (ci := 6) (As := [.int x]) (rest := []) (x_X6_memberOf Z l hst AD M _ hn _ hM x hxo) kY_X6_memberOf kV_X6_memberOf (gC_root hn) rfl rfl w2_210 rfl ⟨rfl, rfl⟩ ⟨(Nat.le_of_ble_eq_true rfl), (Nat.le_of_ble_eq_true rfl)⟩ rfl (Nat.le_of_ble_eq_true rfl) hl.1 ⟨(Nat.le_of_ble_eq_true rfl), (Nat.le_of_ble_eq_true rfl)⟩ ⟨(Nat.le_of_ble_eq_true rfl), (Nat.le_of_ble_eq_true rfl)⟩ dX6_logOf_2
set_option maxRecDepth 100000 in
set_option maxHeartbeats 4000000 in
theorem x_X6_logOf_l (Z : gZ) (l : Launch) (hst : l.stackTraces = false) (AD : Nat → Nat) (M : St) (n : Nat) (hn : 78 ≤ n) (nm i : Nat) (hM : okM M 0 nm) (hZ : okZ M 0 nm) (hi : i < nm) (y : Int32) (hyo : y < 0 ∨ ¬ y < nI (szN M (8 * 0 + i))) : gX Z l yX6_logOf cX6_logOf 4 (some (.object "CrystalClub$Table")) ({ frames := 7, cells := 1, slots := 6, locals := 103 } : Room) [.ref (AD 0), .int (nI i), .int y] (wC Z AD M n) xIO 1 6 := by
  refine gX_of (by decide +kernel) (Nat.le_of_ble_eq_true rfl) ?_
  intro pP eE sS mI aA bB mE cC A F htab hxK hxZ hG ls hl
  have hx := F.1
  have hb := F.2.1
  have hl : lv_has ls 4 [(0, .ref (AD 0)), (1, .int (nI i)), (2, .int y)] := hl
  have hnm2 := hM.2
  have hZ1 := (hZ i hi).2
  refine lv_aload_n hx hb dX6_logOf_0 rfl (lv_at hl 0 rfl) ?_
  refine lv_iload_n hx hb dX6_logOf_1 rfl (lv_at hl 1 rfl) ?_
  refine gg_callV F hG (ci := 6) (As := [.int (nI i)]) (rest := []) (c_X6_memberOf Z l AD M _ hn _ i hM hi) kY_X6_memberOf kV_X6_memberOf (gC_root hn) rfl rfl w2_210 rfl ⟨rfl, rfl⟩ ⟨(Nat.le_of_ble_eq_true rfl), (Nat.le_of_ble_eq_true rfl)⟩ rfl (Nat.le_of_ble_eq_true rfl) hl.1 ⟨Nat.zero_le _, Nat.zero_le _⟩ dX6_logOf_2 rfl (fun H locs hG => ?_)
  refine gg_getN F hG (ci := 3) (v := .ref (AD (42 + (8 * 0 + i)))) 1 gcX3 rfl (gC_memb (by omega) hn) (by decide) wn_19 rfl dX6_logOf_5 ?_
  refine lv_astore_n (lv' := [(3, .ref (AD (42 + (8 * 0 + i)))), (0, .ref (AD 0)), (1, .int (nI i)), (2, .int y)]) hx hb dX6_logOf_8 rfl hl (by decide) rfl (fun ls hl => ?_)
  refine lv_iload_n hx hb dX6_logOf_9 rfl (lv_at hl 3 rfl) ?_
  refine lv_aload_n hx hb dX6_logOf_10 rfl (lv_at hl 0 rfl) ?_
  refine gg_getN F hG (ci := 5) (v := .int (nI (szN M (8 * 0 + i)))) 2 gcX5 rfl (gC_tabl (by omega) hn) (by decide) wn_15 (congrArg (fun z => some (Value.int z)) (hZ i hi).1) dX6_logOf_11 ?_
  exact gx_callS F htab hxK hxZ hG (As := [.int y, .int (nI (szN M (8 * 0 + i)))]) (rest := []) (x_X6_refuseUnlessWithin Z l hst y (nI (szN M (8 * 0 + i))) hyo _) kY_X6_refuseUnlessWithin kV_X6_refuseUnlessWithin w3_28 rfl ⟨rfl, rfl⟩ ⟨(Nat.le_of_ble_eq_true rfl), (Nat.le_of_ble_eq_true rfl)⟩ rfl (Nat.le_of_ble_eq_true rfl) hl.1 ⟨(Nat.le_of_ble_eq_true rfl), (Nat.le_of_ble_eq_true rfl)⟩ ⟨(Nat.le_of_ble_eq_true rfl), (Nat.le_of_ble_eq_true rfl)⟩ dX6_logOf_14
