/-! the outer object's methods: what they answer and do -/
def turF (M : St) (i : Nat) (d : Int32) : St := tuneF M (8 * 0 + i) (M 8 (8 * 0 + i) 0) d
def winF (M : St) (i : Nat) (t : Int32) : St := tuneF M (8 * 0 + i) t (M 9 (8 * 0 + i) 0)
def strA (M : St) (i k : Nat) : Int32 := if airN (M 0 k 3) (M 0 k 4) (M 3 0 0) = 0 then 0 else strF M (8 * 0 + i) k (M 3 0 0)
def nxS (M : St) (j ns : Nat) : Nat → St
  | 0 => M
  | d + 1 => heaM (nxS M j ns d) 0 j ((nxS M j ns d) 3 0 0 + nI d) ns
theorem nxS_S {M : St} {j ns n : Nat} (hS : okS M 0 ns n) : ∀ d, okS (nxS M j ns d) 0 ns n
  | 0 => hS
  | d + 1 => show okS (heaM (nxS M j ns d) 0 j ((nxS M j ns d) 3 0 0 + nI d) ns) 0 ns n from nxS_S hS d
def nxE (M : St) (j ns : Nat) (st : Int32) : Nat → Nat → Nat
  | 0, d => d
  | q + 1, d => if verQ (getQ (nxS M j ns (d + 1)) 0) = st then d else nxE M j ns st q (d + 1)
theorem nxE_t {M : St} {j ns i e : Nat} {st : Int32} (hi : i < 97) (hE : e = nxE M j ns st (97 - i) i) (h : verQ (getQ (nxS M j ns (i + 1)) 0) = st) : e = i := by
  rw [hE, show 97 - i = (96 - i) + 1 by omega]
  exact if_pos h
theorem nxE_f {M : St} {j ns i e : Nat} {st : Int32} (hi : i < 97) (hE : e = nxE M j ns st (97 - i) i) (h : ¬ verQ (getQ (nxS M j ns (i + 1)) 0) = st) : e = nxE M j ns st (97 - (i + 1)) (i + 1) := by
  rw [hE, show 97 - i = (96 - i) + 1 by omega, show 97 - (i + 1) = 96 - i by omega]
  exact if_neg h
def nxR (e : Nat) : Int32 := if e < 97 then nI e else -1
def nxK (e : Nat) : Nat := if e < 97 then e + 1 else 97
noncomputable def apS (M : St) (j a b : Nat) : Nat → St
  | 0 => cpS M 16 j
  | d + 1 => kaS (apS M j a b d) 0 16 a b (nI (20 + d)) (kaE (apS M j a b d) 0 16 a b (nI (20 + d)) 101 0)
noncomputable def apV (M : St) (j a b d : Nat) : Int32 := b2 (kaP (apS M j a b d) 0 16 a b (nI (20 + d)) (kaE (apS M j a b d) 0 16 a b (nI (20 + d)) 101 0))
noncomputable def apE (M : St) (j a b : Nat) : Nat → Nat → Nat
  | 0, d => d
  | q + 1, d => if apV M j a b d = 0 then apE M j a b q (d + 1) else d
theorem apE_t {M : St} {j a b i e : Nat} (hi : i < 181) (hE : e = apE M j a b (181 - i) i) (h : ¬ apV M j a b i = 0) : e = i := by
  rw [hE, show 181 - i = (180 - i) + 1 by omega]
  exact if_neg h
theorem apE_f {M : St} {j a b i e : Nat} (hi : i < 181) (hE : e = apE M j a b (181 - i) i) (h : apV M j a b i = 0) : e = apE M j a b (181 - (i + 1)) (i + 1) := by
  rw [hE, show 181 - i = (180 - i) + 1 by omega, show 181 - (i + 1) = 180 - i by omega]
  exact if_pos h
def apR (e : Nat) : Int32 := if e < 181 then nI (20 + e) else -1
def apK (e : Nat) : Nat := if e < 181 then e + 1 else 181
noncomputable def forM (M : St) (ns nm h : Nat) : St := phM (cpC M 1 0 ns nm) 1 ns nm h
set_option maxRecDepth 100000 in
set_option maxHeartbeats 4000000 in
theorem c_X6_join (Z : gZ) (l : Launch) (AD : Nat → Nat) (M : St) (n : Nat) (hn : 78 ≤ n) (nm : Nat) (hM : okM M 0 nm) (hnm : nm < 8) (t a : Int32) (h1 : ¬ t < 20) (h2 : ¬ 200 < t) (h3 : ¬ a < 1) (h4 : ¬ 60 < a) : gM Z l yX6_join cX6_join 3 (some .int) ({ frames := 4, cells := 0, slots := 0, locals := 92 } : Room) [.ref (AD 0), .int t, .int a] (wC Z AD M n) (some (.int (nI nm))) (wC Z AD (begF (mu M 2 0 0 (nI (nm + 1))) (8 * 0 + nm) t a) n) 0 0 := by
  refine gM_of (by decide +kernel) (Nat.le_of_ble_eq_true rfl) ?_
  intro pP eE sS mI aA bB mE cC A F hname hG ls hl
  have hx := F.1
  have hb := F.2.1
  have hl : lv_has ls 3 [(0, .ref (AD 0)), (1, .int t), (2, .int a)] := hl
  refine lv_iload_n hx hb dX6_join_0 rfl (lv_at hl 1 rfl) ?_
  refine lv_bipush (v := 20) hx hb dX6_join_1 (by decide) ?_
  refine lv_sipush (v := 200) hx hb dX6_join_3 (by decide) ?_
  refine gg_callS F hG (As := [.int t, .int 20, .int 200]) (rest := []) (c_X6_isWithin Z l t 20 200 _) kY_X6_isWithin kV_X6_isWithin w2_49 rfl ⟨rfl, rfl⟩ ⟨(Nat.le_of_ble_eq_true rfl), (Nat.le_of_ble_eq_true rfl)⟩ rfl (Nat.le_of_ble_eq_true rfl) hl.1 ⟨Nat.zero_le _, Nat.zero_le _⟩ dX6_join_6 rfl (fun H locs hG => ?_)
  rw [show (wthF t 20 200 : Int32) = 1 from wth_1 h1 h2]
  refine lv_if_eq (tgt := 22) hx hb dX6_join_9 (by decide) (fun h9 => absurd h9 (by decide)) (fun h9 => ?_)
  refine lv_iload_n hx hb dX6_join_12 rfl (lv_at hl 2 rfl) ?_
  refine lv_iconst (v := 1) hx hb dX6_join_13 (by decide) ?_
  refine lv_bipush (v := 60) hx hb dX6_join_14 (by decide) ?_
  refine gg_callS F hG (As := [.int a, .int 1, .int 60]) (rest := []) (c_X6_isWithin Z l a 1 60 _) kY_X6_isWithin kV_X6_isWithin w2_49 rfl ⟨rfl, rfl⟩ ⟨(Nat.le_of_ble_eq_true rfl), (Nat.le_of_ble_eq_true rfl)⟩ rfl (Nat.le_of_ble_eq_true rfl) hl.1 ⟨Nat.zero_le _, Nat.zero_le _⟩ dX6_join_16 rfl (fun H locs hG => ?_)
  rw [show (wthF a 1 60 : Int32) = 1 from wth_1 h3 h4]
  refine lv_if_ne (tgt := 32) hx hb dX6_join_19 (by decide) (fun h19 => ?_) (fun h19 => absurd h19 (by decide))
  refine lv_aload_n hx hb dX6_join_32 rfl (lv_at hl 0 rfl) ?_
  refine gg_get F hG (ci := 6) (v := .ref (AD (1 + 0))) 0 gcX6 rfl (gC_root hn) (by decide) w1_168 rfl dX6_join_33 ?_
  refine gg_getN F hG (ci := 0) (v := .int (nI nm)) 5 gcX0 rfl (gC_club (by omega) hn) (by decide) wn_26 (congrArg (fun z => some (Value.int z)) hM.1) dX6_join_36 ?_
  refine lv_bipush (v := 8) hx hb dX6_join_39 (by decide) ?_
  refine lv_icmp_lt (tgt := 54) hx hb dX6_join_41 (by decide) (fun h41 => ?_) (fun h41 => absurd (nI_lt (b := 8) hnm (by decide)) h41)
  refine lv_aload_n hx hb dX6_join_54 rfl (lv_at hl 0 rfl) ?_
  refine gg_get F hG (ci := 6) (v := .ref (AD (1 + 0))) 0 gcX6 rfl (gC_root hn) (by decide) w1_168 rfl dX6_join_55 ?_
  refine lv_iload_n hx hb dX6_join_58 rfl (lv_at hl 1 rfl) ?_
  refine lv_iload_n hx hb dX6_join_59 rfl (lv_at hl 2 rfl) ?_
  refine gg_callV F hG (ci := 0) (As := [.int t, .int a]) (rest := []) (c_X0_admit Z l AD M _ hn 0 nm (by omega) hM.1 (by omega) t a) kY_X0_admit kV_X0_admit (gC_club (by omega) hn) rfl rfl w2_181 rfl ⟨rfl, rfl⟩ ⟨(Nat.le_of_ble_eq_true rfl), (Nat.le_of_ble_eq_true rfl)⟩ rfl (Nat.le_of_ble_eq_true rfl) hl.1 ⟨Nat.zero_le _, Nat.zero_le _⟩ dX6_join_60 rfl (fun H locs hG => ?_)
  exact gg_iret F hG rfl rfl rfl dX6_join_63
set_option maxRecDepth 100000 in
set_option maxHeartbeats 4000000 in
theorem x_X6_join_a (Z : gZ) (l : Launch) (hst : l.stackTraces = false) (AD : Nat → Nat) (M : St) (n : Nat) (hn : 78 ≤ n) (t a : Int32) (ho : (t < 20 ∨ 200 < t) ∨ (a < 1 ∨ 60 < a)) : gX Z l yX6_join cX6_join 3 (some .int) ({ frames := 6, cells := 1, slots := 6, locals := 82 } : Room) [.ref (AD 0), .int t, .int a] (wC Z AD M n) xIA 1 6 := by
  refine gX_of (by decide +kernel) (Nat.le_of_ble_eq_true rfl) ?_
  intro pP eE sS mI aA bB mE cC A F htab hxK hxZ hG ls hl
  have hx := F.1
  have hb := F.2.1
  have hl : lv_has ls 3 [(0, .ref (AD 0)), (1, .int t), (2, .int a)] := hl
  refine lv_iload_n hx hb dX6_join_0 rfl (lv_at hl 1 rfl) ?_
  refine lv_bipush (v := 20) hx hb dX6_join_1 (by decide) ?_
  refine lv_sipush (v := 200) hx hb dX6_join_3 (by decide) ?_
  refine gg_callS F hG (As := [.int t, .int 20, .int 200]) (rest := []) (c_X6_isWithin Z l t 20 200 _) kY_X6_isWithin kV_X6_isWithin w2_49 rfl ⟨rfl, rfl⟩ ⟨(Nat.le_of_ble_eq_true rfl), (Nat.le_of_ble_eq_true rfl)⟩ rfl (Nat.le_of_ble_eq_true rfl) hl.1 ⟨Nat.zero_le _, Nat.zero_le _⟩ dX6_join_6 rfl (fun H locs hG => ?_)
  refine lv_if_eq (tgt := 22) hx hb dX6_join_9 (by decide) (fun h9 => ?_) (fun h9 => ?_)
  · exact gg_throw F htab hxK hxZ hG hst xE_IA (List.mem_of_getElem? (i := 3) rfl) hl.1 dX6_join_22 dX6_join_25 dX6_join_26 dX6_join_28 dX6_join_31 (Nat.le_of_ble_eq_true rfl) (Nat.le_of_ble_eq_true rfl) (Nat.le_of_ble_eq_true rfl) (Nat.le_of_ble_eq_true rfl) (Nat.le_of_ble_eq_true rfl) (Nat.le_of_ble_eq_true rfl)
  · refine lv_iload_n hx hb dX6_join_12 rfl (lv_at hl 2 rfl) ?_
    refine lv_iconst (v := 1) hx hb dX6_join_13 (by decide) ?_
    refine lv_bipush (v := 60) hx hb dX6_join_14 (by decide) ?_
    refine gg_callS F hG (As := [.int a, .int 1, .int 60]) (rest := []) (c_X6_isWithin Z l a 1 60 _) kY_X6_isWithin kV_X6_isWithin w2_49 rfl ⟨rfl, rfl⟩ ⟨(Nat.le_of_ble_eq_true rfl), (Nat.le_of_ble_eq_true rfl)⟩ rfl (Nat.le_of_ble_eq_true rfl) hl.1 ⟨Nat.zero_le _, Nat.zero_le _⟩ dX6_join_16 rfl (fun H locs hG => ?_)
    refine lv_if_ne (tgt := 32) hx hb dX6_join_19 (by decide) (fun h19 => absurd (wth_0 (ho.resolve_left (fun z => h9 (wth_0 z)))) h19) (fun h19 => ?_)
    exact gg_throw F htab hxK hxZ hG hst xE_IA (List.mem_of_getElem? (i := 3) rfl) hl.1 dX6_join_22 dX6_join_25 dX6_join_26 dX6_join_28 dX6_join_31 (Nat.le_of_ble_eq_true rfl) (Nat.le_of_ble_eq_true rfl) (Nat.le_of_ble_eq_true rfl) (Nat.le_of_ble_eq_true rfl) (Nat.le_of_ble_eq_true rfl) (Nat.le_of_ble_eq_true rfl)
set_option maxRecDepth 100000 in
set_option maxHeartbeats 4000000 in
theorem x_X6_join_s (Z : gZ) (l : Launch) (hst : l.stackTraces = false) (AD : Nat → Nat) (M : St) (n : Nat) (hn : 78 ≤ n) (nm : Nat) (hM : okM M 0 nm) (hnm : ¬ nm < 8) (t a : Int32) (h1 : ¬ t < 20) (h2 : ¬ 200 < t) (h3 : ¬ a < 1) (h4 : ¬ 60 < a) : gX Z l yX6_join cX6_join 3 (some .int) ({ frames := 6, cells := 1, slots := 6, locals := 82 } : Room) [.ref (AD 0), .int t, .int a] (wC Z AD M n) xIS 1 6 := by
  refine gX_of (by decide +kernel) (Nat.le_of_ble_eq_true rfl) ?_
  intro pP eE sS mI aA bB mE cC A F htab hxK hxZ hG ls hl
  have hx := F.1
  have hb := F.2.1
  have hl : lv_has ls 3 [(0, .ref (AD 0)), (1, .int t), (2, .int a)] := hl
  refine lv_iload_n hx hb dX6_join_0 rfl (lv_at hl 1 rfl) ?_
  refine lv_bipush (v := 20) hx hb dX6_join_1 (by decide) ?_
  refine lv_sipush (v := 200) hx hb dX6_join_3 (by decide) ?_
  refine gg_callS F hG (As := [.int t, .int 20, .int 200]) (rest := []) (c_X6_isWithin Z l t 20 200 _) kY_X6_isWithin kV_X6_isWithin w2_49 rfl ⟨rfl, rfl⟩ ⟨(Nat.le_of_ble_eq_true rfl), (Nat.le_of_ble_eq_true rfl)⟩ rfl (Nat.le_of_ble_eq_true rfl) hl.1 ⟨Nat.zero_le _, Nat.zero_le _⟩ dX6_join_6 rfl (fun H locs hG => ?_)
  rw [show (wthF t 20 200 : Int32) = 1 from wth_1 h1 h2]
  refine lv_if_eq (tgt := 22) hx hb dX6_join_9 (by decide) (fun h9 => absurd h9 (by decide)) (fun h9 => ?_)
  refine lv_iload_n hx hb dX6_join_12 rfl (lv_at hl 2 rfl) ?_
  refine lv_iconst (v := 1) hx hb dX6_join_13 (by decide) ?_
  refine lv_bipush (v := 60) hx hb dX6_join_14 (by decide) ?_
  refine gg_callS F hG (As := [.int a, .int 1, .int 60]) (rest := []) (c_X6_isWithin Z l a 1 60 _) kY_X6_isWithin kV_X6_isWithin w2_49 rfl ⟨rfl, rfl⟩ ⟨(Nat.le_of_ble_eq_true rfl), (Nat.le_of_ble_eq_true rfl)⟩ rfl (Nat.le_of_ble_eq_true rfl) hl.1 ⟨Nat.zero_le _, Nat.zero_le _⟩ dX6_join_16 rfl (fun H locs hG => ?_)
  rw [show (wthF a 1 60 : Int32) = 1 from wth_1 h3 h4]
  refine lv_if_ne (tgt := 32) hx hb dX6_join_19 (by decide) (fun h19 => ?_) (fun h19 => absurd h19 (by decide))
  refine lv_aload_n hx hb dX6_join_32 rfl (lv_at hl 0 rfl) ?_
  refine gg_get F hG (ci := 6) (v := .ref (AD (1 + 0))) 0 gcX6 rfl (gC_root hn) (by decide) w1_168 rfl dX6_join_33 ?_
  refine gg_getN F hG (ci := 0) (v := .int (nI nm)) 5 gcX0 rfl (gC_club (by omega) hn) (by decide) wn_26 (congrArg (fun z => some (Value.int z)) hM.1) dX6_join_36 ?_
  refine lv_bipush (v := 8) hx hb dX6_join_39 (by decide) ?_
  refine lv_icmp_lt (tgt := 54) hx hb dX6_join_41 (by decide) (fun h41 => absurd h41 (nI_nlt (a := nm) (b := 8) (by omega) (by have := hM.2; omega))) (fun h41 => ?_)
  exact gg_throw F htab hxK hxZ hG hst xE_IS (List.mem_of_getElem? (i := 4) rfl) hl.1 dX6_join_44 dX6_join_47 dX6_join_48 dX6_join_50 dX6_join_53 (Nat.le_of_ble_eq_true rfl) (Nat.le_of_ble_eq_true rfl) (Nat.le_of_ble_eq_true rfl) (Nat.le_of_ble_eq_true rfl) (Nat.le_of_ble_eq_true rfl) (Nat.le_of_ble_eq_true rfl)
set_option maxRecDepth 100000 in
set_option maxHeartbeats 4000000 in
theorem c_X6_turn (Z : gZ) (l : Launch) (AD : Nat → Nat) (M : St) (n : Nat) (hn : 78 ≤ n) (nm i : Nat) (hM : okM M 0 nm) (hi : i < nm) (d : Int32) (h1 : ¬ d < 0) (h2 : ¬ 100 < d) : gM Z l yX6_turn cX6_turn 5 (some .int) ({ frames := 3, cells := 0, slots := 0, locals := 65 } : Room) [.ref (AD 0), .int (nI i), .int d] (wC Z AD M n) (some (.int (M 9 (8 * 0 + i) 0))) (wC Z AD (turF M i d) n) 0 0 := by
  refine gM_of (by decide +kernel) (Nat.le_of_ble_eq_true rfl) ?_
  intro pP eE sS mI aA bB mE cC A F hname hG ls hl
  have hx := F.1
  have hb := F.2.1
  have hl : lv_has ls 5 [(0, .ref (AD 0)), (1, .int (nI i)), (2, .int d)] := hl
  have hnm2 := hM.2
  refine lv_aload_n hx hb dX6_turn_0 rfl (lv_at hl 0 rfl) ?_
  refine lv_iload_n hx hb dX6_turn_1 rfl (lv_at hl 1 rfl) ?_
  refine gg_callV F hG (ci := 6) (As := [.int (nI i)]) (rest := []) (c_X6_setOf Z l AD M _ hn _ i hM hi) kY_X6_setOf kV_X6_setOf (gC_root hn) rfl rfl w2_206 rfl ⟨rfl, rfl⟩ ⟨(Nat.le_of_ble_eq_true rfl), (Nat.le_of_ble_eq_true rfl)⟩ rfl (Nat.le_of_ble_eq_true rfl) hl.1 ⟨Nat.zero_le _, Nat.zero_le _⟩ dX6_turn_2 rfl (fun H locs hG => ?_)
  refine lv_astore_n (lv' := [(3, .ref (AD (9 + (8 * 0 + i)))), (0, .ref (AD 0)), (1, .int (nI i)), (2, .int d)]) hx hb dX6_turn_5 rfl hl (by decide) rfl (fun ls hl => ?_)
  refine lv_iload_n hx hb dX6_turn_6 rfl (lv_at hl 3 rfl) ?_
  refine lv_iconst (v := 0) hx hb dX6_turn_7 (by decide) ?_
  refine lv_bipush (v := 100) hx hb dX6_turn_8 (by decide) ?_
  refine gg_callS F hG (As := [.int d, .int 0, .int 100]) (rest := []) (c_X6_isWithin Z l d 0 100 _) kY_X6_isWithin kV_X6_isWithin w2_49 rfl ⟨rfl, rfl⟩ ⟨(Nat.le_of_ble_eq_true rfl), (Nat.le_of_ble_eq_true rfl)⟩ rfl (Nat.le_of_ble_eq_true rfl) hl.1 ⟨Nat.zero_le _, Nat.zero_le _⟩ dX6_turn_10 rfl (fun H locs hG => ?_)
  rw [show (wthF d 0 100 : Int32) = 1 from wth_1 h1 h2]
  refine lv_if_ne (tgt := 26) hx hb dX6_turn_13 (by decide) (fun h13 => ?_) (fun h13 => absurd h13 (by decide))
  refine lv_aload_n hx hb dX6_turn_26 rfl (lv_at hl 0 rfl) ?_
  refine gg_getN F hG (ci := 1) (v := .int (M 9 (8 * 0 + i) 0)) 1 gcX1 rfl (gC_cset (by omega) hn) (by decide) wn_3 rfl dX6_turn_27 ?_
  refine lv_istore (lv' := [(4, .int (M 9 (8 * 0 + i) 0)), (3, .ref (AD (9 + (8 * 0 + i)))), (0, .ref (AD 0)), (1, .int (nI i)), (2, .int d)]) hx hb dX6_turn_30 hl (by decide) rfl (fun ls hl => ?_)
  refine lv_aload_n hx hb dX6_turn_32 rfl (lv_at hl 1 rfl) ?_
  refine lv_aload_n hx hb dX6_turn_33 rfl (lv_at hl 1 rfl) ?_
  refine gg_getN F hG (ci := 1) (v := .int (M 8 (8 * 0 + i) 0)) 0 gcX1 rfl (gC_cset (by omega) hn) (by decide) wn_1 rfl dX6_turn_34 ?_
  refine lv_iload_n hx hb dX6_turn_37 rfl (lv_at hl 4 rfl) ?_
  refine gg_callV F hG (ci := 1) (As := [.int (M 8 (8 * 0 + i) 0), .int d]) (rest := []) (c_X1_tune Z l AD M _ hn (8 * 0 + i) (by omega) (M 8 (8 * 0 + i) 0) d) kY_X1_tune kV_X1_tune (gC_cset (by omega) hn) rfl rfl w2_232 rfl ⟨rfl, rfl⟩ ⟨(Nat.le_of_ble_eq_true rfl), (Nat.le_of_ble_eq_true rfl)⟩ rfl (Nat.le_of_ble_eq_true rfl) hl.1 ⟨Nat.zero_le _, Nat.zero_le _⟩ dX6_turn_38 rfl (fun H locs hG => ?_)
  refine lv_iload hx hb dX6_turn_41 (lv_at hl 0 rfl) ?_
  exact gg_iret F hG rfl rfl rfl dX6_turn_43
set_option maxRecDepth 100000 in
set_option maxHeartbeats 4000000 in
theorem x_X6_turn_m (Z : gZ) (l : Launch) (hst : l.stackTraces = false) (AD : Nat → Nat) (M : St) (n : Nat) (hn : 78 ≤ n) (nm : Nat) (hM : okM M 0 nm) (x d : Int32) (hxo : x < 0 ∨ nI nm ≤ x) : gX Z l yX6_turn cX6_turn 5 (some .int) ({ frames := 8, cells := 1, slots := 6, locals := 125 } : Room) [.ref (AD 0), .int x, .int d] (wC Z AD M n) xIO 1 6 := by
  refine gX_of (by decide +kernel) (Nat.le_of_ble_eq_true rfl) ?_
  intro pP eE sS mI aA bB mE cC A F htab hxK hxZ hG ls hl
  have hx := F.1
  have hb := F.2.1
  have hl : lv_has ls 5 [(0, .ref (AD 0)), (1, .int x), (2, .int d)] := hl
  refine lv_aload_n hx hb dX6_turn_0 rfl (lv_at hl 0 rfl) ?_
  refine lv_iload_n hx hb dX6_turn_1 rfl (lv_at hl 1 rfl) ?_
  exact gx_callV F htab hxK hxZ hG (ci := 6) (As := [.int x]) (rest := []) (x_X6_setOf Z l hst AD M _ hn _ hM x hxo) kY_X6_setOf kV_X6_setOf (gC_root hn) rfl rfl w2_206 rfl ⟨rfl, rfl⟩ ⟨(Nat.le_of_ble_eq_true rfl), (Nat.le_of_ble_eq_true rfl)⟩ rfl (Nat.le_of_ble_eq_true rfl) hl.1 ⟨(Nat.le_of_ble_eq_true rfl), (Nat.le_of_ble_eq_true rfl)⟩ ⟨(Nat.le_of_ble_eq_true rfl), (Nat.le_of_ble_eq_true rfl)⟩ dX6_turn_2
set_option maxRecDepth 100000 in
set_option maxHeartbeats 4000000 in
theorem x_X6_turn_d (Z : gZ) (l : Launch) (hst : l.stackTraces = false) (AD : Nat → Nat) (M : St) (n : Nat) (hn : 78 ≤ n) (nm i : Nat) (hM : okM M 0 nm) (hi : i < nm) (d : Int32) (ho : d < 0 ∨ 100 < d) : gX Z l yX6_turn cX6_turn 5 (some .int) ({ frames := 6, cells := 1, slots := 6, locals := 82 } : Room) [.ref (AD 0), .int (nI i), .int d] (wC Z AD M n) xIA 1 6 := by
  refine gX_of (by decide +kernel) (Nat.le_of_ble_eq_true rfl) ?_
  intro pP eE sS mI aA bB mE cC A F htab hxK hxZ hG ls hl
  have hx := F.1
  have hb := F.2.1
  have hl : lv_has ls 5 [(0, .ref (AD 0)), (1, .int (nI i)), (2, .int d)] := hl
  have hnm2 := hM.2
  refine lv_aload_n hx hb dX6_turn_0 rfl (lv_at hl 0 rfl) ?_
  refine lv_iload_n hx hb dX6_turn_1 rfl (lv_at hl 1 rfl) ?_
  refine gg_callV F hG (ci := 6) (As := [.int (nI i)]) (rest := []) (c_X6_setOf Z l AD M _ hn _ i hM hi) kY_X6_setOf kV_X6_setOf (gC_root hn) rfl rfl w2_206 rfl ⟨rfl, rfl⟩ ⟨(Nat.le_of_ble_eq_true rfl), (Nat.le_of_ble_eq_true rfl)⟩ rfl (Nat.le_of_ble_eq_true rfl) hl.1 ⟨Nat.zero_le _, Nat.zero_le _⟩ dX6_turn_2 rfl (fun H locs hG => ?_)
  refine lv_astore_n (lv' := [(3, .ref (AD (9 + (8 * 0 + i)))), (0, .ref (AD 0)), (1, .int (nI i)), (2, .int d)]) hx hb dX6_turn_5 rfl hl (by decide) rfl (fun ls hl => ?_)
  refine lv_iload_n hx hb dX6_turn_6 rfl (lv_at hl 3 rfl) ?_
  refine lv_iconst (v := 0) hx hb dX6_turn_7 (by decide) ?_
  refine lv_bipush (v := 100) hx hb dX6_turn_8 (by decide) ?_
  refine gg_callS F hG (As := [.int d, .int 0, .int 100]) (rest := []) (c_X6_isWithin Z l d 0 100 _) kY_X6_isWithin kV_X6_isWithin w2_49 rfl ⟨rfl, rfl⟩ ⟨(Nat.le_of_ble_eq_true rfl), (Nat.le_of_ble_eq_true rfl)⟩ rfl (Nat.le_of_ble_eq_true rfl) hl.1 ⟨Nat.zero_le _, Nat.zero_le _⟩ dX6_turn_10 rfl (fun H locs hG => ?_)
  rw [show (wthF d 0 100 : Int32) = 0 from wth_0 ho]
  refine lv_if_ne (tgt := 26) hx hb dX6_turn_13 (by decide) (fun h13 => absurd rfl h13) (fun h13 => ?_)
  exact gg_throw F htab hxK hxZ hG hst xE_IA (List.mem_of_getElem? (i := 6) rfl) hl.1 dX6_turn_16 dX6_turn_19 dX6_turn_20 dX6_turn_22 dX6_turn_25 (Nat.le_of_ble_eq_true rfl) (Nat.le_of_ble_eq_true rfl) (Nat.le_of_ble_eq_true rfl) (Nat.le_of_ble_eq_true rfl) (Nat.le_of_ble_eq_true rfl) (Nat.le_of_ble_eq_true rfl)
set_option maxRecDepth 100000 in
set_option maxHeartbeats 4000000 in
theorem c_X6_wind (Z : gZ) (l : Launch) (AD : Nat → Nat) (M : St) (n : Nat) (hn : 78 ≤ n) (nm i : Nat) (hM : okM M 0 nm) (hi : i < nm) (t : Int32) (h1 : ¬ t < 20) (h2 : ¬ 200 < t) : gM Z l yX6_wind cX6_wind 5 (some .int) ({ frames := 3, cells := 0, slots := 0, locals := 65 } : Room) [.ref (AD 0), .int (nI i), .int t] (wC Z AD M n) (some (.int (M 8 (8 * 0 + i) 0))) (wC Z AD (winF M i t) n) 0 0 := by
  refine gM_of (by decide +kernel) (Nat.le_of_ble_eq_true rfl) ?_
  intro pP eE sS mI aA bB mE cC A F hname hG ls hl
  have hx := F.1
  have hb := F.2.1
  have hl : lv_has ls 5 [(0, .ref (AD 0)), (1, .int (nI i)), (2, .int t)] := hl
  have hnm2 := hM.2
  refine lv_aload_n hx hb dX6_wind_0 rfl (lv_at hl 0 rfl) ?_
  refine lv_iload_n hx hb dX6_wind_1 rfl (lv_at hl 1 rfl) ?_
  refine gg_callV F hG (ci := 6) (As := [.int (nI i)]) (rest := []) (c_X6_setOf Z l AD M _ hn _ i hM hi) kY_X6_setOf kV_X6_setOf (gC_root hn) rfl rfl w2_206 rfl ⟨rfl, rfl⟩ ⟨(Nat.le_of_ble_eq_true rfl), (Nat.le_of_ble_eq_true rfl)⟩ rfl (Nat.le_of_ble_eq_true rfl) hl.1 ⟨Nat.zero_le _, Nat.zero_le _⟩ dX6_wind_2 rfl (fun H locs hG => ?_)
  refine lv_astore_n (lv' := [(3, .ref (AD (9 + (8 * 0 + i)))), (0, .ref (AD 0)), (1, .int (nI i)), (2, .int t)]) hx hb dX6_wind_5 rfl hl (by decide) rfl (fun ls hl => ?_)
  refine lv_iload_n hx hb dX6_wind_6 rfl (lv_at hl 3 rfl) ?_
  refine lv_bipush (v := 20) hx hb dX6_wind_7 (by decide) ?_
  refine lv_sipush (v := 200) hx hb dX6_wind_9 (by decide) ?_
  refine gg_callS F hG (As := [.int t, .int 20, .int 200]) (rest := []) (c_X6_isWithin Z l t 20 200 _) kY_X6_isWithin kV_X6_isWithin w2_49 rfl ⟨rfl, rfl⟩ ⟨(Nat.le_of_ble_eq_true rfl), (Nat.le_of_ble_eq_true rfl)⟩ rfl (Nat.le_of_ble_eq_true rfl) hl.1 ⟨Nat.zero_le _, Nat.zero_le _⟩ dX6_wind_12 rfl (fun H locs hG => ?_)
  rw [show (wthF t 20 200 : Int32) = 1 from wth_1 h1 h2]
  refine lv_if_ne (tgt := 28) hx hb dX6_wind_15 (by decide) (fun h15 => ?_) (fun h15 => absurd h15 (by decide))
  refine lv_aload_n hx hb dX6_wind_28 rfl (lv_at hl 0 rfl) ?_
  refine gg_getN F hG (ci := 1) (v := .int (M 8 (8 * 0 + i) 0)) 0 gcX1 rfl (gC_cset (by omega) hn) (by decide) wn_1 rfl dX6_wind_29 ?_
  refine lv_istore (lv' := [(4, .int (M 8 (8 * 0 + i) 0)), (3, .ref (AD (9 + (8 * 0 + i)))), (0, .ref (AD 0)), (1, .int (nI i)), (2, .int t)]) hx hb dX6_wind_32 hl (by decide) rfl (fun ls hl => ?_)
  refine lv_aload_n hx hb dX6_wind_34 rfl (lv_at hl 1 rfl) ?_
  refine lv_iload_n hx hb dX6_wind_35 rfl (lv_at hl 4 rfl) ?_
  refine lv_aload_n hx hb dX6_wind_36 rfl (lv_at hl 1 rfl) ?_
  refine gg_getN F hG (ci := 1) (v := .int (M 9 (8 * 0 + i) 0)) 1 gcX1 rfl (gC_cset (by omega) hn) (by decide) wn_3 rfl dX6_wind_37 ?_
  refine gg_callV F hG (ci := 1) (As := [.int t, .int (M 9 (8 * 0 + i) 0)]) (rest := []) (c_X1_tune Z l AD M _ hn (8 * 0 + i) (by omega) t (M 9 (8 * 0 + i) 0)) kY_X1_tune kV_X1_tune (gC_cset (by omega) hn) rfl rfl w2_232 rfl ⟨rfl, rfl⟩ ⟨(Nat.le_of_ble_eq_true rfl), (Nat.le_of_ble_eq_true rfl)⟩ rfl (Nat.le_of_ble_eq_true rfl) hl.1 ⟨Nat.zero_le _, Nat.zero_le _⟩ dX6_wind_40 rfl (fun H locs hG => ?_)
  refine lv_iload hx hb dX6_wind_43 (lv_at hl 0 rfl) ?_
  exact gg_iret F hG rfl rfl rfl dX6_wind_45
set_option maxRecDepth 100000 in
set_option maxHeartbeats 4000000 in
theorem x_X6_wind_m (Z : gZ) (l : Launch) (hst : l.stackTraces = false) (AD : Nat → Nat) (M : St) (n : Nat) (hn : 78 ≤ n) (nm : Nat) (hM : okM M 0 nm) (x d : Int32) (hxo : x < 0 ∨ nI nm ≤ x) : gX Z l yX6_wind cX6_wind 5 (some .int) ({ frames := 8, cells := 1, slots := 6, locals := 125 } : Room) [.ref (AD 0), .int x, .int d] (wC Z AD M n) xIO 1 6 := by
  refine gX_of (by decide +kernel) (Nat.le_of_ble_eq_true rfl) ?_
  intro pP eE sS mI aA bB mE cC A F htab hxK hxZ hG ls hl
  have hx := F.1
  have hb := F.2.1
  have hl : lv_has ls 5 [(0, .ref (AD 0)), (1, .int x), (2, .int d)] := hl
  refine lv_aload_n hx hb dX6_wind_0 rfl (lv_at hl 0 rfl) ?_
  refine lv_iload_n hx hb dX6_wind_1 rfl (lv_at hl 1 rfl) ?_
  exact gx_callV F htab hxK hxZ hG (ci := 6) (As := [.int x]) (rest := []) (x_X6_setOf Z l hst AD M _ hn _ hM x hxo) kY_X6_setOf kV_X6_setOf (gC_root hn) rfl rfl w2_206 rfl ⟨rfl, rfl⟩ ⟨(Nat.le_of_ble_eq_true rfl), (Nat.le_of_ble_eq_true rfl)⟩ rfl (Nat.le_of_ble_eq_true rfl) hl.1 ⟨(Nat.le_of_ble_eq_true rfl), (Nat.le_of_ble_eq_true rfl)⟩ ⟨(Nat.le_of_ble_eq_true rfl), (Nat.le_of_ble_eq_true rfl)⟩ dX6_wind_2
set_option maxRecDepth 100000 in
set_option maxHeartbeats 4000000 in
theorem x_X6_wind_d (Z : gZ) (l : Launch) (hst : l.stackTraces = false) (AD : Nat → Nat) (M : St) (n : Nat) (hn : 78 ≤ n) (nm i : Nat) (hM : okM M 0 nm) (hi : i < nm) (t : Int32) (ho : t < 20 ∨ 200 < t) : gX Z l yX6_wind cX6_wind 5 (some .int) ({ frames := 6, cells := 1, slots := 6, locals := 82 } : Room) [.ref (AD 0), .int (nI i), .int t] (wC Z AD M n) xIA 1 6 := by
  refine gX_of (by decide +kernel) (Nat.le_of_ble_eq_true rfl) ?_
  intro pP eE sS mI aA bB mE cC A F htab hxK hxZ hG ls hl
  have hx := F.1
  have hb := F.2.1
  have hl : lv_has ls 5 [(0, .ref (AD 0)), (1, .int (nI i)), (2, .int t)] := hl
  have hnm2 := hM.2
  refine lv_aload_n hx hb dX6_wind_0 rfl (lv_at hl 0 rfl) ?_
  refine lv_iload_n hx hb dX6_wind_1 rfl (lv_at hl 1 rfl) ?_
  refine gg_callV F hG (ci := 6) (As := [.int (nI i)]) (rest := []) (c_X6_setOf Z l AD M _ hn _ i hM hi) kY_X6_setOf kV_X6_setOf (gC_root hn) rfl rfl w2_206 rfl ⟨rfl, rfl⟩ ⟨(Nat.le_of_ble_eq_true rfl), (Nat.le_of_ble_eq_true rfl)⟩ rfl (Nat.le_of_ble_eq_true rfl) hl.1 ⟨Nat.zero_le _, Nat.zero_le _⟩ dX6_wind_2 rfl (fun H locs hG => ?_)
  refine lv_astore_n (lv' := [(3, .ref (AD (9 + (8 * 0 + i)))), (0, .ref (AD 0)), (1, .int (nI i)), (2, .int t)]) hx hb dX6_wind_5 rfl hl (by decide) rfl (fun ls hl => ?_)
  refine lv_iload_n hx hb dX6_wind_6 rfl (lv_at hl 3 rfl) ?_
  refine lv_bipush (v := 20) hx hb dX6_wind_7 (by decide) ?_
  refine lv_sipush (v := 200) hx hb dX6_wind_9 (by decide) ?_
  refine gg_callS F hG (As := [.int t, .int 20, .int 200]) (rest := []) (c_X6_isWithin Z l t 20 200 _) kY_X6_isWithin kV_X6_isWithin w2_49 rfl ⟨rfl, rfl⟩ ⟨(Nat.le_of_ble_eq_true rfl), (Nat.le_of_ble_eq_true rfl)⟩ rfl (Nat.le_of_ble_eq_true rfl) hl.1 ⟨Nat.zero_le _, Nat.zero_le _⟩ dX6_wind_12 rfl (fun H locs hG => ?_)
  rw [show (wthF t 20 200 : Int32) = 0 from wth_0 ho]
  refine lv_if_ne (tgt := 28) hx hb dX6_wind_15 (by decide) (fun h15 => absurd rfl h15) (fun h15 => ?_)
  exact gg_throw F htab hxK hxZ hG hst xE_IA (List.mem_of_getElem? (i := 7) rfl) hl.1 dX6_wind_18 dX6_wind_21 dX6_wind_22 dX6_wind_24 dX6_wind_27 (Nat.le_of_ble_eq_true rfl) (Nat.le_of_ble_eq_true rfl) (Nat.le_of_ble_eq_true rfl) (Nat.le_of_ble_eq_true rfl) (Nat.le_of_ble_eq_true rfl) (Nat.le_of_ble_eq_true rfl)
set_option maxRecDepth 100000 in
set_option maxHeartbeats 4000000 in
theorem c_X6_listen (Z : gZ) (l : Launch) (AD : Nat → Nat) (M : St) (n : Nat) (hn : 78 ≤ n) (nm i : Nat) (hM : okM M 0 nm) (hi : i < nm) (b : Int32) (hb01 : b = 0 ∨ b = 1) (hl01 : M 14 (8 * 0 + i) 0 = 0 ∨ M 14 (8 * 0 + i) 0 = 1) : gM Z l yX6_listen cX6_listen 5 (some .boolean) ({ frames := 2, cells := 0, slots := 0, locals := 44 } : Room) [.ref (AD 0), .int (nI i), .int b] (wC Z AD M n) (some (.int (M 14 (8 * 0 + i) 0))) (wC Z AD (mu M 14 (8 * 0 + i) 0 b) n) 0 0 := by
  refine gM_of (by decide +kernel) (Nat.le_of_ble_eq_true rfl) ?_
  intro pP eE sS mI aA bB mE cC A F hname hG ls hl
  have hx := F.1
  have hb := F.2.1
  have hl : lv_has ls 5 [(0, .ref (AD 0)), (1, .int (nI i)), (2, .int b)] := hl
  have hnm2 := hM.2
  refine lv_aload_n hx hb dX6_listen_0 rfl (lv_at hl 0 rfl) ?_
  refine lv_iload_n hx hb dX6_listen_1 rfl (lv_at hl 1 rfl) ?_
  refine gg_callV F hG (ci := 6) (As := [.int (nI i)]) (rest := []) (c_X6_memberOf Z l AD M _ hn _ i hM hi) kY_X6_memberOf kV_X6_memberOf (gC_root hn) rfl rfl w2_210 rfl ⟨rfl, rfl⟩ ⟨(Nat.le_of_ble_eq_true rfl), (Nat.le_of_ble_eq_true rfl)⟩ rfl (Nat.le_of_ble_eq_true rfl) hl.1 ⟨Nat.zero_le _, Nat.zero_le _⟩ dX6_listen_2 rfl (fun H locs hG => ?_)
  refine lv_astore_n (lv' := [(3, .ref (AD (26 + (8 * 0 + i)))), (0, .ref (AD 0)), (1, .int (nI i)), (2, .int b)]) hx hb dX6_listen_5 rfl hl (by decide) rfl (fun ls hl => ?_)
  refine lv_aload_n hx hb dX6_listen_6 rfl (lv_at hl 0 rfl) ?_
  refine gg_getN F hG (ci := 3) (v := .int (M 14 (8 * 0 + i) 0)) 2 gcX3 rfl (gC_memb (by omega) hn) (by decide) wn_20 rfl dX6_listen_7 ?_
  refine lv_istore (lv' := [(4, .int (M 14 (8 * 0 + i) 0)), (3, .ref (AD (26 + (8 * 0 + i)))), (0, .ref (AD 0)), (1, .int (nI i)), (2, .int b)]) hx hb dX6_listen_10 hl (by decide) rfl (fun ls hl => ?_)
  refine lv_aload_n hx hb dX6_listen_12 rfl (lv_at hl 1 rfl) ?_
  refine lv_iload_n hx hb dX6_listen_13 rfl (lv_at hl 4 rfl) ?_
  refine gg_putN F hG (ci := 3) 2 gcX3 rfl (gC_memb (by omega) hn) (by decide) wn_20 rfl (b01 hb01).1 (b01 hb01).2 (Nat.le_of_ble_eq_true rfl) (pC_14 (by omega)) dX6_listen_14 (fun H locs hG => ?_)
  have hG : gG Z A sS (wC Z AD (mu M 14 (8 * 0 + i) 0 b) n) H locs := hG
  refine lv_iload hx hb dX6_listen_17 (lv_at hl 0 rfl) ?_
  exact gg_iret F hG (b01 hl01).1 rfl rfl dX6_listen_19
set_option maxRecDepth 100000 in
set_option maxHeartbeats 4000000 in
theorem x_X6_listen_m (Z : gZ) (l : Launch) (hst : l.stackTraces = false) (AD : Nat → Nat) (M : St) (n : Nat) (hn : 78 ≤ n) (nm : Nat) (hM : okM M 0 nm) (x d : Int32) (hxo : x < 0 ∨ nI nm ≤ x) : gX Z l yX6_listen cX6_listen 5 (some .boolean) ({ frames := 7, cells := 1, slots := 6, locals := 104 } : Room) [.ref (AD 0), .int x, .int d] (wC Z AD M n) xIO 1 6 := by
  refine gX_of (by decide +kernel) (Nat.le_of_ble_eq_true rfl) ?_
  intro pP eE sS mI aA bB mE cC A F htab hxK hxZ hG ls hl
  have hx := F.1
  have hb := F.2.1
  have hl : lv_has ls 5 [(0, .ref (AD 0)), (1, .int x), (2, .int d)] := hl
  refine lv_aload_n hx hb dX6_listen_0 rfl (lv_at hl 0 rfl) ?_
  refine lv_iload_n hx hb dX6_listen_1 rfl (lv_at hl 1 rfl) ?_
  exact gx_callV F htab hxK hxZ hG (ci := 6) (As := [.int x]) (rest := []) (x_X6_memberOf Z l hst AD M _ hn _ hM x hxo) kY_X6_memberOf kV_X6_memberOf (gC_root hn) rfl rfl w2_210 rfl ⟨rfl, rfl⟩ ⟨(Nat.le_of_ble_eq_true rfl), (Nat.le_of_ble_eq_true rfl)⟩ rfl (Nat.le_of_ble_eq_true rfl) hl.1 ⟨(Nat.le_of_ble_eq_true rfl), (Nat.le_of_ble_eq_true rfl)⟩ ⟨(Nat.le_of_ble_eq_true rfl), (Nat.le_of_ble_eq_true rfl)⟩ dX6_listen_2
set_option maxRecDepth 100000 in
set_option maxHeartbeats 4000000 in
theorem c_X6_renew (Z : gZ) (l : Launch) (AD : Nat → Nat) (M : St) (n : Nat) (hn : 78 ≤ n) (nm i : Nat) (hM : okM M 0 nm) (hi : i < nm) : gM Z l yX6_renew cX6_renew 4 (some .int) ({ frames := 3, cells := 0, slots := 0, locals := 65 } : Room) [.ref (AD 0), .int (nI i)] (wC Z AD M n) (some (.int (M 11 (8 * 0 + i) 0))) (wC Z AD (mu M 11 (8 * 0 + i) 0 9) n) 0 0 := by
  refine gM_of (by decide +kernel) (Nat.le_of_ble_eq_true rfl) ?_
  intro pP eE sS mI aA bB mE cC A F hname hG ls hl
  have hx := F.1
  have hb := F.2.1
  have hl : lv_has ls 4 [(0, .ref (AD 0)), (1, .int (nI i))] := hl
  have hnm2 := hM.2
  refine lv_aload_n hx hb dX6_renew_0 rfl (lv_at hl 0 rfl) ?_
  refine lv_iload_n hx hb dX6_renew_1 rfl (lv_at hl 1 rfl) ?_
  refine gg_callV F hG (ci := 6) (As := [.int (nI i)]) (rest := []) (c_X6_setOf Z l AD M _ hn _ i hM hi) kY_X6_setOf kV_X6_setOf (gC_root hn) rfl rfl w2_206 rfl ⟨rfl, rfl⟩ ⟨(Nat.le_of_ble_eq_true rfl), (Nat.le_of_ble_eq_true rfl)⟩ rfl (Nat.le_of_ble_eq_true rfl) hl.1 ⟨Nat.zero_le _, Nat.zero_le _⟩ dX6_renew_2 rfl (fun H locs hG => ?_)
  refine lv_astore_n (lv' := [(2, .ref (AD (9 + (8 * 0 + i)))), (0, .ref (AD 0)), (1, .int (nI i))]) hx hb dX6_renew_5 rfl hl (by decide) rfl (fun ls hl => ?_)
  refine lv_aload_n hx hb dX6_renew_6 rfl (lv_at hl 0 rfl) ?_
  refine gg_getN F hG (ci := 1) (v := .int (M 11 (8 * 0 + i) 0)) 3 gcX1 rfl (gC_cset (by omega) hn) (by decide) wn_8 rfl dX6_renew_7 ?_
  refine lv_istore_n (lv' := [(3, .int (M 11 (8 * 0 + i) 0)), (2, .ref (AD (9 + (8 * 0 + i)))), (0, .ref (AD 0)), (1, .int (nI i))]) hx hb dX6_renew_10 rfl hl (by decide) rfl (fun ls hl => ?_)
  refine lv_aload_n hx hb dX6_renew_11 rfl (lv_at hl 1 rfl) ?_
  refine lv_bipush (v := 9) hx hb dX6_renew_12 (by decide) ?_
  refine gg_putN F hG (ci := 1) 3 gcX1 rfl (gC_cset (by omega) hn) (by decide) wn_8 rfl rfl rfl (Nat.le_of_ble_eq_true rfl) (pC_11 (by omega)) dX6_renew_14 (fun H locs hG => ?_)
  have hG : gG Z A sS (wC Z AD (mu M 11 (8 * 0 + i) 0 9) n) H locs := hG
  refine lv_iload_n hx hb dX6_renew_17 rfl (lv_at hl 0 rfl) ?_
  exact gg_iret F hG rfl rfl rfl dX6_renew_18
set_option maxRecDepth 100000 in
set_option maxHeartbeats 4000000 in
theorem x_X6_renew_m (Z : gZ) (l : Launch) (hst : l.stackTraces = false) (AD : Nat → Nat) (M : St) (n : Nat) (hn : 78 ≤ n) (nm : Nat) (hM : okM M 0 nm) (x : Int32) (hxo : x < 0 ∨ nI nm ≤ x) : gX Z l yX6_renew cX6_renew 4 (some .int) ({ frames := 8, cells := 1, slots := 6, locals := 125 } : Room) [.ref (AD 0), .int x] (wC Z AD M n) xIO 1 6 := by
  refine gX_of (by decide +kernel) (Nat.le_of_ble_eq_true rfl) ?_
  intro pP eE sS mI aA bB mE cC A F htab hxK hxZ hG ls hl
  have hx := F.1
  have hb := F.2.1
  have hl : lv_has ls 4 [(0, .ref (AD 0)), (1, .int x)] := hl
  refine lv_aload_n hx hb dX6_renew_0 rfl (lv_at hl 0 rfl) ?_
  refine lv_iload_n hx hb dX6_renew_1 rfl (lv_at hl 1 rfl) ?_
  exact gx_callV F htab hxK hxZ hG (ci := 6) (As := [.int x]) (rest := []) (x_X6_setOf Z l hst AD M _ hn _ hM x hxo) kY_X6_setOf kV_X6_setOf (gC_root hn) rfl rfl w2_206 rfl ⟨rfl, rfl⟩ ⟨(Nat.le_of_ble_eq_true rfl), (Nat.le_of_ble_eq_true rfl)⟩ rfl (Nat.le_of_ble_eq_true rfl) hl.1 ⟨(Nat.le_of_ble_eq_true rfl), (Nat.le_of_ble_eq_true rfl)⟩ ⟨(Nat.le_of_ble_eq_true rfl), (Nat.le_of_ble_eq_true rfl)⟩ dX6_renew_2
set_option maxRecDepth 100000 in
set_option maxHeartbeats 4000000 in
theorem c_X6_station (Z : gZ) (l : Launch) (AD : Nat → Nat) (M : St) (n : Nat) (hn : 78 ≤ n) (ns nm k v : Nat) (hS : okS M 0 ns n) (hM : okM M 0 nm) (hZ : okZ M 0 nm) (hk : k < ns) (hv : v < 6) : gM Z l yX6_station cX6_station 3 (some .int) ({ frames := 4, cells := 0, slots := 0, locals := 92 } : Room) [.ref (AD 0), .int (nI k), .int (nI v)] (wC Z AD M n) (some (.int (tesF M 0 nm k v))) (wC Z AD M n) 0 0 := by
  refine gM_of (by decide +kernel) (Nat.le_of_ble_eq_true rfl) ?_
  intro pP eE sS mI aA bB mE cC A F hname hG ls hl
  have hx := F.1
  have hb := F.2.1
  have hl : lv_has ls 3 [(0, .ref (AD 0)), (1, .int (nI k)), (2, .int (nI v))] := hl
  have hns2 := hS.2.1
  have hns3 := hS.2.2.1
  refine lv_aload_n hx hb dX6_station_0 rfl (lv_at hl 0 rfl) ?_
  refine lv_iload_n hx hb dX6_station_1 rfl (lv_at hl 1 rfl) ?_
  refine gg_callV F hG (ci := 6) (As := [.int (nI k)]) (rest := []) (c_X6_stationOf Z l AD M _ hn _ k hS hk) kY_X6_stationOf kV_X6_stationOf (gC_root hn) rfl rfl w3_22 rfl ⟨rfl, rfl⟩ ⟨(Nat.le_of_ble_eq_true rfl), (Nat.le_of_ble_eq_true rfl)⟩ rfl (Nat.le_of_ble_eq_true rfl) hl.1 ⟨Nat.zero_le _, Nat.zero_le _⟩ dX6_station_2 rfl (fun H locs hG => ?_)
  refine lv_pop hx hb dX6_station_5 rfl ?_
  refine lv_iload_n hx hb dX6_station_6 rfl (lv_at hl 2 rfl) ?_
  refine lv_bipush (v := 6) hx hb dX6_station_7 (by decide) ?_
  refine gg_callS F hG (As := [.int (nI v), .int 6]) (rest := []) (c_X6_refuseUnlessWithin Z l (nI v) 6 (nI_pos (by omega)) (nI_lt (b := 6) hv (by decide)) _) kY_X6_refuseUnlessWithin kV_X6_refuseUnlessWithin w3_28 rfl ⟨rfl, rfl⟩ ⟨(Nat.le_of_ble_eq_true rfl), (Nat.le_of_ble_eq_true rfl)⟩ rfl (Nat.le_of_ble_eq_true rfl) hl.1 ⟨Nat.zero_le _, Nat.zero_le _⟩ dX6_station_9 rfl (fun H locs hG => ?_)
  refine lv_aload_n hx hb dX6_station_12 rfl (lv_at hl 0 rfl) ?_
  refine gg_get F hG (ci := 6) (v := .ref (AD (1 + 0))) 0 gcX6 rfl (gC_root hn) (by decide) w1_168 rfl dX6_station_13 ?_
  refine lv_iload_n hx hb dX6_station_16 rfl (lv_at hl 1 rfl) ?_
  refine lv_iload_n hx hb dX6_station_17 rfl (lv_at hl 2 rfl) ?_
  refine gg_callV F hG (ci := 0) (As := [.int (nI k), .int (nI v)]) (rest := []) (c_X0_tellStation Z l AD M _ hn 0 _ _ k (by omega) hS hM hZ hk v hv) kY_X0_tellStation kV_X0_tellStation (gC_club (by omega) hn) rfl rfl w3_32 rfl ⟨rfl, rfl⟩ ⟨(Nat.le_of_ble_eq_true rfl), (Nat.le_of_ble_eq_true rfl)⟩ rfl (Nat.le_of_ble_eq_true rfl) hl.1 ⟨Nat.zero_le _, Nat.zero_le _⟩ dX6_station_18 rfl (fun H locs hG => ?_)
  exact gg_iret F hG rfl rfl rfl dX6_station_21
set_option maxRecDepth 100000 in
set_option maxHeartbeats 4000000 in
theorem x_X6_station_s (Z : gZ) (l : Launch) (hst : l.stackTraces = false) (AD : Nat → Nat) (M : St) (n : Nat) (hn : 78 ≤ n) (ns : Nat) (hS : okS M 0 ns n) (x y : Int32) (hxo : x < 0 ∨ nI ns ≤ x) : gX Z l yX6_station cX6_station 3 (some .int) ({ frames := 7, cells := 1, slots := 6, locals := 104 } : Room) [.ref (AD 0), .int x, .int y] (wC Z AD M n) xIO 1 6 := by
  refine gX_of (by decide +kernel) (Nat.le_of_ble_eq_true rfl) ?_
  intro pP eE sS mI aA bB mE cC A F htab hxK hxZ hG ls hl
  have hx := F.1
  have hb := F.2.1
  have hl : lv_has ls 3 [(0, .ref (AD 0)), (1, .int x), (2, .int y)] := hl
  refine lv_aload_n hx hb dX6_station_0 rfl (lv_at hl 0 rfl) ?_
  refine lv_iload_n hx hb dX6_station_1 rfl (lv_at hl 1 rfl) ?_
  exact gx_callV F htab hxK hxZ hG (ci := 6) (As := [.int x]) (rest := []) (x_X6_stationOf Z l hst AD M _ hn _ hS x hxo) kY_X6_stationOf kV_X6_stationOf (gC_root hn) rfl rfl w3_22 rfl ⟨rfl, rfl⟩ ⟨(Nat.le_of_ble_eq_true rfl), (Nat.le_of_ble_eq_true rfl)⟩ rfl (Nat.le_of_ble_eq_true rfl) hl.1 ⟨(Nat.le_of_ble_eq_true rfl), (Nat.le_of_ble_eq_true rfl)⟩ ⟨(Nat.le_of_ble_eq_true rfl), (Nat.le_of_ble_eq_true rfl)⟩ dX6_station_2
set_option maxRecDepth 100000 in
set_option maxHeartbeats 4000000 in
theorem x_X6_station_w (Z : gZ) (l : Launch) (hst : l.stackTraces = false) (AD : Nat → Nat) (M : St) (n : Nat) (hn : 78 ≤ n) (ns k : Nat) (hS : okS M 0 ns n) (hk : k < ns) (y : Int32) (hyo : y < 0 ∨ ¬ y < 6) : gX Z l yX6_station cX6_station 3 (some .int) ({ frames := 7, cells := 1, slots := 6, locals := 103 } : Room) [.ref (AD 0), .int (nI k), .int y] (wC Z AD M n) xIO 1 6 := by
  refine gX_of (by decide +kernel) (Nat.le_of_ble_eq_true rfl) ?_
  intro pP eE sS mI aA bB mE cC A F htab hxK hxZ hG ls hl
  have hx := F.1
  have hb := F.2.1
  have hl : lv_has ls 3 [(0, .ref (AD 0)), (1, .int (nI k)), (2, .int y)] := hl
  have hns2 := hS.2.1
  have hns3 := hS.2.2.1
  refine lv_aload_n hx hb dX6_station_0 rfl (lv_at hl 0 rfl) ?_
  refine lv_iload_n hx hb dX6_station_1 rfl (lv_at hl 1 rfl) ?_
  refine gg_callV F hG (ci := 6) (As := [.int (nI k)]) (rest := []) (c_X6_stationOf Z l AD M _ hn _ k hS hk) kY_X6_stationOf kV_X6_stationOf (gC_root hn) rfl rfl w3_22 rfl ⟨rfl, rfl⟩ ⟨(Nat.le_of_ble_eq_true rfl), (Nat.le_of_ble_eq_true rfl)⟩ rfl (Nat.le_of_ble_eq_true rfl) hl.1 ⟨Nat.zero_le _, Nat.zero_le _⟩ dX6_station_2 rfl (fun H locs hG => ?_)
  refine lv_pop hx hb dX6_station_5 rfl ?_
  refine lv_iload_n hx hb dX6_station_6 rfl (lv_at hl 2 rfl) ?_
  refine lv_bipush (v := 6) hx hb dX6_station_7 (by decide) ?_
  exact gx_callS F htab hxK hxZ hG (As := [.int y, .int 6]) (rest := []) (x_X6_refuseUnlessWithin Z l hst y 6 hyo _) kY_X6_refuseUnlessWithin kV_X6_refuseUnlessWithin w3_28 rfl ⟨rfl, rfl⟩ ⟨(Nat.le_of_ble_eq_true rfl), (Nat.le_of_ble_eq_true rfl)⟩ rfl (Nat.le_of_ble_eq_true rfl) hl.1 ⟨(Nat.le_of_ble_eq_true rfl), (Nat.le_of_ble_eq_true rfl)⟩ ⟨(Nat.le_of_ble_eq_true rfl), (Nat.le_of_ble_eq_true rfl)⟩ dX6_station_9
set_option maxRecDepth 100000 in
set_option maxHeartbeats 4000000 in
theorem c_X6_member (Z : gZ) (l : Launch) (AD : Nat → Nat) (M : St) (n : Nat) (hn : 78 ≤ n) (ns nm i v : Nat) (hS : okS M 0 ns n) (hM : okM M 0 nm) (hZ : okZ M 0 nm) (hi : i < nm) (hv : v < 10) : gM Z l yX6_member cX6_member 3 (some .int) ({ frames := 4, cells := 0, slots := 0, locals := 93 } : Room) [.ref (AD 0), .int (nI i), .int (nI v)] (wC Z AD M n) (some (.int (temF M ns (8 * 0 + i) v))) (wC Z AD M n) 0 0 := by
  refine gM_of (by decide +kernel) (Nat.le_of_ble_eq_true rfl) ?_
  intro pP eE sS mI aA bB mE cC A F hname hG ls hl
  have hx := F.1
  have hb := F.2.1
  have hl : lv_has ls 3 [(0, .ref (AD 0)), (1, .int (nI i)), (2, .int (nI v))] := hl
  have hnm2 := hM.2
  refine lv_aload_n hx hb dX6_member_0 rfl (lv_at hl 0 rfl) ?_
  refine lv_iload_n hx hb dX6_member_1 rfl (lv_at hl 1 rfl) ?_
  refine gg_callV F hG (ci := 6) (As := [.int (nI i)]) (rest := []) (c_X6_memberOf Z l AD M _ hn _ i hM hi) kY_X6_memberOf kV_X6_memberOf (gC_root hn) rfl rfl w2_210 rfl ⟨rfl, rfl⟩ ⟨(Nat.le_of_ble_eq_true rfl), (Nat.le_of_ble_eq_true rfl)⟩ rfl (Nat.le_of_ble_eq_true rfl) hl.1 ⟨Nat.zero_le _, Nat.zero_le _⟩ dX6_member_2 rfl (fun H locs hG => ?_)
  refine lv_pop hx hb dX6_member_5 rfl ?_
  refine lv_iload_n hx hb dX6_member_6 rfl (lv_at hl 2 rfl) ?_
  refine lv_bipush (v := 10) hx hb dX6_member_7 (by decide) ?_
  refine gg_callS F hG (As := [.int (nI v), .int 10]) (rest := []) (c_X6_refuseUnlessWithin Z l (nI v) 10 (nI_pos (by omega)) (nI_lt (b := 10) hv (by decide)) _) kY_X6_refuseUnlessWithin kV_X6_refuseUnlessWithin w3_28 rfl ⟨rfl, rfl⟩ ⟨(Nat.le_of_ble_eq_true rfl), (Nat.le_of_ble_eq_true rfl)⟩ rfl (Nat.le_of_ble_eq_true rfl) hl.1 ⟨Nat.zero_le _, Nat.zero_le _⟩ dX6_member_9 rfl (fun H locs hG => ?_)
  refine lv_aload_n hx hb dX6_member_12 rfl (lv_at hl 0 rfl) ?_
  refine gg_get F hG (ci := 6) (v := .ref (AD (1 + 0))) 0 gcX6 rfl (gC_root hn) (by decide) w1_168 rfl dX6_member_13 ?_
  refine lv_iload_n hx hb dX6_member_16 rfl (lv_at hl 1 rfl) ?_
  refine lv_iload_n hx hb dX6_member_17 rfl (lv_at hl 2 rfl) ?_
  refine gg_callV F hG (ci := 0) (As := [.int (nI i), .int (nI v)]) (rest := []) (c_X0_tellMember Z l AD M _ hn 0 _ _ i (by omega) hS hM hZ hi v hv) kY_X0_tellMember kV_X0_tellMember (gC_club (by omega) hn) rfl rfl w3_40 rfl ⟨rfl, rfl⟩ ⟨(Nat.le_of_ble_eq_true rfl), (Nat.le_of_ble_eq_true rfl)⟩ rfl (Nat.le_of_ble_eq_true rfl) hl.1 ⟨Nat.zero_le _, Nat.zero_le _⟩ dX6_member_18 rfl (fun H locs hG => ?_)
  exact gg_iret F hG rfl rfl rfl dX6_member_21
set_option maxRecDepth 100000 in
set_option maxHeartbeats 4000000 in
theorem x_X6_member_m (Z : gZ) (l : Launch) (hst : l.stackTraces = false) (AD : Nat → Nat) (M : St) (n : Nat) (hn : 78 ≤ n) (nm : Nat) (hM : okM M 0 nm) (x y : Int32) (hxo : x < 0 ∨ nI nm ≤ x) : gX Z l yX6_member cX6_member 3 (some .int) ({ frames := 7, cells := 1, slots := 6, locals := 104 } : Room) [.ref (AD 0), .int x, .int y] (wC Z AD M n) xIO 1 6 := by
  refine gX_of (by decide +kernel) (Nat.le_of_ble_eq_true rfl) ?_
  intro pP eE sS mI aA bB mE cC A F htab hxK hxZ hG ls hl
  have hx := F.1
  have hb := F.2.1
  have hl : lv_has ls 3 [(0, .ref (AD 0)), (1, .int x), (2, .int y)] := hl
  refine lv_aload_n hx hb dX6_member_0 rfl (lv_at hl 0 rfl) ?_
  refine lv_iload_n hx hb dX6_member_1 rfl (lv_at hl 1 rfl) ?_
  exact gx_callV F htab hxK hxZ hG (ci := 6) (As := [.int x]) (rest := []) (x_X6_memberOf Z l hst AD M _ hn _ hM x hxo) kY_X6_memberOf kV_X6_memberOf (gC_root hn) rfl rfl w2_210 rfl ⟨rfl, rfl⟩ ⟨(Nat.le_of_ble_eq_true rfl), (Nat.le_of_ble_eq_true rfl)⟩ rfl (Nat.le_of_ble_eq_true rfl) hl.1 ⟨(Nat.le_of_ble_eq_true rfl), (Nat.le_of_ble_eq_true rfl)⟩ ⟨(Nat.le_of_ble_eq_true rfl), (Nat.le_of_ble_eq_true rfl)⟩ dX6_member_2
set_option maxRecDepth 100000 in
set_option maxHeartbeats 4000000 in
theorem x_X6_member_w (Z : gZ) (l : Launch) (hst : l.stackTraces = false) (AD : Nat → Nat) (M : St) (n : Nat) (hn : 78 ≤ n) (nm i : Nat) (hM : okM M 0 nm) (hi : i < nm) (y : Int32) (hyo : y < 0 ∨ ¬ y < 10) : gX Z l yX6_member cX6_member 3 (some .int) ({ frames := 7, cells := 1, slots := 6, locals := 103 } : Room) [.ref (AD 0), .int (nI i), .int y] (wC Z AD M n) xIO 1 6 := by
  refine gX_of (by decide +kernel) (Nat.le_of_ble_eq_true rfl) ?_
  intro pP eE sS mI aA bB mE cC A F htab hxK hxZ hG ls hl
  have hx := F.1
  have hb := F.2.1
  have hl : lv_has ls 3 [(0, .ref (AD 0)), (1, .int (nI i)), (2, .int y)] := hl
  have hnm2 := hM.2
  refine lv_aload_n hx hb dX6_member_0 rfl (lv_at hl 0 rfl) ?_
  refine lv_iload_n hx hb dX6_member_1 rfl (lv_at hl 1 rfl) ?_
  refine gg_callV F hG (ci := 6) (As := [.int (nI i)]) (rest := []) (c_X6_memberOf Z l AD M _ hn _ i hM hi) kY_X6_memberOf kV_X6_memberOf (gC_root hn) rfl rfl w2_210 rfl ⟨rfl, rfl⟩ ⟨(Nat.le_of_ble_eq_true rfl), (Nat.le_of_ble_eq_true rfl)⟩ rfl (Nat.le_of_ble_eq_true rfl) hl.1 ⟨Nat.zero_le _, Nat.zero_le _⟩ dX6_member_2 rfl (fun H locs hG => ?_)
  refine lv_pop hx hb dX6_member_5 rfl ?_
  refine lv_iload_n hx hb dX6_member_6 rfl (lv_at hl 2 rfl) ?_
  refine lv_bipush (v := 10) hx hb dX6_member_7 (by decide) ?_
  exact gx_callS F htab hxK hxZ hG (As := [.int y, .int 10]) (rest := []) (x_X6_refuseUnlessWithin Z l hst y 10 hyo _) kY_X6_refuseUnlessWithin kV_X6_refuseUnlessWithin w3_28 rfl ⟨rfl, rfl⟩ ⟨(Nat.le_of_ble_eq_true rfl), (Nat.le_of_ble_eq_true rfl)⟩ rfl (Nat.le_of_ble_eq_true rfl) hl.1 ⟨(Nat.le_of_ble_eq_true rfl), (Nat.le_of_ble_eq_true rfl)⟩ ⟨(Nat.le_of_ble_eq_true rfl), (Nat.le_of_ble_eq_true rfl)⟩ dX6_member_9
set_option maxRecDepth 100000 in
set_option maxHeartbeats 4000000 in
theorem c_X6_strength (Z : gZ) (l : Launch) (AD : Nat → Nat) (M : St) (n : Nat) (hn : 78 ≤ n) (ns nm i k : Nat) (hS : okS M 0 ns n) (hM : okM M 0 nm) (hi : i < nm) (hk : k < ns) : gM Z l yX6_strength cX6_strength 5 (some .int) ({ frames := 3, cells := 0, slots := 0, locals := 65 } : Room) [.ref (AD 0), .int (nI i), .int (nI k)] (wC Z AD M n) (some (.int (strA M i k))) (wC Z AD M n) 0 0 := by
  refine gM_of (by decide +kernel) (Nat.le_of_ble_eq_true rfl) ?_
  intro pP eE sS mI aA bB mE cC A F hname hG ls hl
  have hx := F.1
  have hb := F.2.1
  have hl : lv_has ls 5 [(0, .ref (AD 0)), (1, .int (nI i)), (2, .int (nI k))] := hl
  have hns2 := hS.2.1
  have hns3 := hS.2.2.1
  have hnm2 := hM.2
  refine lv_aload_n hx hb dX6_strength_0 rfl (lv_at hl 0 rfl) ?_
  refine lv_iload_n hx hb dX6_strength_1 rfl (lv_at hl 1 rfl) ?_
  refine gg_callV F hG (ci := 6) (As := [.int (nI i)]) (rest := []) (c_X6_setOf Z l AD M _ hn _ i hM hi) kY_X6_setOf kV_X6_setOf (gC_root hn) rfl rfl w2_206 rfl ⟨rfl, rfl⟩ ⟨(Nat.le_of_ble_eq_true rfl), (Nat.le_of_ble_eq_true rfl)⟩ rfl (Nat.le_of_ble_eq_true rfl) hl.1 ⟨Nat.zero_le _, Nat.zero_le _⟩ dX6_strength_2 rfl (fun H locs hG => ?_)
  refine lv_astore_n (lv' := [(3, .ref (AD (9 + (8 * 0 + i)))), (0, .ref (AD 0)), (1, .int (nI i)), (2, .int (nI k))]) hx hb dX6_strength_5 rfl hl (by decide) rfl (fun ls hl => ?_)
  refine lv_aload_n hx hb dX6_strength_6 rfl (lv_at hl 1 rfl) ?_
  refine lv_iload_n hx hb dX6_strength_7 rfl (lv_at hl 3 rfl) ?_
  refine gg_callV F hG (ci := 6) (As := [.int (nI k)]) (rest := []) (c_X6_stationOf Z l AD M _ hn _ k hS hk) kY_X6_stationOf kV_X6_stationOf (gC_root hn) rfl rfl w3_22 rfl ⟨rfl, rfl⟩ ⟨(Nat.le_of_ble_eq_true rfl), (Nat.le_of_ble_eq_true rfl)⟩ rfl (Nat.le_of_ble_eq_true rfl) hl.1 ⟨Nat.zero_le _, Nat.zero_le _⟩ dX6_strength_8 rfl (fun H locs hG => ?_)
  refine lv_astore (lv' := [(4, .ref (AD (78 + k))), (3, .ref (AD (9 + (8 * 0 + i)))), (0, .ref (AD 0)), (1, .int (nI i)), (2, .int (nI k))]) hx hb dX6_strength_11 hl (by decide) rfl (fun ls hl => ?_)
  refine lv_aload hx hb dX6_strength_13 (lv_at hl 0 rfl) ?_
  refine lv_aload_n hx hb dX6_strength_15 rfl (lv_at hl 2 rfl) ?_
  refine gg_get F hG (ci := 6) (v := .ref (AD (1 + 0))) 0 gcX6 rfl (gC_root hn) (by decide) w1_168 rfl dX6_strength_16 ?_
  refine gg_getN F hG (ci := 0) (v := .int (M 3 0 0)) 6 gcX0 rfl (gC_club (by omega) hn) (by decide) wn_27 rfl dX6_strength_19 ?_
  refine gg_callV F hG (ci := 4) (As := [.int (M 3 0 0)]) (rest := []) (c_X4_isOnAir Z l AD M _ hn k (by omega) (M 3 0 0)) kY_X4_isOnAir kV_X4_isOnAir (gC_stat (by omega)) rfl rfl w3_48 rfl ⟨rfl, rfl⟩ ⟨(Nat.le_of_ble_eq_true rfl), (Nat.le_of_ble_eq_true rfl)⟩ rfl (Nat.le_of_ble_eq_true rfl) hl.1 ⟨Nat.zero_le _, Nat.zero_le _⟩ dX6_strength_22 rfl (fun H locs hG => ?_)
  refine lv_if_eq (tgt := 44) hx hb dX6_strength_25 (by decide) (fun h25 => ?_) (fun h25 => ?_)
  · refine lv_iconst (v := 0) hx hb dX6_strength_44 (by decide) ?_
    exact gg_iret F hG rfl (Eq.symm (if_pos h25)) rfl dX6_strength_45
  · refine lv_aload_n hx hb dX6_strength_28 rfl (lv_at hl 1 rfl) ?_
    refine lv_aload hx hb dX6_strength_29 (lv_at hl 0 rfl) ?_
    refine lv_aload_n hx hb dX6_strength_31 rfl (lv_at hl 2 rfl) ?_
    refine gg_get F hG (ci := 6) (v := .ref (AD (1 + 0))) 0 gcX6 rfl (gC_root hn) (by decide) w1_168 rfl dX6_strength_32 ?_
    refine gg_getN F hG (ci := 0) (v := .int (M 3 0 0)) 6 gcX0 rfl (gC_club (by omega) hn) (by decide) wn_27 rfl dX6_strength_35 ?_
    refine gg_callV F hG (ci := 1) (As := [.ref (AD (78 + k)), .int (M 3 0 0)]) (rest := []) (c_X1_strengthOf Z l AD M _ hn (8 * 0 + i) k (by omega) (by omega) (M 3 0 0)) kY_X1_strengthOf kV_X1_strengthOf (gC_cset (by omega) hn) rfl rfl w3_49 rfl ⟨rfl, rfl⟩ ⟨(Nat.le_of_ble_eq_true rfl), (Nat.le_of_ble_eq_true rfl)⟩ rfl (Nat.le_of_ble_eq_true rfl) hl.1 ⟨Nat.zero_le _, Nat.zero_le _⟩ dX6_strength_38 rfl (fun H locs hG => ?_)
    refine lv_goto (tgt := 45) hx hb dX6_strength_41 (by decide) ?_
    exact gg_iret F hG rfl (Eq.symm (if_neg h25)) rfl dX6_strength_45
set_option maxRecDepth 100000 in
set_option maxHeartbeats 4000000 in
theorem x_X6_strength_m (Z : gZ) (l : Launch) (hst : l.stackTraces = false) (AD : Nat → Nat) (M : St) (n : Nat) (hn : 78 ≤ n) (nm : Nat) (hM : okM M 0 nm) (x y : Int32) (hxo : x < 0 ∨ nI nm ≤ x) : gX Z l yX6_strength cX6_strength 5 (some .int) ({ frames := 8, cells := 1, slots := 6, locals := 125 } : Room) [.ref (AD 0), .int x, .int y] (wC Z AD M n) xIO 1 6 := by
  refine gX_of (by decide +kernel) (Nat.le_of_ble_eq_true rfl) ?_
  intro pP eE sS mI aA bB mE cC A F htab hxK hxZ hG ls hl
  have hx := F.1
  have hb := F.2.1
  have hl : lv_has ls 5 [(0, .ref (AD 0)), (1, .int x), (2, .int y)] := hl
  refine lv_aload_n hx hb dX6_strength_0 rfl (lv_at hl 0 rfl) ?_
  refine lv_iload_n hx hb dX6_strength_1 rfl (lv_at hl 1 rfl) ?_
  exact gx_callV F htab hxK hxZ hG (ci := 6) (As := [.int x]) (rest := []) (x_X6_setOf Z l hst AD M _ hn _ hM x hxo) kY_X6_setOf kV_X6_setOf (gC_root hn) rfl rfl w2_206 rfl ⟨rfl, rfl⟩ ⟨(Nat.le_of_ble_eq_true rfl), (Nat.le_of_ble_eq_true rfl)⟩ rfl (Nat.le_of_ble_eq_true rfl) hl.1 ⟨(Nat.le_of_ble_eq_true rfl), (Nat.le_of_ble_eq_true rfl)⟩ ⟨(Nat.le_of_ble_eq_true rfl), (Nat.le_of_ble_eq_true rfl)⟩ dX6_strength_2
set_option maxRecDepth 100000 in
set_option maxHeartbeats 4000000 in
theorem x_X6_strength_s (Z : gZ) (l : Launch) (hst : l.stackTraces = false) (AD : Nat → Nat) (M : St) (n : Nat) (hn : 78 ≤ n) (ns nm i : Nat) (hS : okS M 0 ns n) (hM : okM M 0 nm) (hi : i < nm) (y : Int32) (hyo : y < 0 ∨ nI ns ≤ y) : gX Z l yX6_strength cX6_strength 5 (some .int) ({ frames := 7, cells := 1, slots := 6, locals := 104 } : Room) [.ref (AD 0), .int (nI i), .int y] (wC Z AD M n) xIO 1 6 := by
  refine gX_of (by decide +kernel) (Nat.le_of_ble_eq_true rfl) ?_
  intro pP eE sS mI aA bB mE cC A F htab hxK hxZ hG ls hl
  have hx := F.1
  have hb := F.2.1
  have hl : lv_has ls 5 [(0, .ref (AD 0)), (1, .int (nI i)), (2, .int y)] := hl
  have hns2 := hS.2.1
  have hns3 := hS.2.2.1
  have hnm2 := hM.2
  refine lv_aload_n hx hb dX6_strength_0 rfl (lv_at hl 0 rfl) ?_
  refine lv_iload_n hx hb dX6_strength_1 rfl (lv_at hl 1 rfl) ?_
  refine gg_callV F hG (ci := 6) (As := [.int (nI i)]) (rest := []) (c_X6_setOf Z l AD M _ hn _ i hM hi) kY_X6_setOf kV_X6_setOf (gC_root hn) rfl rfl w2_206 rfl ⟨rfl, rfl⟩ ⟨(Nat.le_of_ble_eq_true rfl), (Nat.le_of_ble_eq_true rfl)⟩ rfl (Nat.le_of_ble_eq_true rfl) hl.1 ⟨Nat.zero_le _, Nat.zero_le _⟩ dX6_strength_2 rfl (fun H locs hG => ?_)
  refine lv_astore_n (lv' := [(3, .ref (AD (9 + (8 * 0 + i)))), (0, .ref (AD 0)), (1, .int (nI i)), (2, .int y)]) hx hb dX6_strength_5 rfl hl (by decide) rfl (fun ls hl => ?_)
  refine lv_aload_n hx hb dX6_strength_6 rfl (lv_at hl 1 rfl) ?_
  refine lv_iload_n hx hb dX6_strength_7 rfl (lv_at hl 3 rfl) ?_
  exact gx_callV F htab hxK hxZ hG (ci := 6) (As := [.int y]) (rest := []) (x_X6_stationOf Z l hst AD M _ hn _ hS y hyo) kY_X6_stationOf kV_X6_stationOf (gC_root hn) rfl rfl w3_22 rfl ⟨rfl, rfl⟩ ⟨(Nat.le_of_ble_eq_true rfl), (Nat.le_of_ble_eq_true rfl)⟩ rfl (Nat.le_of_ble_eq_true rfl) hl.1 ⟨(Nat.le_of_ble_eq_true rfl), (Nat.le_of_ble_eq_true rfl)⟩ ⟨(Nat.le_of_ble_eq_true rfl), (Nat.le_of_ble_eq_true rfl)⟩ dX6_strength_8
set_option maxRecDepth 100000 in
set_option maxHeartbeats 4000000 in
theorem c_X6_hears (Z : gZ) (l : Launch) (AD : Nat → Nat) (M : St) (n : Nat) (hn : 78 ≤ n) (ns nm i : Nat) (hS : okS M 0 ns n) (hM : okM M 0 nm) (hi : i < nm) : gM Z l yX6_hears cX6_hears 2 (some .int) ({ frames := 3, cells := 0, slots := 0, locals := 70 } : Room) [.ref (AD 0), .int (nI i)] (wC Z AD M n) (some (.int (verQ (getQ (heaM M 0 (8 * 0 + i) (M 3 0 0) ns) 0)))) (wC Z AD (heaM M 0 (8 * 0 + i) (M 3 0 0) ns) n) 0 0 := by
  refine gM_of (by decide +kernel) (Nat.le_of_ble_eq_true rfl) ?_
  intro pP eE sS mI aA bB mE cC A F hname hG ls hl
  have hx := F.1
  have hb := F.2.1
  have hl : lv_has ls 2 [(0, .ref (AD 0)), (1, .int (nI i))] := hl
  have hns2 := hS.2.1
  have hns3 := hS.2.2.1
  have hnm2 := hM.2
  refine lv_aload_n hx hb dX6_hears_0 rfl (lv_at hl 0 rfl) ?_
  refine gg_get F hG (ci := 6) (v := .ref (AD (1 + 0))) 0 gcX6 rfl (gC_root hn) (by decide) w1_168 rfl dX6_hears_1 ?_
  refine lv_aload_n hx hb dX6_hears_4 rfl (lv_at hl 0 rfl) ?_
  refine lv_iload_n hx hb dX6_hears_5 rfl (lv_at hl 1 rfl) ?_
  refine gg_callV F hG (ci := 6) (As := [.int (nI i)]) (rest := [.ref (AD (1 + 0))]) (c_X6_setOf Z l AD M _ hn _ i hM hi) kY_X6_setOf kV_X6_setOf (gC_root hn) rfl rfl w2_206 rfl ⟨rfl, rfl⟩ ⟨(Nat.le_of_ble_eq_true rfl), (Nat.le_of_ble_eq_true rfl)⟩ rfl (Nat.le_of_ble_eq_true rfl) hl.1 ⟨Nat.zero_le _, Nat.zero_le _⟩ dX6_hears_6 rfl (fun H locs hG => ?_)
  refine lv_aload_n hx hb dX6_hears_9 rfl (lv_at hl 0 rfl) ?_
  refine gg_get F hG (ci := 6) (v := .ref (AD (1 + 0))) 0 gcX6 rfl (gC_root hn) (by decide) w1_168 rfl dX6_hears_10 ?_
  refine gg_getN F hG (ci := 0) (v := .int (M 3 0 0)) 6 gcX0 rfl (gC_club (by omega) hn) (by decide) wn_27 rfl dX6_hears_13 ?_
  refine gg_callV F hG (ci := 0) (As := [.ref (AD (9 + (8 * 0 + i))), .int (M 3 0 0)]) (rest := []) (c_X0_hearingOf Z l AD M _ hn 0 (8 * 0 + i) _ (by omega) (by omega) hS (M 3 0 0)) kY_X0_hearingOf kV_X0_hearingOf (gC_club (by omega) hn) rfl rfl w3_64 rfl ⟨rfl, rfl⟩ ⟨(Nat.le_of_ble_eq_true rfl), (Nat.le_of_ble_eq_true rfl)⟩ rfl (Nat.le_of_ble_eq_true rfl) hl.1 ⟨Nat.zero_le _, Nat.zero_le _⟩ dX6_hears_16 rfl (fun H locs hG => ?_)
  refine gg_callV F hG (ci := 2) (As := []) (rest := []) (c_X2_verdict Z l AD (heaM M 0 (8 * 0 + i) (M 3 0 0) ns) _ hn 0 (by omega)) kY_X2_verdict kV_X2_verdict (gC_hear (by omega) hn) rfl rfl w3_77 rfl ⟨rfl, rfl⟩ ⟨(Nat.le_of_ble_eq_true rfl), (Nat.le_of_ble_eq_true rfl)⟩ rfl (Nat.le_of_ble_eq_true rfl) hl.1 ⟨Nat.zero_le _, Nat.zero_le _⟩ dX6_hears_19 rfl (fun H locs hG => ?_)
  exact gg_iret F hG rfl rfl rfl dX6_hears_22
set_option maxRecDepth 100000 in
set_option maxHeartbeats 4000000 in
theorem x_X6_hears_m (Z : gZ) (l : Launch) (hst : l.stackTraces = false) (AD : Nat → Nat) (M : St) (n : Nat) (hn : 78 ≤ n) (nm : Nat) (hM : okM M 0 nm) (x : Int32) (hxo : x < 0 ∨ nI nm ≤ x) : gX Z l yX6_hears cX6_hears 2 (some .int) ({ frames := 8, cells := 1, slots := 6, locals := 125 } : Room) [.ref (AD 0), .int x] (wC Z AD M n) xIO 1 6 := by
  refine gX_of (by decide +kernel) (Nat.le_of_ble_eq_true rfl) ?_
  intro pP eE sS mI aA bB mE cC A F htab hxK hxZ hG ls hl
  have hx := F.1
  have hb := F.2.1
  have hl : lv_has ls 2 [(0, .ref (AD 0)), (1, .int x)] := hl
  refine lv_aload_n hx hb dX6_hears_0 rfl (lv_at hl 0 rfl) ?_
  refine gg_get F hG (ci := 6) (v := .ref (AD (1 + 0))) 0 gcX6 rfl (gC_root hn) (by decide) w1_168 rfl dX6_hears_1 ?_
  refine lv_aload_n hx hb dX6_hears_4 rfl (lv_at hl 0 rfl) ?_
  refine lv_iload_n hx hb dX6_hears_5 rfl (lv_at hl 1 rfl) ?_
  exact gx_callV F htab hxK hxZ hG (ci := 6) (As := [.int x]) (rest := [.ref (AD (1 + 0))]) (x_X6_setOf Z l hst AD M _ hn _ hM x hxo) kY_X6_setOf kV_X6_setOf (gC_root hn) rfl rfl w2_206 rfl ⟨rfl, rfl⟩ ⟨(Nat.le_of_ble_eq_true rfl), (Nat.le_of_ble_eq_true rfl)⟩ rfl (Nat.le_of_ble_eq_true rfl) hl.1 ⟨(Nat.le_of_ble_eq_true rfl), (Nat.le_of_ble_eq_true rfl)⟩ ⟨(Nat.le_of_ble_eq_true rfl), (Nat.le_of_ble_eq_true rfl)⟩ dX6_hears_6
set_option maxRecDepth 100000 in
set_option maxHeartbeats 4000000 in
theorem c_X6_log (Z : gZ) (l : Launch) (AD : Nat → Nat) (M : St) (n : Nat) (hn : 78 ≤ n) (nm i ln v : Nat) (hM : okM M 0 nm) (hZ : okZ M 0 nm) (hi : i < nm) (hln : ln < szN M (8 * 0 + i)) (hv : v < 4) : gM Z l yX6_log cX6_log 5 (some .int) ({ frames := 3, cells := 0, slots := 0, locals := 67 } : Room) [.ref (AD 0), .int (nI i), .int (nI ln), .int (nI v)] (wC Z AD M n) (some (.int (M 16 (8 * 0 + i) (ln * 4 + v)))) (wC Z AD M n) 0 0 := by
  refine gM_of (by decide +kernel) (Nat.le_of_ble_eq_true rfl) ?_
  intro pP eE sS mI aA bB mE cC A F hname hG ls hl
  have hx := F.1
  have hb := F.2.1
  have hl : lv_has ls 5 [(0, .ref (AD 0)), (1, .int (nI i)), (2, .int (nI ln)), (3, .int (nI v))] := hl
  have hnm2 := hM.2
  have hZ1 := (hZ i hi).2
  refine lv_aload_n hx hb dX6_log_0 rfl (lv_at hl 0 rfl) ?_
  refine lv_iload_n hx hb dX6_log_1 rfl (lv_at hl 1 rfl) ?_
  refine lv_iload_n hx hb dX6_log_2 rfl (lv_at hl 2 rfl) ?_
  refine gg_callV F hG (ci := 6) (As := [.int (nI i), .int (nI ln)]) (rest := []) (c_X6_logOf Z l AD M _ hn _ i ln hM hZ hi hln) kY_X6_logOf kV_X6_logOf (gC_root hn) rfl rfl w3_88 rfl ⟨rfl, rfl⟩ ⟨(Nat.le_of_ble_eq_true rfl), (Nat.le_of_ble_eq_true rfl)⟩ rfl (Nat.le_of_ble_eq_true rfl) hl.1 ⟨Nat.zero_le _, Nat.zero_le _⟩ dX6_log_3 rfl (fun H locs hG => ?_)
  refine lv_astore (lv' := [(4, .ref (AD (42 + (8 * 0 + i)))), (0, .ref (AD 0)), (1, .int (nI i)), (2, .int (nI ln)), (3, .int (nI v))]) hx hb dX6_log_6 hl (by decide) rfl (fun ls hl => ?_)
  refine lv_iload_n hx hb dX6_log_8 rfl (lv_at hl 4 rfl) ?_
  refine lv_iconst (v := 4) hx hb dX6_log_9 (by decide) ?_
  refine gg_callS F hG (As := [.int (nI v), .int 4]) (rest := []) (c_X6_refuseUnlessWithin Z l (nI v) 4 (nI_pos (by omega)) (nI_lt (b := 4) hv (by decide)) _) kY_X6_refuseUnlessWithin kV_X6_refuseUnlessWithin w3_28 rfl ⟨rfl, rfl⟩ ⟨(Nat.le_of_ble_eq_true rfl), (Nat.le_of_ble_eq_true rfl)⟩ rfl (Nat.le_of_ble_eq_true rfl) hl.1 ⟨Nat.zero_le _, Nat.zero_le _⟩ dX6_log_10 rfl (fun H locs hG => ?_)
  refine lv_aload hx hb dX6_log_13 (lv_at hl 0 rfl) ?_
  refine lv_iload_n hx hb dX6_log_15 rfl (lv_at hl 3 rfl) ?_
  refine lv_iload_n hx hb dX6_log_16 rfl (lv_at hl 4 rfl) ?_
  refine gg_callV F hG (ci := 5) (As := [.int (nI ln), .int (nI v)]) (rest := []) (c_X5_at Z l AD M _ hn (8 * 0 + i) ln v 4 160 (by omega) (if_pos (by omega)) (if_pos (by omega)) (by omega) (by omega)) kY_X5_at kV_X5_at (gC_tabl (by omega) hn) rfl rfl w3_92 rfl ⟨rfl, rfl⟩ ⟨(Nat.le_of_ble_eq_true rfl), (Nat.le_of_ble_eq_true rfl)⟩ rfl (Nat.le_of_ble_eq_true rfl) hl.1 ⟨Nat.zero_le _, Nat.zero_le _⟩ dX6_log_17 rfl (fun H locs hG => ?_)
  exact gg_iret F hG rfl rfl rfl dX6_log_20
set_option maxRecDepth 100000 in
set_option maxHeartbeats 4000000 in
theorem x_X6_log_m (Z : gZ) (l : Launch) (hst : l.stackTraces = false) (AD : Nat → Nat) (M : St) (n : Nat) (hn : 78 ≤ n) (nm : Nat) (hM : okM M 0 nm) (x y z : Int32) (hxo : x < 0 ∨ nI nm ≤ x) : gX Z l yX6_log cX6_log 5 (some .int) ({ frames := 8, cells := 1, slots := 6, locals := 127 } : Room) [.ref (AD 0), .int x, .int y, .int z] (wC Z AD M n) xIO 1 6 := by
  refine gX_of (by decide +kernel) (Nat.le_of_ble_eq_true rfl) ?_
  intro pP eE sS mI aA bB mE cC A F htab hxK hxZ hG ls hl
  have hx := F.1
  have hb := F.2.1
  have hl : lv_has ls 5 [(0, .ref (AD 0)), (1, .int x), (2, .int y), (3, .int z)] := hl
  refine lv_aload_n hx hb dX6_log_0 rfl (lv_at hl 0 rfl) ?_
  refine lv_iload_n hx hb dX6_log_1 rfl (lv_at hl 1 rfl) ?_
  refine lv_iload_n hx hb dX6_log_2 rfl (lv_at hl 2 rfl) ?_
  exact gx_callV F htab hxK hxZ hG (ci := 6) (As := [.int x, .int y]) (rest := []) (x_X6_logOf_m Z l hst AD M _ hn _ hM x y hxo) kY_X6_logOf kV_X6_logOf (gC_root hn) rfl rfl w3_88 rfl ⟨rfl, rfl⟩ ⟨(Nat.le_of_ble_eq_true rfl), (Nat.le_of_ble_eq_true rfl)⟩ rfl (Nat.le_of_ble_eq_true rfl) hl.1 ⟨(Nat.le_of_ble_eq_true rfl), (Nat.le_of_ble_eq_true rfl)⟩ ⟨(Nat.le_of_ble_eq_true rfl), (Nat.le_of_ble_eq_true rfl)⟩ dX6_log_3
set_option maxRecDepth 100000 in
set_option maxHeartbeats 4000000 in
theorem x_X6_log_l (Z : gZ) (l : Launch) (hst : l.stackTraces = false) (AD : Nat → Nat) (M : St) (n : Nat) (hn : 78 ≤ n) (nm i : Nat) (hM : okM M 0 nm) (hZ : okZ M 0 nm) (hi : i < nm) (y z : Int32) (hyo : y < 0 ∨ ¬ y < nI (szN M (8 * 0 + i))) : gX Z l yX6_log cX6_log 5 (some .int) ({ frames := 8, cells := 1, slots := 6, locals := 126 } : Room) [.ref (AD 0), .int (nI i), .int y, .int z] (wC Z AD M n) xIO 1 6 := by
  refine gX_of (by decide +kernel) (Nat.le_of_ble_eq_true rfl) ?_
  intro pP eE sS mI aA bB mE cC A F htab hxK hxZ hG ls hl
  have hx := F.1
  have hb := F.2.1
  have hl : lv_has ls 5 [(0, .ref (AD 0)), (1, .int (nI i)), (2, .int y), (3, .int z)] := hl
  have hnm2 := hM.2
  have hZ1 := (hZ i hi).2
  refine lv_aload_n hx hb dX6_log_0 rfl (lv_at hl 0 rfl) ?_
  refine lv_iload_n hx hb dX6_log_1 rfl (lv_at hl 1 rfl) ?_
  refine lv_iload_n hx hb dX6_log_2 rfl (lv_at hl 2 rfl) ?_
  exact gx_callV F htab hxK hxZ hG (ci := 6) (As := [.int (nI i), .int y]) (rest := []) (x_X6_logOf_l Z l hst AD M _ hn _ i hM hZ hi y hyo) kY_X6_logOf kV_X6_logOf (gC_root hn) rfl rfl w3_88 rfl ⟨rfl, rfl⟩ ⟨(Nat.le_of_ble_eq_true rfl), (Nat.le_of_ble_eq_true rfl)⟩ rfl (Nat.le_of_ble_eq_true rfl) hl.1 ⟨(Nat.le_of_ble_eq_true rfl), (Nat.le_of_ble_eq_true rfl)⟩ ⟨(Nat.le_of_ble_eq_true rfl), (Nat.le_of_ble_eq_true rfl)⟩ dX6_log_3
set_option maxRecDepth 100000 in
set_option maxHeartbeats 4000000 in
theorem x_X6_log_w (Z : gZ) (l : Launch) (hst : l.stackTraces = false) (AD : Nat → Nat) (M : St) (n : Nat) (hn : 78 ≤ n) (nm i ln : Nat) (hM : okM M 0 nm) (hZ : okZ M 0 nm) (hi : i < nm) (hln : ln < szN M (8 * 0 + i)) (z : Int32) (hzo : z < 0 ∨ ¬ z < 4) : gX Z l yX6_log cX6_log 5 (some .int) ({ frames := 7, cells := 1, slots := 6, locals := 103 } : Room) [.ref (AD 0), .int (nI i), .int (nI ln), .int z] (wC Z AD M n) xIO 1 6 := by
  refine gX_of (by decide +kernel) (Nat.le_of_ble_eq_true rfl) ?_
  intro pP eE sS mI aA bB mE cC A F htab hxK hxZ hG ls hl
  have hx := F.1
  have hb := F.2.1
  have hl : lv_has ls 5 [(0, .ref (AD 0)), (1, .int (nI i)), (2, .int (nI ln)), (3, .int z)] := hl
  have hnm2 := hM.2
  have hZ1 := (hZ i hi).2
  refine lv_aload_n hx hb dX6_log_0 rfl (lv_at hl 0 rfl) ?_
  refine lv_iload_n hx hb dX6_log_1 rfl (lv_at hl 1 rfl) ?_
  refine lv_iload_n hx hb dX6_log_2 rfl (lv_at hl 2 rfl) ?_
  refine gg_callV F hG (ci := 6) (As := [.int (nI i), .int (nI ln)]) (rest := []) (c_X6_logOf Z l AD M _ hn _ i ln hM hZ hi hln) kY_X6_logOf kV_X6_logOf (gC_root hn) rfl rfl w3_88 rfl ⟨rfl, rfl⟩ ⟨(Nat.le_of_ble_eq_true rfl), (Nat.le_of_ble_eq_true rfl)⟩ rfl (Nat.le_of_ble_eq_true rfl) hl.1 ⟨Nat.zero_le _, Nat.zero_le _⟩ dX6_log_3 rfl (fun H locs hG => ?_)
  refine lv_astore (lv' := [(4, .ref (AD (42 + (8 * 0 + i)))), (0, .ref (AD 0)), (1, .int (nI i)), (2, .int (nI ln)), (3, .int z)]) hx hb dX6_log_6 hl (by decide) rfl (fun ls hl => ?_)
  refine lv_iload_n hx hb dX6_log_8 rfl (lv_at hl 4 rfl) ?_
  refine lv_iconst (v := 4) hx hb dX6_log_9 (by decide) ?_
  exact gx_callS F htab hxK hxZ hG (As := [.int z, .int 4]) (rest := []) (x_X6_refuseUnlessWithin Z l hst z 4 hzo _) kY_X6_refuseUnlessWithin kV_X6_refuseUnlessWithin w3_28 rfl ⟨rfl, rfl⟩ ⟨(Nat.le_of_ble_eq_true rfl), (Nat.le_of_ble_eq_true rfl)⟩ rfl (Nat.le_of_ble_eq_true rfl) hl.1 ⟨(Nat.le_of_ble_eq_true rfl), (Nat.le_of_ble_eq_true rfl)⟩ ⟨(Nat.le_of_ble_eq_true rfl), (Nat.le_of_ble_eq_true rfl)⟩ dX6_log_10
set_option maxRecDepth 100000 in
set_option maxHeartbeats 4000000 in
theorem c_X6_write (Z : gZ) (l : Launch) (AD : Nat → Nat) (M : St) (n : Nat) (hn : 78 ≤ n) (ns nm i ln k q : Nat) (hS : okS M 0 ns n) (hM : okM M 0 nm) (hZ : okZ M 0 nm) (hi : i < nm) (hln : ln < szN M (8 * 0 + i)) (hq : M 15 (16 + 0) 0 = nI q) (hq2 : q ≤ 30) (hcf : ¬ M 16 (8 * 0 + i) (ln * 4 + 3) = 1) (hlp : ¬ hlP M 0 (nI i) (nI ln) q) (hq3 : q < 30) (hk : k < ns) (hst2 : M 16 (8 * 0 + i) (ln * 4 + 1) = nI k) : gM Z l yX6_write cX6_write 4 (some .int) ({ frames := 3, cells := 0, slots := 0, locals := 67 } : Room) [.ref (AD 0), .int (nI i), .int (nI ln)] (wC Z AD M n) (some (.int (senD M 0 k))) (wC Z AD (senF M 0 i ln k q) n) 0 0 := by
  refine gM_of (by decide +kernel) (Nat.le_of_ble_eq_true rfl) ?_
  intro pP eE sS mI aA bB mE cC A F hname hG ls hl
  have hx := F.1
  have hb := F.2.1
  have hl : lv_has ls 4 [(0, .ref (AD 0)), (1, .int (nI i)), (2, .int (nI ln))] := hl
  have hns2 := hS.2.1
  have hns3 := hS.2.2.1
  have hnm2 := hM.2
  have hZ1 := (hZ i hi).2
  refine lv_aload_n hx hb dX6_write_0 rfl (lv_at hl 0 rfl) ?_
  refine lv_iload_n hx hb dX6_write_1 rfl (lv_at hl 1 rfl) ?_
  refine lv_iload_n hx hb dX6_write_2 rfl (lv_at hl 2 rfl) ?_
  refine gg_callV F hG (ci := 6) (As := [.int (nI i), .int (nI ln)]) (rest := []) (c_X6_logOf Z l AD M _ hn _ i ln hM hZ hi hln) kY_X6_logOf kV_X6_logOf (gC_root hn) rfl rfl w3_88 rfl ⟨rfl, rfl⟩ ⟨(Nat.le_of_ble_eq_true rfl), (Nat.le_of_ble_eq_true rfl)⟩ rfl (Nat.le_of_ble_eq_true rfl) hl.1 ⟨Nat.zero_le _, Nat.zero_le _⟩ dX6_write_3 rfl (fun H locs hG => ?_)
  refine lv_astore_n (lv' := [(3, .ref (AD (42 + (8 * 0 + i)))), (0, .ref (AD 0)), (1, .int (nI i)), (2, .int (nI ln))]) hx hb dX6_write_6 rfl hl (by decide) rfl (fun ls hl => ?_)
  refine lv_aload_n hx hb dX6_write_7 rfl (lv_at hl 0 rfl) ?_
  refine lv_iload_n hx hb dX6_write_8 rfl (lv_at hl 3 rfl) ?_
  refine lv_iconst (v := 3) hx hb dX6_write_9 (by decide) ?_
  refine gg_callV F hG (ci := 5) (As := [.int (nI ln), .int 3]) (rest := []) (c_X5_at Z l AD M _ hn (8 * 0 + i) ln 3 4 160 (by omega) (if_pos (by omega)) (if_pos (by omega)) (by omega) (by omega)) kY_X5_at kV_X5_at (gC_tabl (by omega) hn) rfl rfl w3_92 rfl ⟨rfl, rfl⟩ ⟨(Nat.le_of_ble_eq_true rfl), (Nat.le_of_ble_eq_true rfl)⟩ rfl (Nat.le_of_ble_eq_true rfl) hl.1 ⟨Nat.zero_le _, Nat.zero_le _⟩ dX6_write_10 rfl (fun H locs hG => ?_)
  refine lv_iconst (v := 1) hx hb dX6_write_13 (by decide) ?_
  refine lv_icmp_ne (tgt := 27) hx hb dX6_write_14 (by decide) (fun h14 => ?_) (fun h14 => absurd h14 hcf)
  refine lv_aload_n hx hb dX6_write_27 rfl (lv_at hl 1 rfl) ?_
  refine gg_get F hG (ci := 6) (v := .ref (AD (1 + 0))) 0 gcX6 rfl (gC_root hn) (by decide) w1_168 rfl dX6_write_28 ?_
  refine lv_iload_n hx hb dX6_write_31 rfl (lv_at hl 2 rfl) ?_
  refine lv_iload_n hx hb dX6_write_32 rfl (lv_at hl 3 rfl) ?_
  refine gg_callV F hG (ci := 0) (As := [.int (nI i), .int (nI ln)]) (rest := []) (c_X0_hasLetterOf Z l AD M _ hn 0 _ (by omega) hq hq2 (nI i) (nI ln)) kY_X0_hasLetterOf kV_X0_hasLetterOf (gC_club (by omega) hn) rfl rfl w3_101 rfl ⟨rfl, rfl⟩ ⟨(Nat.le_of_ble_eq_true rfl), (Nat.le_of_ble_eq_true rfl)⟩ rfl (Nat.le_of_ble_eq_true rfl) hl.1 ⟨Nat.zero_le _, Nat.zero_le _⟩ dX6_write_33 rfl (fun H locs hG => ?_)
  refine lv_if_eq (tgt := 49) hx hb dX6_write_36 (by decide) (fun h36 => ?_) (fun h36 => absurd (b2_f hlp) h36)
  refine lv_aload_n hx hb dX6_write_49 rfl (lv_at hl 1 rfl) ?_
  refine gg_get F hG (ci := 6) (v := .ref (AD (1 + 0))) 0 gcX6 rfl (gC_root hn) (by decide) w1_168 rfl dX6_write_50 ?_
  refine gg_getN F hG (ci := 0) (v := .ref (AD (42 + (16 + 0)))) 2 gcX0 rfl (gC_club (by omega) hn) (by decide) wn_24 rfl dX6_write_53 ?_
  refine gg_callV F hG (ci := 5) (As := []) (rest := []) (c_X5_isFull Z l AD M _ hn (16 + 0) 3 90 q (by omega) (if_neg (by omega)) (if_neg (by omega)) (by omega) hq (by omega)) kY_X5_isFull kV_X5_isFull (gC_tabl (by omega) hn) rfl rfl w3_106 rfl ⟨rfl, rfl⟩ ⟨(Nat.le_of_ble_eq_true rfl), (Nat.le_of_ble_eq_true rfl)⟩ rfl (Nat.le_of_ble_eq_true rfl) hl.1 ⟨Nat.zero_le _, Nat.zero_le _⟩ dX6_write_56 rfl (fun H locs hG => ?_)
  refine lv_if_eq (tgt := 72) hx hb dX6_write_59 (by decide) (fun h59 => ?_) (fun h59 => absurd (if_pos (by omega)) h59)
  refine lv_aload_n hx hb dX6_write_72 rfl (lv_at hl 1 rfl) ?_
  refine gg_get F hG (ci := 6) (v := .ref (AD (1 + 0))) 0 gcX6 rfl (gC_root hn) (by decide) w1_168 rfl dX6_write_73 ?_
  refine lv_iload_n hx hb dX6_write_76 rfl (lv_at hl 2 rfl) ?_
  refine lv_iload_n hx hb dX6_write_77 rfl (lv_at hl 3 rfl) ?_
  refine gg_callV F hG (ci := 0) (As := [.int (nI i), .int (nI ln)]) (rest := []) (c_X0_send Z l AD M _ hn 0 _ _ i ln k q (by omega) hS hM hq (by omega) hi (by omega) hk hst2) kY_X0_send kV_X0_send (gC_club (by omega) hn) rfl rfl w3_111 rfl ⟨rfl, rfl⟩ ⟨(Nat.le_of_ble_eq_true rfl), (Nat.le_of_ble_eq_true rfl)⟩ rfl (Nat.le_of_ble_eq_true rfl) hl.1 ⟨Nat.zero_le _, Nat.zero_le _⟩ dX6_write_78 rfl (fun H locs hG => ?_)
  exact gg_iret F hG rfl rfl rfl dX6_write_81
set_option maxRecDepth 100000 in
set_option maxHeartbeats 4000000 in
theorem x_X6_write_m (Z : gZ) (l : Launch) (hst : l.stackTraces = false) (AD : Nat → Nat) (M : St) (n : Nat) (hn : 78 ≤ n) (nm : Nat) (hM : okM M 0 nm) (x y : Int32) (hxo : x < 0 ∨ nI nm ≤ x) : gX Z l yX6_write cX6_write 4 (some .int) ({ frames := 8, cells := 1, slots := 6, locals := 127 } : Room) [.ref (AD 0), .int x, .int y] (wC Z AD M n) xIO 1 6 := by
  refine gX_of (by decide +kernel) (Nat.le_of_ble_eq_true rfl) ?_
  intro pP eE sS mI aA bB mE cC A F htab hxK hxZ hG ls hl
  have hx := F.1
  have hb := F.2.1
  have hl : lv_has ls 4 [(0, .ref (AD 0)), (1, .int x), (2, .int y)] := hl
  refine lv_aload_n hx hb dX6_write_0 rfl (lv_at hl 0 rfl) ?_
  refine lv_iload_n hx hb dX6_write_1 rfl (lv_at hl 1 rfl) ?_
  refine lv_iload_n hx hb dX6_write_2 rfl (lv_at hl 2 rfl) ?_
  exact gx_callV F htab hxK hxZ hG (ci := 6) (As := [.int x, .int y]) (rest := []) (x_X6_logOf_m Z l hst AD M _ hn _ hM x y hxo) kY_X6_logOf kV_X6_logOf (gC_root hn) rfl rfl w3_88 rfl ⟨rfl, rfl⟩ ⟨(Nat.le_of_ble_eq_true rfl), (Nat.le_of_ble_eq_true rfl)⟩ rfl (Nat.le_of_ble_eq_true rfl) hl.1 ⟨(Nat.le_of_ble_eq_true rfl), (Nat.le_of_ble_eq_true rfl)⟩ ⟨(Nat.le_of_ble_eq_true rfl), (Nat.le_of_ble_eq_true rfl)⟩ dX6_write_3
set_option maxRecDepth 100000 in
set_option maxHeartbeats 4000000 in
theorem x_X6_write_l (Z : gZ) (l : Launch) (hst : l.stackTraces = false) (AD : Nat → Nat) (M : St) (n : Nat) (hn : 78 ≤ n) (nm i : Nat) (hM : okM M 0 nm) (hZ : okZ M 0 nm) (hi : i < nm) (y : Int32) (hyo : y < 0 ∨ ¬ y < nI (szN M (8 * 0 + i))) : gX Z l yX6_write cX6_write 4 (some .int) ({ frames := 8, cells := 1, slots := 6, locals := 126 } : Room) [.ref (AD 0), .int (nI i), .int y] (wC Z AD M n) xIO 1 6 := by
  refine gX_of (by decide +kernel) (Nat.le_of_ble_eq_true rfl) ?_
  intro pP eE sS mI aA bB mE cC A F htab hxK hxZ hG ls hl
  have hx := F.1
  have hb := F.2.1
  have hl : lv_has ls 4 [(0, .ref (AD 0)), (1, .int (nI i)), (2, .int y)] := hl
  have hnm2 := hM.2
  have hZ1 := (hZ i hi).2
  refine lv_aload_n hx hb dX6_write_0 rfl (lv_at hl 0 rfl) ?_
  refine lv_iload_n hx hb dX6_write_1 rfl (lv_at hl 1 rfl) ?_
  refine lv_iload_n hx hb dX6_write_2 rfl (lv_at hl 2 rfl) ?_
  exact gx_callV F htab hxK hxZ hG (ci := 6) (As := [.int (nI i), .int y]) (rest := []) (x_X6_logOf_l Z l hst AD M _ hn _ i hM hZ hi y hyo) kY_X6_logOf kV_X6_logOf (gC_root hn) rfl rfl w3_88 rfl ⟨rfl, rfl⟩ ⟨(Nat.le_of_ble_eq_true rfl), (Nat.le_of_ble_eq_true rfl)⟩ rfl (Nat.le_of_ble_eq_true rfl) hl.1 ⟨(Nat.le_of_ble_eq_true rfl), (Nat.le_of_ble_eq_true rfl)⟩ ⟨(Nat.le_of_ble_eq_true rfl), (Nat.le_of_ble_eq_true rfl)⟩ dX6_write_3
set_option maxRecDepth 100000 in
set_option maxHeartbeats 4000000 in
theorem x_X6_write_s (Z : gZ) (l : Launch) (hst : l.stackTraces = false) (AD : Nat → Nat) (M : St) (n : Nat) (hn : 78 ≤ n) (ns nm i ln q : Nat) (hS : okS M 0 ns n) (hM : okM M 0 nm) (hZ : okZ M 0 nm) (hi : i < nm) (hln : ln < szN M (8 * 0 + i)) (hq : M 15 (16 + 0) 0 = nI q) (hq2 : q ≤ 30) (ho : M 16 (8 * 0 + i) (ln * 4 + 3) = 1 ∨ hlP M 0 (nI i) (nI ln) q ∨ ¬ q < 30) : gX Z l yX6_write cX6_write 4 (some .int) ({ frames := 6, cells := 1, slots := 6, locals := 82 } : Room) [.ref (AD 0), .int (nI i), .int (nI ln)] (wC Z AD M n) xIS 1 6 := by
  refine gX_of (by decide +kernel) (Nat.le_of_ble_eq_true rfl) ?_
  intro pP eE sS mI aA bB mE cC A F htab hxK hxZ hG ls hl
  have hx := F.1
  have hb := F.2.1
  have hl : lv_has ls 4 [(0, .ref (AD 0)), (1, .int (nI i)), (2, .int (nI ln))] := hl
  have hns2 := hS.2.1
  have hns3 := hS.2.2.1
  have hnm2 := hM.2
  have hZ1 := (hZ i hi).2
  refine lv_aload_n hx hb dX6_write_0 rfl (lv_at hl 0 rfl) ?_
  refine lv_iload_n hx hb dX6_write_1 rfl (lv_at hl 1 rfl) ?_
  refine lv_iload_n hx hb dX6_write_2 rfl (lv_at hl 2 rfl) ?_
  refine gg_callV F hG (ci := 6) (As := [.int (nI i), .int (nI ln)]) (rest := []) (c_X6_logOf Z l AD M _ hn _ i ln hM hZ hi hln) kY_X6_logOf kV_X6_logOf (gC_root hn) rfl rfl w3_88 rfl ⟨rfl, rfl⟩ ⟨(Nat.le_of_ble_eq_true rfl), (Nat.le_of_ble_eq_true rfl)⟩ rfl (Nat.le_of_ble_eq_true rfl) hl.1 ⟨Nat.zero_le _, Nat.zero_le _⟩ dX6_write_3 rfl (fun H locs hG => ?_)
  refine lv_astore_n (lv' := [(3, .ref (AD (42 + (8 * 0 + i)))), (0, .ref (AD 0)), (1, .int (nI i)), (2, .int (nI ln))]) hx hb dX6_write_6 rfl hl (by decide) rfl (fun ls hl => ?_)
  refine lv_aload_n hx hb dX6_write_7 rfl (lv_at hl 0 rfl) ?_
  refine lv_iload_n hx hb dX6_write_8 rfl (lv_at hl 3 rfl) ?_
  refine lv_iconst (v := 3) hx hb dX6_write_9 (by decide) ?_
  refine gg_callV F hG (ci := 5) (As := [.int (nI ln), .int 3]) (rest := []) (c_X5_at Z l AD M _ hn (8 * 0 + i) ln 3 4 160 (by omega) (if_pos (by omega)) (if_pos (by omega)) (by omega) (by omega)) kY_X5_at kV_X5_at (gC_tabl (by omega) hn) rfl rfl w3_92 rfl ⟨rfl, rfl⟩ ⟨(Nat.le_of_ble_eq_true rfl), (Nat.le_of_ble_eq_true rfl)⟩ rfl (Nat.le_of_ble_eq_true rfl) hl.1 ⟨Nat.zero_le _, Nat.zero_le _⟩ dX6_write_10 rfl (fun H locs hG => ?_)
  refine lv_iconst (v := 1) hx hb dX6_write_13 (by decide) ?_
  refine lv_icmp_ne (tgt := 27) hx hb dX6_write_14 (by decide) (fun h14 => ?_) (fun h14 => ?_)
  · refine lv_aload_n hx hb dX6_write_27 rfl (lv_at hl 1 rfl) ?_
    refine gg_get F hG (ci := 6) (v := .ref (AD (1 + 0))) 0 gcX6 rfl (gC_root hn) (by decide) w1_168 rfl dX6_write_28 ?_
    refine lv_iload_n hx hb dX6_write_31 rfl (lv_at hl 2 rfl) ?_
    refine lv_iload_n hx hb dX6_write_32 rfl (lv_at hl 3 rfl) ?_
    refine gg_callV F hG (ci := 0) (As := [.int (nI i), .int (nI ln)]) (rest := []) (c_X0_hasLetterOf Z l AD M _ hn 0 _ (by omega) hq hq2 (nI i) (nI ln)) kY_X0_hasLetterOf kV_X0_hasLetterOf (gC_club (by omega) hn) rfl rfl w3_101 rfl ⟨rfl, rfl⟩ ⟨(Nat.le_of_ble_eq_true rfl), (Nat.le_of_ble_eq_true rfl)⟩ rfl (Nat.le_of_ble_eq_true rfl) hl.1 ⟨Nat.zero_le _, Nat.zero_le _⟩ dX6_write_33 rfl (fun H locs hG => ?_)
    refine lv_if_eq (tgt := 49) hx hb dX6_write_36 (by decide) (fun h36 => ?_) (fun h36 => ?_)
    · refine lv_aload_n hx hb dX6_write_49 rfl (lv_at hl 1 rfl) ?_
      refine gg_get F hG (ci := 6) (v := .ref (AD (1 + 0))) 0 gcX6 rfl (gC_root hn) (by decide) w1_168 rfl dX6_write_50 ?_
      refine gg_getN F hG (ci := 0) (v := .ref (AD (42 + (16 + 0)))) 2 gcX0 rfl (gC_club (by omega) hn) (by decide) wn_24 rfl dX6_write_53 ?_
      refine gg_callV F hG (ci := 5) (As := []) (rest := []) (c_X5_isFull Z l AD M _ hn (16 + 0) 3 90 q (by omega) (if_neg (by omega)) (if_neg (by omega)) (by omega) hq (by omega)) kY_X5_isFull kV_X5_isFull (gC_tabl (by omega) hn) rfl rfl w3_106 rfl ⟨rfl, rfl⟩ ⟨(Nat.le_of_ble_eq_true rfl), (Nat.le_of_ble_eq_true rfl)⟩ rfl (Nat.le_of_ble_eq_true rfl) hl.1 ⟨Nat.zero_le _, Nat.zero_le _⟩ dX6_write_56 rfl (fun H locs hG => ?_)
      refine lv_if_eq (tgt := 72) hx hb dX6_write_59 (by decide) (fun h59 => absurd h59 (fun z => (ho.resolve_left h14).elim (fun y => b2_0 h36 y) (fun y => absurd (full_0 z) (by omega)))) (fun h59 => ?_)
      exact gg_throw F htab hxK hxZ hG hst xE_IS (List.mem_of_getElem? (i := 12) rfl) hl.1 dX6_write_62 dX6_write_65 dX6_write_66 dX6_write_68 dX6_write_71 (Nat.le_of_ble_eq_true rfl) (Nat.le_of_ble_eq_true rfl) (Nat.le_of_ble_eq_true rfl) (Nat.le_of_ble_eq_true rfl) (Nat.le_of_ble_eq_true rfl) (Nat.le_of_ble_eq_true rfl)
    · exact gg_throw F htab hxK hxZ hG hst xE_IS (List.mem_of_getElem? (i := 11) rfl) hl.1 dX6_write_39 dX6_write_42 dX6_write_43 dX6_write_45 dX6_write_48 (Nat.le_of_ble_eq_true rfl) (Nat.le_of_ble_eq_true rfl) (Nat.le_of_ble_eq_true rfl) (Nat.le_of_ble_eq_true rfl) (Nat.le_of_ble_eq_true rfl) (Nat.le_of_ble_eq_true rfl)
  · exact gg_throw F htab hxK hxZ hG hst xE_IS (List.mem_of_getElem? (i := 10) rfl) hl.1 dX6_write_17 dX6_write_20 dX6_write_21 dX6_write_23 dX6_write_26 (Nat.le_of_ble_eq_true rfl) (Nat.le_of_ble_eq_true rfl) (Nat.le_of_ble_eq_true rfl) (Nat.le_of_ble_eq_true rfl) (Nat.le_of_ble_eq_true rfl) (Nat.le_of_ble_eq_true rfl)
set_option maxRecDepth 100000 in
set_option maxHeartbeats 4000000 in
theorem c_X6_pass (Z : gZ) (l : Launch) (AD : Nat → Nat) (M : St) (n : Nat) (hn : 78 ≤ n) (ns nm h : Nat) (hh : h ≤ 240) (h1 : 1 ≤ h) (hI : ∀ i, i < h → okA (phM M 0 ns nm i) 0 ns nm n) : gM Z l yX6_pass cX6_pass 2 (some .int) ({ frames := 6, cells := 0, slots := 0, locals := 139 } : Room) [.ref (AD 0), .int (nI h)] (wC Z AD M n) (some (.int (phW M 0 ns nm h))) (wC Z AD (phM M 0 ns nm h) n) 0 0 := by
  refine gM_of (by decide +kernel) (Nat.le_of_ble_eq_true rfl) ?_
  intro pP eE sS mI aA bB mE cC A F hname hG ls hl
  have hx := F.1
  have hb := F.2.1
  have hl : lv_has ls 2 [(0, .ref (AD 0)), (1, .int (nI h))] := hl
  refine lv_iload_n hx hb dX6_pass_0 rfl (lv_at hl 1 rfl) ?_
  refine lv_iconst (v := 1) hx hb dX6_pass_1 (by decide) ?_
  refine lv_sipush (v := 240) hx hb dX6_pass_2 (by decide) ?_
  refine gg_callS F hG (As := [.int (nI h), .int 1, .int 240]) (rest := []) (c_X6_isWithin Z l (nI h) 1 240 _) kY_X6_isWithin kV_X6_isWithin w2_49 rfl ⟨rfl, rfl⟩ ⟨(Nat.le_of_ble_eq_true rfl), (Nat.le_of_ble_eq_true rfl)⟩ rfl (Nat.le_of_ble_eq_true rfl) hl.1 ⟨Nat.zero_le _, Nat.zero_le _⟩ dX6_pass_5 rfl (fun H locs hG => ?_)
  rw [show (wthF (nI h) 1 240 : Int32) = 1 from wth_1 (nI_nlt (b := 1) h1 (by omega)) (nI_nlt (a := 240) hh (by decide))]
  refine lv_if_ne (tgt := 21) hx hb dX6_pass_8 (by decide) (fun h8 => ?_) (fun h8 => absurd h8 (by decide))
  refine lv_aload_n hx hb dX6_pass_21 rfl (lv_at hl 0 rfl) ?_
  refine gg_get F hG (ci := 6) (v := .ref (AD (1 + 0))) 0 gcX6 rfl (gC_root hn) (by decide) w1_168 rfl dX6_pass_22 ?_
  refine lv_iload_n hx hb dX6_pass_25 rfl (lv_at hl 1 rfl) ?_
  refine gg_callV F hG (ci := 0) (As := [.int (nI h)]) (rest := []) (c_X0_passHours Z l AD M _ hn 0 ns nm h (by omega) (by omega) hI) kY_X0_passHours kV_X0_passHours (gC_club (by omega) hn) rfl rfl w3_131 rfl ⟨rfl, rfl⟩ ⟨(Nat.le_of_ble_eq_true rfl), (Nat.le_of_ble_eq_true rfl)⟩ rfl (Nat.le_of_ble_eq_true rfl) hl.1 ⟨Nat.zero_le _, Nat.zero_le _⟩ dX6_pass_26 rfl (fun H locs hG => ?_)
  exact gg_iret F hG rfl rfl rfl dX6_pass_29
set_option maxRecDepth 100000 in
set_option maxHeartbeats 4000000 in
theorem x_X6_pass_a (Z : gZ) (l : Launch) (hst : l.stackTraces = false) (AD : Nat → Nat) (M : St) (n : Nat) (hn : 78 ≤ n) (x : Int32) (ho : x < 1 ∨ 240 < x) : gX Z l yX6_pass cX6_pass 2 (some .int) ({ frames := 6, cells := 1, slots := 6, locals := 82 } : Room) [.ref (AD 0), .int x] (wC Z AD M n) xIA 1 6 := by
  refine gX_of (by decide +kernel) (Nat.le_of_ble_eq_true rfl) ?_
  intro pP eE sS mI aA bB mE cC A F htab hxK hxZ hG ls hl
  have hx := F.1
  have hb := F.2.1
  have hl : lv_has ls 2 [(0, .ref (AD 0)), (1, .int x)] := hl
  refine lv_iload_n hx hb dX6_pass_0 rfl (lv_at hl 1 rfl) ?_
  refine lv_iconst (v := 1) hx hb dX6_pass_1 (by decide) ?_
  refine lv_sipush (v := 240) hx hb dX6_pass_2 (by decide) ?_
  refine gg_callS F hG (As := [.int x, .int 1, .int 240]) (rest := []) (c_X6_isWithin Z l x 1 240 _) kY_X6_isWithin kV_X6_isWithin w2_49 rfl ⟨rfl, rfl⟩ ⟨(Nat.le_of_ble_eq_true rfl), (Nat.le_of_ble_eq_true rfl)⟩ rfl (Nat.le_of_ble_eq_true rfl) hl.1 ⟨Nat.zero_le _, Nat.zero_le _⟩ dX6_pass_5 rfl (fun H locs hG => ?_)
  rw [show (wthF x 1 240 : Int32) = 0 from wth_0 ho]
  refine lv_if_ne (tgt := 21) hx hb dX6_pass_8 (by decide) (fun h8 => absurd rfl h8) (fun h8 => ?_)
  exact gg_throw F htab hxK hxZ hG hst xE_IA (List.mem_of_getElem? (i := 13) rfl) hl.1 dX6_pass_11 dX6_pass_14 dX6_pass_15 dX6_pass_17 dX6_pass_20 (Nat.le_of_ble_eq_true rfl) (Nat.le_of_ble_eq_true rfl) (Nat.le_of_ble_eq_true rfl) (Nat.le_of_ble_eq_true rfl) (Nat.le_of_ble_eq_true rfl) (Nat.le_of_ble_eq_true rfl)
set_option maxRecDepth 100000 in
set_option maxHeartbeats 4000000 in
theorem c_X6_count (Z : gZ) (l : Launch) (AD : Nat → Nat) (M : St) (n : Nat) (hn : 78 ≤ n) (ns nm v : Nat) (hS : okS M 0 ns n) (hM : okM M 0 nm) (hZ : okZ M 0 nm) (hv : v < 8) : gM Z l yX6_count cX6_count 2 (some .int) ({ frames := 5, cells := 0, slots := 0, locals := 111 } : Room) [.ref (AD 0), .int (nI v)] (wC Z AD M n) (some (.int (tecF M 0 ns nm v))) (wC Z AD M n) 0 0 := by
  refine gM_of (by decide +kernel) (Nat.le_of_ble_eq_true rfl) ?_
  intro pP eE sS mI aA bB mE cC A F hname hG ls hl
  have hx := F.1
  have hb := F.2.1
  have hl : lv_has ls 2 [(0, .ref (AD 0)), (1, .int (nI v))] := hl
  refine lv_iload_n hx hb dX6_count_0 rfl (lv_at hl 1 rfl) ?_
  refine lv_bipush (v := 8) hx hb dX6_count_1 (by decide) ?_
  refine gg_callS F hG (As := [.int (nI v), .int 8]) (rest := []) (c_X6_refuseUnlessWithin Z l (nI v) 8 (nI_pos (by omega)) (nI_lt (b := 8) hv (by decide)) _) kY_X6_refuseUnlessWithin kV_X6_refuseUnlessWithin w3_28 rfl ⟨rfl, rfl⟩ ⟨(Nat.le_of_ble_eq_true rfl), (Nat.le_of_ble_eq_true rfl)⟩ rfl (Nat.le_of_ble_eq_true rfl) hl.1 ⟨Nat.zero_le _, Nat.zero_le _⟩ dX6_count_3 rfl (fun H locs hG => ?_)
  refine lv_aload_n hx hb dX6_count_6 rfl (lv_at hl 0 rfl) ?_
  refine gg_get F hG (ci := 6) (v := .ref (AD (1 + 0))) 0 gcX6 rfl (gC_root hn) (by decide) w1_168 rfl dX6_count_7 ?_
  refine lv_iload_n hx hb dX6_count_10 rfl (lv_at hl 1 rfl) ?_
  refine gg_callV F hG (ci := 0) (As := [.int (nI v)]) (rest := []) (c_X0_tellCount Z l AD M _ hn 0 _ _ (by omega) hS hM hZ v hv) kY_X0_tellCount kV_X0_tellCount (gC_club (by omega) hn) rfl rfl w3_187 rfl ⟨rfl, rfl⟩ ⟨(Nat.le_of_ble_eq_true rfl), (Nat.le_of_ble_eq_true rfl)⟩ rfl (Nat.le_of_ble_eq_true rfl) hl.1 ⟨Nat.zero_le _, Nat.zero_le _⟩ dX6_count_11 rfl (fun H locs hG => ?_)
  exact gg_iret F hG rfl rfl rfl dX6_count_14
set_option maxRecDepth 100000 in
set_option maxHeartbeats 4000000 in
theorem x_X6_count_w (Z : gZ) (l : Launch) (hst : l.stackTraces = false) (AD : Nat → Nat) (M : St) (n : Nat) (hn : 78 ≤ n) (y : Int32) (hyo : y < 0 ∨ ¬ y < 8) : gX Z l yX6_count cX6_count 2 (some .int) ({ frames := 7, cells := 1, slots := 6, locals := 103 } : Room) [.ref (AD 0), .int y] (wC Z AD M n) xIO 1 6 := by
  refine gX_of (by decide +kernel) (Nat.le_of_ble_eq_true rfl) ?_
  intro pP eE sS mI aA bB mE cC A F htab hxK hxZ hG ls hl
  have hx := F.1
  have hb := F.2.1
  have hl : lv_has ls 2 [(0, .ref (AD 0)), (1, .int y)] := hl
  refine lv_iload_n hx hb dX6_count_0 rfl (lv_at hl 1 rfl) ?_
  refine lv_bipush (v := 8) hx hb dX6_count_1 (by decide) ?_
  exact gx_callS F htab hxK hxZ hG (As := [.int y, .int 8]) (rest := []) (x_X6_refuseUnlessWithin Z l hst y 8 hyo _) kY_X6_refuseUnlessWithin kV_X6_refuseUnlessWithin w3_28 rfl ⟨rfl, rfl⟩ ⟨(Nat.le_of_ble_eq_true rfl), (Nat.le_of_ble_eq_true rfl)⟩ rfl (Nat.le_of_ble_eq_true rfl) hl.1 ⟨(Nat.le_of_ble_eq_true rfl), (Nat.le_of_ble_eq_true rfl)⟩ ⟨(Nat.le_of_ble_eq_true rfl), (Nat.le_of_ble_eq_true rfl)⟩ dX6_count_3
set_option maxRecDepth 100000 in
set_option maxHeartbeats 4000000 in
theorem c_X6_rank (Z : gZ) (l : Launch) (AD : Nat → Nat) (M : St) (n : Nat) (hn : 78 ≤ n) (ns nm q : Nat) (hS : okS M 0 ns n) (hM : okM M 0 nm) (hZ : okZ M 0 nm) (hp : q < nm) : gM Z l yX6_rank cX6_rank 2 (some .int) ({ frames := 6, cells := 0, slots := 0, locals := 141 } : Room) [.ref (AD 0), .int (nI q)] (wC Z AD M n) (some (.int (mapF M 0 ns nm (nI q) nm 0))) (wC Z AD M n) 0 0 := by
  refine gM_of (by decide +kernel) (Nat.le_of_ble_eq_true rfl) ?_
  intro pP eE sS mI aA bB mE cC A F hname hG ls hl
  have hx := F.1
  have hb := F.2.1
  have hl : lv_has ls 2 [(0, .ref (AD 0)), (1, .int (nI q))] := hl
  have hnm2 := hM.2
  refine lv_iload_n hx hb dX6_rank_0 rfl (lv_at hl 1 rfl) ?_
  refine lv_aload_n hx hb dX6_rank_1 rfl (lv_at hl 0 rfl) ?_
  refine gg_get F hG (ci := 6) (v := .ref (AD (1 + 0))) 0 gcX6 rfl (gC_root hn) (by decide) w1_168 rfl dX6_rank_2 ?_
  refine gg_getN F hG (ci := 0) (v := .int (nI nm)) 5 gcX0 rfl (gC_club (by omega) hn) (by decide) wn_26 (congrArg (fun z => some (Value.int z)) hM.1) dX6_rank_5 ?_
  refine gg_callS F hG (As := [.int (nI q), .int (nI nm)]) (rest := []) (c_X6_refuseUnlessWithin Z l (nI q) (nI nm) (nI_pos (by omega)) (nI_lt hp (by omega)) _) kY_X6_refuseUnlessWithin kV_X6_refuseUnlessWithin w3_28 rfl ⟨rfl, rfl⟩ ⟨(Nat.le_of_ble_eq_true rfl), (Nat.le_of_ble_eq_true rfl)⟩ rfl (Nat.le_of_ble_eq_true rfl) hl.1 ⟨Nat.zero_le _, Nat.zero_le _⟩ dX6_rank_8 rfl (fun H locs hG => ?_)
  refine lv_aload_n hx hb dX6_rank_11 rfl (lv_at hl 0 rfl) ?_
  refine gg_get F hG (ci := 6) (v := .ref (AD (1 + 0))) 0 gcX6 rfl (gC_root hn) (by decide) w1_168 rfl dX6_rank_12 ?_
  refine lv_iload_n hx hb dX6_rank_15 rfl (lv_at hl 1 rfl) ?_
  refine gg_callV F hG (ci := 0) (As := [.int (nI q)]) (rest := []) (c_X0_memberAtPlace Z l AD M _ hn 0 _ _ (by omega) hS hM hZ (nI q)) kY_X0_memberAtPlace kV_X0_memberAtPlace (gC_club (by omega) hn) rfl rfl w3_195 rfl ⟨rfl, rfl⟩ ⟨(Nat.le_of_ble_eq_true rfl), (Nat.le_of_ble_eq_true rfl)⟩ rfl (Nat.le_of_ble_eq_true rfl) hl.1 ⟨Nat.zero_le _, Nat.zero_le _⟩ dX6_rank_16 rfl (fun H locs hG => ?_)
  exact gg_iret F hG rfl rfl rfl dX6_rank_19
set_option maxRecDepth 100000 in
set_option maxHeartbeats 4000000 in
theorem x_X6_rank_w (Z : gZ) (l : Launch) (hst : l.stackTraces = false) (AD : Nat → Nat) (M : St) (n : Nat) (hn : 78 ≤ n) (nm : Nat) (hM : okM M 0 nm) (y : Int32) (hyo : y < 0 ∨ ¬ y < nI nm) : gX Z l yX6_rank cX6_rank 2 (some .int) ({ frames := 7, cells := 1, slots := 6, locals := 103 } : Room) [.ref (AD 0), .int y] (wC Z AD M n) xIO 1 6 := by
  refine gX_of (by decide +kernel) (Nat.le_of_ble_eq_true rfl) ?_
  intro pP eE sS mI aA bB mE cC A F htab hxK hxZ hG ls hl
  have hx := F.1
  have hb := F.2.1
  have hl : lv_has ls 2 [(0, .ref (AD 0)), (1, .int y)] := hl
  refine lv_iload_n hx hb dX6_rank_0 rfl (lv_at hl 1 rfl) ?_
  refine lv_aload_n hx hb dX6_rank_1 rfl (lv_at hl 0 rfl) ?_
  refine gg_get F hG (ci := 6) (v := .ref (AD (1 + 0))) 0 gcX6 rfl (gC_root hn) (by decide) w1_168 rfl dX6_rank_2 ?_
  refine gg_getN F hG (ci := 0) (v := .int (nI nm)) 5 gcX0 rfl (gC_club (by omega) hn) (by decide) wn_26 (congrArg (fun z => some (Value.int z)) hM.1) dX6_rank_5 ?_
  exact gx_callS F htab hxK hxZ hG (As := [.int y, .int (nI nm)]) (rest := []) (x_X6_refuseUnlessWithin Z l hst y (nI nm) hyo _) kY_X6_refuseUnlessWithin kV_X6_refuseUnlessWithin w3_28 rfl ⟨rfl, rfl⟩ ⟨(Nat.le_of_ble_eq_true rfl), (Nat.le_of_ble_eq_true rfl)⟩ rfl (Nat.le_of_ble_eq_true rfl) hl.1 ⟨(Nat.le_of_ble_eq_true rfl), (Nat.le_of_ble_eq_true rfl)⟩ ⟨(Nat.le_of_ble_eq_true rfl), (Nat.le_of_ble_eq_true rfl)⟩ dX6_rank_8
set_option maxRecDepth 100000 in
set_option maxHeartbeats 4000000 in
theorem c_X6_dial (Z : gZ) (l : Launch) (AD : Nat → Nat) (M : St) (n : Nat) (hn : 78 ≤ n) (ns nm i k : Nat) (hS : okS M 0 ns n) (hM : okM M 0 nm) (hi : i < nm) (hk : k < ns) : gM Z l yX6_dial cX6_dial 4 (some .int) ({ frames := 4, cells := 0, slots := 0, locals := 96 } : Room) [.ref (AD 0), .int (nI i), .int (nI k)] (wC Z AD M n) (some (.int ((bdR (cpS M 16 (8 * 0 + i)) 0 16 ns (nI k) 101).1))) (wC Z AD (bdS (cpS M 16 (8 * 0 + i)) 0 16 ns 101) n) 0 0 := by
  refine gM_of (by decide +kernel) (Nat.le_of_ble_eq_true rfl) ?_
  intro pP eE sS mI aA bB mE cC A F hname hG ls hl
  have hx := F.1
  have hb := F.2.1
  have hl : lv_has ls 4 [(0, .ref (AD 0)), (1, .int (nI i)), (2, .int (nI k))] := hl
  have hns2 := hS.2.1
  have hns3 := hS.2.2.1
  have hnm2 := hM.2
  refine lv_aload_n hx hb dX6_dial_0 rfl (lv_at hl 0 rfl) ?_
  refine lv_iload_n hx hb dX6_dial_1 rfl (lv_at hl 1 rfl) ?_
  refine gg_callV F hG (ci := 6) (As := [.int (nI i)]) (rest := []) (c_X6_setOf Z l AD M _ hn _ i hM hi) kY_X6_setOf kV_X6_setOf (gC_root hn) rfl rfl w2_206 rfl ⟨rfl, rfl⟩ ⟨(Nat.le_of_ble_eq_true rfl), (Nat.le_of_ble_eq_true rfl)⟩ rfl (Nat.le_of_ble_eq_true rfl) hl.1 ⟨Nat.zero_le _, Nat.zero_le _⟩ dX6_dial_2 rfl (fun H locs hG => ?_)
  refine lv_astore_n (lv' := [(3, .ref (AD (9 + (8 * 0 + i)))), (0, .ref (AD 0)), (1, .int (nI i)), (2, .int (nI k))]) hx hb dX6_dial_5 rfl hl (by decide) rfl (fun ls hl => ?_)
  refine lv_aload_n hx hb dX6_dial_6 rfl (lv_at hl 1 rfl) ?_
  refine lv_iload_n hx hb dX6_dial_7 rfl (lv_at hl 3 rfl) ?_
  refine gg_callV F hG (ci := 6) (As := [.int (nI k)]) (rest := []) (c_X6_stationOf Z l AD M _ hn _ k hS hk) kY_X6_stationOf kV_X6_stationOf (gC_root hn) rfl rfl w3_22 rfl ⟨rfl, rfl⟩ ⟨(Nat.le_of_ble_eq_true rfl), (Nat.le_of_ble_eq_true rfl)⟩ rfl (Nat.le_of_ble_eq_true rfl) hl.1 ⟨Nat.zero_le _, Nat.zero_le _⟩ dX6_dial_8 rfl (fun H locs hG => ?_)
  refine lv_pop hx hb dX6_dial_11 rfl ?_
  refine lv_aload_n hx hb dX6_dial_12 rfl (lv_at hl 1 rfl) ?_
  refine gg_get F hG (ci := 6) (v := .ref (AD (9 + 16))) 2 gcX6 rfl (gC_root hn) (by decide) w1_170 rfl dX6_dial_13 ?_
  refine lv_aload_n hx hb dX6_dial_16 rfl (lv_at hl 0 rfl) ?_
  refine gg_callV F hG (ci := 1) (As := [.ref (AD (9 + (8 * 0 + i)))]) (rest := []) (c_X1_copyFrom Z l AD M _ hn 16 (8 * 0 + i) (by omega) (by omega)) kY_X1_copyFrom kV_X1_copyFrom (gC_cset (by omega) hn) rfl rfl w3_217 rfl ⟨rfl, rfl⟩ ⟨(Nat.le_of_ble_eq_true rfl), (Nat.le_of_ble_eq_true rfl)⟩ rfl (Nat.le_of_ble_eq_true rfl) hl.1 ⟨Nat.zero_le _, Nat.zero_le _⟩ dX6_dial_17 rfl (fun H locs hG => ?_)
  refine lv_aload_n hx hb dX6_dial_20 rfl (lv_at hl 1 rfl) ?_
  refine gg_get F hG (ci := 6) (v := .ref (AD (1 + 0))) 0 gcX6 rfl (gC_root hn) (by decide) w1_168 rfl dX6_dial_21 ?_
  refine lv_aload_n hx hb dX6_dial_24 rfl (lv_at hl 1 rfl) ?_
  refine gg_get F hG (ci := 6) (v := .ref (AD (9 + 16))) 2 gcX6 rfl (gC_root hn) (by decide) w1_170 rfl dX6_dial_25 ?_
  refine lv_iload_n hx hb dX6_dial_28 rfl (lv_at hl 3 rfl) ?_
  refine gg_callV F hG (ci := 0) (As := [.ref (AD (9 + 16)), .int (nI k)]) (rest := []) (c_X0_bestDial Z l AD (cpS M 16 (8 * 0 + i)) _ hn 0 16 _ (by omega) (by omega) hS (nI k)) kY_X0_bestDial kV_X0_bestDial (gC_club (by omega) hn) rfl rfl w3_221 rfl ⟨rfl, rfl⟩ ⟨(Nat.le_of_ble_eq_true rfl), (Nat.le_of_ble_eq_true rfl)⟩ rfl (Nat.le_of_ble_eq_true rfl) hl.1 ⟨Nat.zero_le _, Nat.zero_le _⟩ dX6_dial_29 rfl (fun H locs hG => ?_)
  exact gg_iret F hG rfl rfl rfl dX6_dial_32
set_option maxRecDepth 100000 in
set_option maxHeartbeats 4000000 in
theorem x_X6_dial_m (Z : gZ) (l : Launch) (hst : l.stackTraces = false) (AD : Nat → Nat) (M : St) (n : Nat) (hn : 78 ≤ n) (nm : Nat) (hM : okM M 0 nm) (x y : Int32) (hxo : x < 0 ∨ nI nm ≤ x) : gX Z l yX6_dial cX6_dial 4 (some .int) ({ frames := 8, cells := 1, slots := 6, locals := 125 } : Room) [.ref (AD 0), .int x, .int y] (wC Z AD M n) xIO 1 6 := by
  refine gX_of (by decide +kernel) (Nat.le_of_ble_eq_true rfl) ?_
  intro pP eE sS mI aA bB mE cC A F htab hxK hxZ hG ls hl
  have hx := F.1
  have hb := F.2.1
  have hl : lv_has ls 4 [(0, .ref (AD 0)), (1, .int x), (2, .int y)] := hl
  refine lv_aload_n hx hb dX6_dial_0 rfl (lv_at hl 0 rfl) ?_
  refine lv_iload_n hx hb dX6_dial_1 rfl (lv_at hl 1 rfl) ?_
  exact gx_callV F htab hxK hxZ hG (ci := 6) (As := [.int x]) (rest := []) (x_X6_setOf Z l hst AD M _ hn _ hM x hxo) kY_X6_setOf kV_X6_setOf (gC_root hn) rfl rfl w2_206 rfl ⟨rfl, rfl⟩ ⟨(Nat.le_of_ble_eq_true rfl), (Nat.le_of_ble_eq_true rfl)⟩ rfl (Nat.le_of_ble_eq_true rfl) hl.1 ⟨(Nat.le_of_ble_eq_true rfl), (Nat.le_of_ble_eq_true rfl)⟩ ⟨(Nat.le_of_ble_eq_true rfl), (Nat.le_of_ble_eq_true rfl)⟩ dX6_dial_2
set_option maxRecDepth 100000 in
set_option maxHeartbeats 4000000 in
theorem x_X6_dial_s (Z : gZ) (l : Launch) (hst : l.stackTraces = false) (AD : Nat → Nat) (M : St) (n : Nat) (hn : 78 ≤ n) (ns nm i : Nat) (hS : okS M 0 ns n) (hM : okM M 0 nm) (hi : i < nm) (y : Int32) (hyo : y < 0 ∨ nI ns ≤ y) : gX Z l yX6_dial cX6_dial 4 (some .int) ({ frames := 7, cells := 1, slots := 6, locals := 104 } : Room) [.ref (AD 0), .int (nI i), .int y] (wC Z AD M n) xIO 1 6 := by
  refine gX_of (by decide +kernel) (Nat.le_of_ble_eq_true rfl) ?_
  intro pP eE sS mI aA bB mE cC A F htab hxK hxZ hG ls hl
  have hx := F.1
  have hb := F.2.1
  have hl : lv_has ls 4 [(0, .ref (AD 0)), (1, .int (nI i)), (2, .int y)] := hl
  have hns2 := hS.2.1
  have hns3 := hS.2.2.1
  have hnm2 := hM.2
  refine lv_aload_n hx hb dX6_dial_0 rfl (lv_at hl 0 rfl) ?_
  refine lv_iload_n hx hb dX6_dial_1 rfl (lv_at hl 1 rfl) ?_
  refine gg_callV F hG (ci := 6) (As := [.int (nI i)]) (rest := []) (c_X6_setOf Z l AD M _ hn _ i hM hi) kY_X6_setOf kV_X6_setOf (gC_root hn) rfl rfl w2_206 rfl ⟨rfl, rfl⟩ ⟨(Nat.le_of_ble_eq_true rfl), (Nat.le_of_ble_eq_true rfl)⟩ rfl (Nat.le_of_ble_eq_true rfl) hl.1 ⟨Nat.zero_le _, Nat.zero_le _⟩ dX6_dial_2 rfl (fun H locs hG => ?_)
  refine lv_astore_n (lv' := [(3, .ref (AD (9 + (8 * 0 + i)))), (0, .ref (AD 0)), (1, .int (nI i)), (2, .int y)]) hx hb dX6_dial_5 rfl hl (by decide) rfl (fun ls hl => ?_)
  refine lv_aload_n hx hb dX6_dial_6 rfl (lv_at hl 1 rfl) ?_
  refine lv_iload_n hx hb dX6_dial_7 rfl (lv_at hl 3 rfl) ?_
  exact gx_callV F htab hxK hxZ hG (ci := 6) (As := [.int y]) (rest := []) (x_X6_stationOf Z l hst AD M _ hn _ hS y hyo) kY_X6_stationOf kV_X6_stationOf (gC_root hn) rfl rfl w3_22 rfl ⟨rfl, rfl⟩ ⟨(Nat.le_of_ble_eq_true rfl), (Nat.le_of_ble_eq_true rfl)⟩ rfl (Nat.le_of_ble_eq_true rfl) hl.1 ⟨(Nat.le_of_ble_eq_true rfl), (Nat.le_of_ble_eq_true rfl)⟩ ⟨(Nat.le_of_ble_eq_true rfl), (Nat.le_of_ble_eq_true rfl)⟩ dX6_dial_8
set_option maxRecDepth 100000 in
set_option maxHeartbeats 4000000 in
theorem x_X6_next_m (Z : gZ) (l : Launch) (hst : l.stackTraces = false) (AD : Nat → Nat) (M : St) (n : Nat) (hn : 78 ≤ n) (nm : Nat) (hM : okM M 0 nm) (x y : Int32) (hxo : x < 0 ∨ nI nm ≤ x) : gX Z l yX6_next cX6_next 5 (some .int) ({ frames := 8, cells := 1, slots := 6, locals := 125 } : Room) [.ref (AD 0), .int x, .int y] (wC Z AD M n) xIO 1 6 := by
  refine gX_of (by decide +kernel) (Nat.le_of_ble_eq_true rfl) ?_
  intro pP eE sS mI aA bB mE cC A F htab hxK hxZ hG ls hl
  have hx := F.1
  have hb := F.2.1
  have hl : lv_has ls 5 [(0, .ref (AD 0)), (1, .int x), (2, .int y)] := hl
  refine lv_aload_n hx hb dX6_next_0 rfl (lv_at hl 0 rfl) ?_
  refine lv_iload_n hx hb dX6_next_1 rfl (lv_at hl 1 rfl) ?_
  exact gx_callV F htab hxK hxZ hG (ci := 6) (As := [.int x]) (rest := []) (x_X6_setOf Z l hst AD M _ hn _ hM x hxo) kY_X6_setOf kV_X6_setOf (gC_root hn) rfl rfl w2_206 rfl ⟨rfl, rfl⟩ ⟨(Nat.le_of_ble_eq_true rfl), (Nat.le_of_ble_eq_true rfl)⟩ rfl (Nat.le_of_ble_eq_true rfl) hl.1 ⟨(Nat.le_of_ble_eq_true rfl), (Nat.le_of_ble_eq_true rfl)⟩ ⟨(Nat.le_of_ble_eq_true rfl), (Nat.le_of_ble_eq_true rfl)⟩ dX6_next_2
set_option maxRecDepth 100000 in
set_option maxHeartbeats 4000000 in
theorem x_X6_next_s (Z : gZ) (l : Launch) (hst : l.stackTraces = false) (AD : Nat → Nat) (M : St) (n : Nat) (hn : 78 ≤ n) (ns nm i : Nat) (hS : okS M 0 ns n) (hM : okM M 0 nm) (hi : i < nm) (y : Int32) (hyo : y < 0 ∨ nI ns ≤ y) : gX Z l yX6_next cX6_next 5 (some .int) ({ frames := 7, cells := 1, slots := 6, locals := 104 } : Room) [.ref (AD 0), .int (nI i), .int y] (wC Z AD M n) xIO 1 6 := by
  refine gX_of (by decide +kernel) (Nat.le_of_ble_eq_true rfl) ?_
  intro pP eE sS mI aA bB mE cC A F htab hxK hxZ hG ls hl
  have hx := F.1
  have hb := F.2.1
  have hl : lv_has ls 5 [(0, .ref (AD 0)), (1, .int (nI i)), (2, .int y)] := hl
  have hns2 := hS.2.1
  have hns3 := hS.2.2.1
  have hnm2 := hM.2
  refine lv_aload_n hx hb dX6_next_0 rfl (lv_at hl 0 rfl) ?_
  refine lv_iload_n hx hb dX6_next_1 rfl (lv_at hl 1 rfl) ?_
  refine gg_callV F hG (ci := 6) (As := [.int (nI i)]) (rest := []) (c_X6_setOf Z l AD M _ hn _ i hM hi) kY_X6_setOf kV_X6_setOf (gC_root hn) rfl rfl w2_206 rfl ⟨rfl, rfl⟩ ⟨(Nat.le_of_ble_eq_true rfl), (Nat.le_of_ble_eq_true rfl)⟩ rfl (Nat.le_of_ble_eq_true rfl) hl.1 ⟨Nat.zero_le _, Nat.zero_le _⟩ dX6_next_2 rfl (fun H locs hG => ?_)
  refine lv_astore_n (lv' := [(3, .ref (AD (9 + (8 * 0 + i)))), (0, .ref (AD 0)), (1, .int (nI i)), (2, .int y)]) hx hb dX6_next_5 rfl hl (by decide) rfl (fun ls hl => ?_)
  refine lv_aload_n hx hb dX6_next_6 rfl (lv_at hl 1 rfl) ?_
  refine lv_iload_n hx hb dX6_next_7 rfl (lv_at hl 3 rfl) ?_
  exact gx_callV F htab hxK hxZ hG (ci := 6) (As := [.int y]) (rest := []) (x_X6_stationOf Z l hst AD M _ hn _ hS y hyo) kY_X6_stationOf kV_X6_stationOf (gC_root hn) rfl rfl w3_22 rfl ⟨rfl, rfl⟩ ⟨(Nat.le_of_ble_eq_true rfl), (Nat.le_of_ble_eq_true rfl)⟩ rfl (Nat.le_of_ble_eq_true rfl) hl.1 ⟨(Nat.le_of_ble_eq_true rfl), (Nat.le_of_ble_eq_true rfl)⟩ ⟨(Nat.le_of_ble_eq_true rfl), (Nat.le_of_ble_eq_true rfl)⟩ dX6_next_8
set_option maxRecDepth 100000 in
set_option maxHeartbeats 4000000 in
theorem c_X6_next (Z : gZ) (l : Launch) (AD : Nat → Nat) (M : St) (n : Nat) (hn : 78 ≤ n) (ns nm i k : Nat) (hS : okS M 0 ns n) (hM : okM M 0 nm) (hi : i < nm) (hk : k < ns) : gM Z l yX6_next cX6_next 5 (some .int) ({ frames := 3, cells := 0, slots := 0, locals := 70 } : Room) [.ref (AD 0), .int (nI i), .int (nI k)] (wC Z AD M n) (some (.int (nxR (nxE M (8 * 0 + i) ns (nI k) 97 0)))) (wC Z AD (nxS M (8 * 0 + i) ns (nxK (nxE M (8 * 0 + i) ns (nI k) 97 0))) n) 0 0 := by
  refine gM_of (by decide +kernel) (Nat.le_of_ble_eq_true rfl) ?_
  intro pP eE sS mI aA bB mE cC A F hname hG ls hl
  have hx := F.1
  have hb := F.2.1
  have hl : lv_has ls 5 [(0, .ref (AD 0)), (1, .int (nI i)), (2, .int (nI k))] := hl
  have hns2 := hS.2.1
  have hns3 := hS.2.2.1
  have hnm2 := hM.2
  refine lv_aload_n hx hb dX6_next_0 rfl (lv_at hl 0 rfl) ?_
  refine lv_iload_n hx hb dX6_next_1 rfl (lv_at hl 1 rfl) ?_
  refine gg_callV F hG (ci := 6) (As := [.int (nI i)]) (rest := []) (c_X6_setOf Z l AD M _ hn _ i hM hi) kY_X6_setOf kV_X6_setOf (gC_root hn) rfl rfl w2_206 rfl ⟨rfl, rfl⟩ ⟨(Nat.le_of_ble_eq_true rfl), (Nat.le_of_ble_eq_true rfl)⟩ rfl (Nat.le_of_ble_eq_true rfl) hl.1 ⟨Nat.zero_le _, Nat.zero_le _⟩ dX6_next_2 rfl (fun H locs hG => ?_)
  refine lv_astore_n (lv' := [(3, .ref (AD (9 + (8 * 0 + i)))), (0, .ref (AD 0)), (1, .int (nI i)), (2, .int (nI k))]) hx hb dX6_next_5 rfl hl (by decide) rfl (fun ls hl => ?_)
  refine lv_aload_n hx hb dX6_next_6 rfl (lv_at hl 1 rfl) ?_
  refine lv_iload_n hx hb dX6_next_7 rfl (lv_at hl 3 rfl) ?_
  refine gg_callV F hG (ci := 6) (As := [.int (nI k)]) (rest := []) (c_X6_stationOf Z l AD M _ hn _ k hS hk) kY_X6_stationOf kV_X6_stationOf (gC_root hn) rfl rfl w3_22 rfl ⟨rfl, rfl⟩ ⟨(Nat.le_of_ble_eq_true rfl), (Nat.le_of_ble_eq_true rfl)⟩ rfl (Nat.le_of_ble_eq_true rfl) hl.1 ⟨Nat.zero_le _, Nat.zero_le _⟩ dX6_next_8 rfl (fun H locs hG => ?_)
  refine lv_pop hx hb dX6_next_11 rfl ?_
  refine lv_iconst (v := nI 0) hx hb dX6_next_12 rfl ?_
  refine lv_istore (lv' := [(4, .int (nI 0)), (3, .ref (AD (9 + (8 * 0 + i)))), (0, .ref (AD 0)), (1, .int (nI i)), (2, .int (nI k))]) hx hb dX6_next_13 hl (by decide) rfl (fun ls hl => ?_)
  have loop15 : ∀ (fuQ d : Nat), d ≤ 97 → 97 + 1 ≤ d + fuQ → nxE M (8 * 0 + i) ns (nI k) 97 0 = nxE M (8 * 0 + i) ns (nI k) (97 - d) d → ∀ (H : Heap) (locs : List Loc), gG Z A sS (wC Z AD (nxS M (8 * 0 + i) ns d) n) H locs → ∀ ls : Array Slot, lv_has ls 5 [(0, .ref (AD 0)), (1, .int (nI i)), (2, .int (nI k)), (3, .ref (AD (9 + (8 * 0 + i)))), (4, .int (nI d))] → W pP l eE ({ frames := 3, cells := 0, slots := 0, locals := 70 } : Room) sS mI aA bB mE cC H locs 0 0 (MQ bB (gQ Z A (some (.int (nxR (nxE M (8 * 0 + i) ns (nI k) 97 0)))) (wC Z AD (nxS M (8 * 0 + i) ns (nxK (nxE M (8 * 0 + i) ns (nI k) 97 0))) n)) aA sS 0 0 A) (F0 mI 15 ls []) := by
    intro fuQ
    induction fuQ with
    | zero =>
      intro d h1 h2
      exact absurd h2 (by omega)
    | succ fuQ ih15 =>
      intro d hleQ hfuQ hE H locs hG ls hl
      by_cases hlt : d < 97
      · refine lv_iload hx hb dX6_next_15 (lv_at hl 4 rfl) ?_
        refine lv_bipush (v := 96) hx hb dX6_next_17 (by decide) ?_
        refine lv_icmp_gt (tgt := 56) hx hb dX6_next_19 (by decide) (fun h19 => absurd h19 (show ¬ (96 : Int32) < nI d from nI_nlt (a := 96) (b := d) (by omega) (by decide))) (fun h19 => ?_)
        refine lv_aload_n hx hb dX6_next_22 rfl (lv_at hl 0 rfl) ?_
        refine gg_get F hG (ci := 6) (v := .ref (AD (1 + 0))) 0 gcX6 rfl (gC_root hn) (by decide) w1_168 rfl dX6_next_23 ?_
        refine lv_aload_n hx hb dX6_next_26 rfl (lv_at hl 3 rfl) ?_
        refine lv_aload_n hx hb dX6_next_27 rfl (lv_at hl 0 rfl) ?_
        refine gg_get F hG (ci := 6) (v := .ref (AD (1 + 0))) 0 gcX6 rfl (gC_root hn) (by decide) w1_168 rfl dX6_next_28 ?_
        refine gg_getN F hG (ci := 0) (v := .int ((nxS M (8 * 0 + i) ns d) 3 0 0)) 6 gcX0 rfl (gC_club (by omega) hn) (by decide) wn_27 rfl dX6_next_31 ?_
        refine lv_iload hx hb dX6_next_34 (lv_at hl 4 rfl) ?_
        refine lv_iadd hx hb dX6_next_36 ?_
        refine gg_callV F hG (ci := 0) (As := [.ref (AD (9 + (8 * 0 + i))), .int (((nxS M (8 * 0 + i) ns d) 3 0 0) + (nI d))]) (rest := []) (c_X0_hearingOf Z l AD (nxS M (8 * 0 + i) ns d) _ hn 0 (8 * 0 + i) _ (by omega) (by omega) (nxS_S hS d) (((nxS M (8 * 0 + i) ns d) 3 0 0) + (nI d))) kY_X0_hearingOf kV_X0_hearingOf (gC_club (by omega) hn) rfl rfl w3_64 rfl ⟨rfl, rfl⟩ ⟨(Nat.le_of_ble_eq_true rfl), (Nat.le_of_ble_eq_true rfl)⟩ rfl (Nat.le_of_ble_eq_true rfl) hl.1 ⟨Nat.zero_le _, Nat.zero_le _⟩ dX6_next_37 rfl (fun H locs hG => ?_)
        refine gg_callV F hG (ci := 2) (As := []) (rest := []) (c_X2_verdict Z l AD (heaM (nxS M (8 * 0 + i) ns d) 0 (8 * 0 + i) (((nxS M (8 * 0 + i) ns d) 3 0 0) + (nI d)) ns) _ hn 0 (by omega)) kY_X2_verdict kV_X2_verdict (gC_hear (by omega) hn) rfl rfl w3_77 rfl ⟨rfl, rfl⟩ ⟨(Nat.le_of_ble_eq_true rfl), (Nat.le_of_ble_eq_true rfl)⟩ rfl (Nat.le_of_ble_eq_true rfl) hl.1 ⟨Nat.zero_le _, Nat.zero_le _⟩ dX6_next_40 rfl (fun H locs hG => ?_)
        refine lv_iload_n hx hb dX6_next_43 rfl (lv_at hl 2 rfl) ?_
        refine lv_icmp_ne (tgt := 50) hx hb dX6_next_44 (by decide) (fun h44 => ?_) (fun h44 => ?_)
        · refine lv_iinc (v := nI (d + 1)) (lv' := [(4, .int (nI (d + 1))), (0, .ref (AD 0)), (1, .int (nI i)), (2, .int (nI k)), (3, .ref (AD (9 + (8 * 0 + i))))]) hx hb dX6_next_50 hl (k := 4) rfl (nI_1 _) (by decide) rfl (fun ls hl => ?_)
          refine lv_goto (tgt := 15) hx hb dX6_next_53 (by decide) ?_
          exact ih15 (d + 1) (by omega) (by omega) (nxE_f hlt hE h44) _ _ hG ls (lv_sub hl [1, 2, 3, 4, 0] rfl)
        · refine lv_iload hx hb dX6_next_47 (lv_at hl 4 rfl) ?_
          exact gg_iret F hG rfl (show nI d = nxR (nxE M (8 * 0 + i) ns (nI k) 97 0) by rw [nxE_t hlt hE h44]; exact (if_pos hlt).symm) (congrArg (fun q => wC Z AD (nxS M (8 * 0 + i) ns q) n) (show d + 1 = nxK (nxE M (8 * 0 + i) ns (nI k) 97 0) by rw [nxE_t hlt hE h44]; exact (if_pos hlt).symm)) dX6_next_49
      · have hN : 97 = d := by omega
        subst hN
        refine lv_iload hx hb dX6_next_15 (lv_at hl 4 rfl) ?_
        refine lv_bipush (v := 96) hx hb dX6_next_17 (by decide) ?_
        refine lv_icmp_gt (tgt := 56) hx hb dX6_next_19 (by decide) (fun h19 => ?_) (fun h19 => absurd (show (96 : Int32) < nI 97 by decide) h19)
        refine lv_iconst (v := (-1)) hx hb dX6_next_56 (by decide) ?_
        exact gg_iret F hG rfl (show (-1 : Int32) = nxR (nxE M (8 * 0 + i) ns (nI k) 97 0) by rw [show nxE M (8 * 0 + i) ns (nI k) 97 0 = 97 from hE]; rfl) (congrArg (fun q => wC Z AD (nxS M (8 * 0 + i) ns q) n) (show 97 = nxK (nxE M (8 * 0 + i) ns (nI k) 97 0) by rw [show nxE M (8 * 0 + i) ns (nI k) 97 0 = 97 from hE]; rfl)) dX6_next_57
  exact loop15 (97 + 1) 0 (Nat.zero_le _) (by omega) rfl _ _ hG ls (lv_sub hl [2, 3, 4, 1, 0] rfl)
set_option maxRecDepth 100000 in
set_option maxHeartbeats 4000000 in
theorem c_X6_apart (Z : gZ) (l : Launch) (AD : Nat → Nat) (M : St) (n : Nat) (hn : 78 ≤ n) (ns nm i a b : Nat) (hS : okS M 0 ns n) (hM : okM M 0 nm) (hi : i < nm) (ha : a < ns) (hbb : b < ns) (hab : ¬ nI a = nI b) : gM Z l yX6_apart cX6_apart 8 (some .int) ({ frames := 3, cells := 0, slots := 0, locals := 74 } : Room) [.ref (AD 0), .int (nI i), .int (nI a), .int (nI b)] (wC Z AD M n) (some (.int (apR (apE M (8 * 0 + i) a b 181 0)))) (wC Z AD (apS M (8 * 0 + i) a b (apK (apE M (8 * 0 + i) a b 181 0))) n) 0 0 := by
  refine gM_of (by decide +kernel) (Nat.le_of_ble_eq_true rfl) ?_
  intro pP eE sS mI aA bB mE cC A F hname hG ls hl
  have hx := F.1
  have hb := F.2.1
  have hl : lv_has ls 8 [(0, .ref (AD 0)), (1, .int (nI i)), (2, .int (nI a)), (3, .int (nI b))] := hl
  have hns2 := hS.2.1
  have hns3 := hS.2.2.1
  have hnm2 := hM.2
  refine lv_aload_n hx hb dX6_apart_0 rfl (lv_at hl 0 rfl) ?_
  refine lv_iload_n hx hb dX6_apart_1 rfl (lv_at hl 1 rfl) ?_
  refine gg_callV F hG (ci := 6) (As := [.int (nI i)]) (rest := []) (c_X6_setOf Z l AD M _ hn _ i hM hi) kY_X6_setOf kV_X6_setOf (gC_root hn) rfl rfl w2_206 rfl ⟨rfl, rfl⟩ ⟨(Nat.le_of_ble_eq_true rfl), (Nat.le_of_ble_eq_true rfl)⟩ rfl (Nat.le_of_ble_eq_true rfl) hl.1 ⟨Nat.zero_le _, Nat.zero_le _⟩ dX6_apart_2 rfl (fun H locs hG => ?_)
  refine lv_astore (lv' := [(4, .ref (AD (9 + (8 * 0 + i)))), (0, .ref (AD 0)), (1, .int (nI i)), (2, .int (nI a)), (3, .int (nI b))]) hx hb dX6_apart_5 hl (by decide) rfl (fun ls hl => ?_)
  refine lv_aload_n hx hb dX6_apart_7 rfl (lv_at hl 1 rfl) ?_
  refine lv_iload_n hx hb dX6_apart_8 rfl (lv_at hl 3 rfl) ?_
  refine gg_callV F hG (ci := 6) (As := [.int (nI a)]) (rest := []) (c_X6_stationOf Z l AD M _ hn _ a hS ha) kY_X6_stationOf kV_X6_stationOf (gC_root hn) rfl rfl w3_22 rfl ⟨rfl, rfl⟩ ⟨(Nat.le_of_ble_eq_true rfl), (Nat.le_of_ble_eq_true rfl)⟩ rfl (Nat.le_of_ble_eq_true rfl) hl.1 ⟨Nat.zero_le _, Nat.zero_le _⟩ dX6_apart_9 rfl (fun H locs hG => ?_)
  refine lv_astore (lv' := [(5, .ref (AD (78 + a))), (4, .ref (AD (9 + (8 * 0 + i)))), (0, .ref (AD 0)), (1, .int (nI i)), (2, .int (nI a)), (3, .int (nI b))]) hx hb dX6_apart_12 hl (by decide) rfl (fun ls hl => ?_)
  refine lv_aload_n hx hb dX6_apart_14 rfl (lv_at hl 2 rfl) ?_
  refine lv_iload_n hx hb dX6_apart_15 rfl (lv_at hl 5 rfl) ?_
  refine gg_callV F hG (ci := 6) (As := [.int (nI b)]) (rest := []) (c_X6_stationOf Z l AD M _ hn _ b hS hbb) kY_X6_stationOf kV_X6_stationOf (gC_root hn) rfl rfl w3_22 rfl ⟨rfl, rfl⟩ ⟨(Nat.le_of_ble_eq_true rfl), (Nat.le_of_ble_eq_true rfl)⟩ rfl (Nat.le_of_ble_eq_true rfl) hl.1 ⟨Nat.zero_le _, Nat.zero_le _⟩ dX6_apart_16 rfl (fun H locs hG => ?_)
  refine lv_astore (lv' := [(6, .ref (AD (78 + b))), (5, .ref (AD (78 + a))), (4, .ref (AD (9 + (8 * 0 + i)))), (0, .ref (AD 0)), (1, .int (nI i)), (2, .int (nI a)), (3, .int (nI b))]) hx hb dX6_apart_19 hl (by decide) rfl (fun ls hl => ?_)
  refine lv_iload_n hx hb dX6_apart_21 rfl (lv_at hl 5 rfl) ?_
  refine lv_iload_n hx hb dX6_apart_22 rfl (lv_at hl 6 rfl) ?_
  refine lv_icmp_ne (tgt := 36) hx hb dX6_apart_23 (by decide) (fun h23 => ?_) (fun h23 => absurd h23 hab)
  refine lv_aload_n hx hb dX6_apart_36 rfl (lv_at hl 3 rfl) ?_
  refine gg_get F hG (ci := 6) (v := .ref (AD (9 + 16))) 2 gcX6 rfl (gC_root hn) (by decide) w1_170 rfl dX6_apart_37 ?_
  refine lv_aload hx hb dX6_apart_40 (lv_at hl 2 rfl) ?_
  refine gg_callV F hG (ci := 1) (As := [.ref (AD (9 + (8 * 0 + i)))]) (rest := []) (c_X1_copyFrom Z l AD M _ hn 16 (8 * 0 + i) (by omega) (by omega)) kY_X1_copyFrom kV_X1_copyFrom (gC_cset (by omega) hn) rfl rfl w3_217 rfl ⟨rfl, rfl⟩ ⟨(Nat.le_of_ble_eq_true rfl), (Nat.le_of_ble_eq_true rfl)⟩ rfl (Nat.le_of_ble_eq_true rfl) hl.1 ⟨Nat.zero_le _, Nat.zero_le _⟩ dX6_apart_42 rfl (fun H locs hG => ?_)
  refine lv_bipush (v := nI (20 + 0)) hx hb dX6_apart_45 rfl ?_
  refine lv_istore (lv' := [(7, .int (nI (20 + 0))), (6, .ref (AD (78 + b))), (5, .ref (AD (78 + a))), (4, .ref (AD (9 + (8 * 0 + i)))), (0, .ref (AD 0)), (1, .int (nI i)), (2, .int (nI a)), (3, .int (nI b))]) hx hb dX6_apart_47 hl (by decide) rfl (fun ls hl => ?_)
  have loop49 : ∀ (fuQ d : Nat), d ≤ 181 → 181 + 1 ≤ d + fuQ → apE M (8 * 0 + i) a b 181 0 = apE M (8 * 0 + i) a b (181 - d) d → ∀ (H : Heap) (locs : List Loc), gG Z A sS (wC Z AD (apS M (8 * 0 + i) a b d) n) H locs → ∀ ls : Array Slot, lv_has ls 8 [(0, .ref (AD 0)), (1, .int (nI i)), (2, .int (nI a)), (3, .int (nI b)), (4, .ref (AD (9 + (8 * 0 + i)))), (5, .ref (AD (78 + a))), (6, .ref (AD (78 + b))), (7, .int (nI (20 + d)))] → W pP l eE ({ frames := 3, cells := 0, slots := 0, locals := 74 } : Room) sS mI aA bB mE cC H locs 0 0 (MQ bB (gQ Z A (some (.int (apR (apE M (8 * 0 + i) a b 181 0)))) (wC Z AD (apS M (8 * 0 + i) a b (apK (apE M (8 * 0 + i) a b 181 0))) n)) aA sS 0 0 A) (F0 mI 49 ls []) := by
    intro fuQ
    induction fuQ with
    | zero =>
      intro d h1 h2
      exact absurd h2 (by omega)
    | succ fuQ ih49 =>
      intro d hleQ hfuQ hE H locs hG ls hl
      by_cases hlt : d < 181
      · refine lv_iload hx hb dX6_apart_49 (lv_at hl 7 rfl) ?_
        refine lv_sipush (v := 200) hx hb dX6_apart_51 (by decide) ?_
        refine lv_icmp_gt (tgt := 86) hx hb dX6_apart_54 (by decide) (fun h54 => absurd h54 (show ¬ (200 : Int32) < nI (20 + d) from nI_nlt (a := 200) (b := 20 + d) (by omega) (by decide))) (fun h54 => ?_)
        refine lv_aload_n hx hb dX6_apart_57 rfl (lv_at hl 0 rfl) ?_
        refine gg_get F hG (ci := 6) (v := .ref (AD (1 + 0))) 0 gcX6 rfl (gC_root hn) (by decide) w1_168 rfl dX6_apart_58 ?_
        refine lv_aload_n hx hb dX6_apart_61 rfl (lv_at hl 0 rfl) ?_
        refine gg_get F hG (ci := 6) (v := .ref (AD (9 + 16))) 2 gcX6 rfl (gC_root hn) (by decide) w1_170 rfl dX6_apart_62 ?_
        refine lv_iload hx hb dX6_apart_65 (lv_at hl 7 rfl) ?_
        refine lv_aload hx hb dX6_apart_67 (lv_at hl 5 rfl) ?_
        refine lv_aload hx hb dX6_apart_69 (lv_at hl 6 rfl) ?_
        refine gg_callV F hG (ci := 0) (As := [.ref (AD (9 + 16)), .int (nI (20 + d)), .ref (AD (78 + a)), .ref (AD (78 + b))]) (rest := []) (c_X0_keepsApart Z l AD (apS M (8 * 0 + i) a b d) _ hn 0 16 a b (by omega) (by omega) (by omega) (by omega) (nI (20 + d))) kY_X0_keepsApart kV_X0_keepsApart (gC_club (by omega) hn) rfl rfl w4_1 rfl ⟨rfl, rfl⟩ ⟨(Nat.le_of_ble_eq_true rfl), (Nat.le_of_ble_eq_true rfl)⟩ rfl (Nat.le_of_ble_eq_true rfl) hl.1 ⟨Nat.zero_le _, Nat.zero_le _⟩ dX6_apart_71 rfl (fun H locs hG => ?_)
        refine lv_if_eq (tgt := 80) hx hb dX6_apart_74 (by decide) (fun h74 => ?_) (fun h74 => ?_)
        · refine lv_iinc (v := nI ((20 + d) + 1)) (lv' := [(7, .int (nI ((20 + d) + 1))), (0, .ref (AD 0)), (1, .int (nI i)), (2, .int (nI a)), (3, .int (nI b)), (4, .ref (AD (9 + (8 * 0 + i)))), (5, .ref (AD (78 + a))), (6, .ref (AD (78 + b)))]) hx hb dX6_apart_80 hl (k := 7) rfl (nI_1 _) (by decide) rfl (fun ls hl => ?_)
          refine lv_goto (tgt := 49) hx hb dX6_apart_83 (by decide) ?_
          exact ih49 (d + 1) (by omega) (by omega) (apE_f hlt hE h74) _ _ hG ls (lv_sub hl [1, 2, 3, 4, 5, 6, 7, 0] rfl)
        · refine lv_iload hx hb dX6_apart_77 (lv_at hl 7 rfl) ?_
          exact gg_iret F hG rfl (show nI (20 + d) = apR (apE M (8 * 0 + i) a b 181 0) by rw [apE_t hlt hE h74]; exact (if_pos hlt).symm) (congrArg (fun q => wC Z AD (apS M (8 * 0 + i) a b q) n) (show d + 1 = apK (apE M (8 * 0 + i) a b 181 0) by rw [apE_t hlt hE h74]; exact (if_pos hlt).symm)) dX6_apart_79
      · have hN : 181 = d := by omega
        subst hN
        refine lv_iload hx hb dX6_apart_49 (lv_at hl 7 rfl) ?_
        refine lv_sipush (v := 200) hx hb dX6_apart_51 (by decide) ?_
        refine lv_icmp_gt (tgt := 86) hx hb dX6_apart_54 (by decide) (fun h54 => ?_) (fun h54 => absurd (show (200 : Int32) < nI (20 + 181) by decide) h54)
        refine lv_iconst (v := (-1)) hx hb dX6_apart_86 (by decide) ?_
        exact gg_iret F hG rfl (show (-1 : Int32) = apR (apE M (8 * 0 + i) a b 181 0) by rw [show apE M (8 * 0 + i) a b 181 0 = 181 from hE]; rfl) (congrArg (fun q => wC Z AD (apS M (8 * 0 + i) a b q) n) (show 181 = apK (apE M (8 * 0 + i) a b 181 0) by rw [show apE M (8 * 0 + i) a b 181 0 = 181 from hE]; rfl)) dX6_apart_87
  exact loop49 (181 + 1) 0 (Nat.zero_le _) (by omega) rfl _ _ hG ls (lv_sub hl [4, 5, 6, 7, 3, 2, 1, 0] rfl)
set_option maxRecDepth 100000 in
set_option maxHeartbeats 4000000 in
theorem x_X6_apart_m (Z : gZ) (l : Launch) (hst : l.stackTraces = false) (AD : Nat → Nat) (M : St) (n : Nat) (hn : 78 ≤ n) (nm : Nat) (hM : okM M 0 nm) (x y z : Int32) (hxo : x < 0 ∨ nI nm ≤ x) : gX Z l yX6_apart cX6_apart 8 (some .int) ({ frames := 8, cells := 1, slots := 6, locals := 125 } : Room) [.ref (AD 0), .int x, .int y, .int z] (wC Z AD M n) xIO 1 6 := by
  refine gX_of (by decide +kernel) (Nat.le_of_ble_eq_true rfl) ?_
  intro pP eE sS mI aA bB mE cC A F htab hxK hxZ hG ls hl
  have hx := F.1
  have hb := F.2.1
  have hl : lv_has ls 8 [(0, .ref (AD 0)), (1, .int x), (2, .int y), (3, .int z)] := hl
  refine lv_aload_n hx hb dX6_apart_0 rfl (lv_at hl 0 rfl) ?_
  refine lv_iload_n hx hb dX6_apart_1 rfl (lv_at hl 1 rfl) ?_
  exact gx_callV F htab hxK hxZ hG (ci := 6) (As := [.int x]) (rest := []) (x_X6_setOf Z l hst AD M _ hn _ hM x hxo) kY_X6_setOf kV_X6_setOf (gC_root hn) rfl rfl w2_206 rfl ⟨rfl, rfl⟩ ⟨(Nat.le_of_ble_eq_true rfl), (Nat.le_of_ble_eq_true rfl)⟩ rfl (Nat.le_of_ble_eq_true rfl) hl.1 ⟨(Nat.le_of_ble_eq_true rfl), (Nat.le_of_ble_eq_true rfl)⟩ ⟨(Nat.le_of_ble_eq_true rfl), (Nat.le_of_ble_eq_true rfl)⟩ dX6_apart_2
set_option maxRecDepth 100000 in
set_option maxHeartbeats 4000000 in
theorem x_X6_apart_1 (Z : gZ) (l : Launch) (hst : l.stackTraces = false) (AD : Nat → Nat) (M : St) (n : Nat) (hn : 78 ≤ n) (ns nm i : Nat) (hS : okS M 0 ns n) (hM : okM M 0 nm) (hi : i < nm) (y z : Int32) (hyo : y < 0 ∨ nI ns ≤ y) : gX Z l yX6_apart cX6_apart 8 (some .int) ({ frames := 7, cells := 1, slots := 6, locals := 104 } : Room) [.ref (AD 0), .int (nI i), .int y, .int z] (wC Z AD M n) xIO 1 6 := by
  refine gX_of (by decide +kernel) (Nat.le_of_ble_eq_true rfl) ?_
  intro pP eE sS mI aA bB mE cC A F htab hxK hxZ hG ls hl
  have hx := F.1
  have hb := F.2.1
  have hl : lv_has ls 8 [(0, .ref (AD 0)), (1, .int (nI i)), (2, .int y), (3, .int z)] := hl
  have hns2 := hS.2.1
  have hns3 := hS.2.2.1
  have hnm2 := hM.2
  refine lv_aload_n hx hb dX6_apart_0 rfl (lv_at hl 0 rfl) ?_
  refine lv_iload_n hx hb dX6_apart_1 rfl (lv_at hl 1 rfl) ?_
  refine gg_callV F hG (ci := 6) (As := [.int (nI i)]) (rest := []) (c_X6_setOf Z l AD M _ hn _ i hM hi) kY_X6_setOf kV_X6_setOf (gC_root hn) rfl rfl w2_206 rfl ⟨rfl, rfl⟩ ⟨(Nat.le_of_ble_eq_true rfl), (Nat.le_of_ble_eq_true rfl)⟩ rfl (Nat.le_of_ble_eq_true rfl) hl.1 ⟨Nat.zero_le _, Nat.zero_le _⟩ dX6_apart_2 rfl (fun H locs hG => ?_)
  refine lv_astore (lv' := [(4, .ref (AD (9 + (8 * 0 + i)))), (0, .ref (AD 0)), (1, .int (nI i)), (2, .int y), (3, .int z)]) hx hb dX6_apart_5 hl (by decide) rfl (fun ls hl => ?_)
  refine lv_aload_n hx hb dX6_apart_7 rfl (lv_at hl 1 rfl) ?_
  refine lv_iload_n hx hb dX6_apart_8 rfl (lv_at hl 3 rfl) ?_
  exact gx_callV F htab hxK hxZ hG (ci := 6) (As := [.int y]) (rest := []) (x_X6_stationOf Z l hst AD M _ hn _ hS y hyo) kY_X6_stationOf kV_X6_stationOf (gC_root hn) rfl rfl w3_22 rfl ⟨rfl, rfl⟩ ⟨(Nat.le_of_ble_eq_true rfl), (Nat.le_of_ble_eq_true rfl)⟩ rfl (Nat.le_of_ble_eq_true rfl) hl.1 ⟨(Nat.le_of_ble_eq_true rfl), (Nat.le_of_ble_eq_true rfl)⟩ ⟨(Nat.le_of_ble_eq_true rfl), (Nat.le_of_ble_eq_true rfl)⟩ dX6_apart_9
set_option maxRecDepth 100000 in
set_option maxHeartbeats 4000000 in
theorem x_X6_apart_2 (Z : gZ) (l : Launch) (hst : l.stackTraces = false) (AD : Nat → Nat) (M : St) (n : Nat) (hn : 78 ≤ n) (ns nm i a : Nat) (hS : okS M 0 ns n) (hM : okM M 0 nm) (hi : i < nm) (ha : a < ns) (z : Int32) (hzo : z < 0 ∨ nI ns ≤ z) : gX Z l yX6_apart cX6_apart 8 (some .int) ({ frames := 7, cells := 1, slots := 6, locals := 104 } : Room) [.ref (AD 0), .int (nI i), .int (nI a), .int z] (wC Z AD M n) xIO 1 6 := by
  refine gX_of (by decide +kernel) (Nat.le_of_ble_eq_true rfl) ?_
  intro pP eE sS mI aA bB mE cC A F htab hxK hxZ hG ls hl
  have hx := F.1
  have hb := F.2.1
  have hl : lv_has ls 8 [(0, .ref (AD 0)), (1, .int (nI i)), (2, .int (nI a)), (3, .int z)] := hl
  have hns2 := hS.2.1
  have hns3 := hS.2.2.1
  have hnm2 := hM.2
  refine lv_aload_n hx hb dX6_apart_0 rfl (lv_at hl 0 rfl) ?_
  refine lv_iload_n hx hb dX6_apart_1 rfl (lv_at hl 1 rfl) ?_
  refine gg_callV F hG (ci := 6) (As := [.int (nI i)]) (rest := []) (c_X6_setOf Z l AD M _ hn _ i hM hi) kY_X6_setOf kV_X6_setOf (gC_root hn) rfl rfl w2_206 rfl ⟨rfl, rfl⟩ ⟨(Nat.le_of_ble_eq_true rfl), (Nat.le_of_ble_eq_true rfl)⟩ rfl (Nat.le_of_ble_eq_true rfl) hl.1 ⟨Nat.zero_le _, Nat.zero_le _⟩ dX6_apart_2 rfl (fun H locs hG => ?_)
  refine lv_astore (lv' := [(4, .ref (AD (9 + (8 * 0 + i)))), (0, .ref (AD 0)), (1, .int (nI i)), (2, .int (nI a)), (3, .int z)]) hx hb dX6_apart_5 hl (by decide) rfl (fun ls hl => ?_)
  refine lv_aload_n hx hb dX6_apart_7 rfl (lv_at hl 1 rfl) ?_
  refine lv_iload_n hx hb dX6_apart_8 rfl (lv_at hl 3 rfl) ?_
  refine gg_callV F hG (ci := 6) (As := [.int (nI a)]) (rest := []) (c_X6_stationOf Z l AD M _ hn _ a hS ha) kY_X6_stationOf kV_X6_stationOf (gC_root hn) rfl rfl w3_22 rfl ⟨rfl, rfl⟩ ⟨(Nat.le_of_ble_eq_true rfl), (Nat.le_of_ble_eq_true rfl)⟩ rfl (Nat.le_of_ble_eq_true rfl) hl.1 ⟨Nat.zero_le _, Nat.zero_le _⟩ dX6_apart_9 rfl (fun H locs hG => ?_)
  refine lv_astore (lv' := [(5, .ref (AD (78 + a))), (4, .ref (AD (9 + (8 * 0 + i)))), (0, .ref (AD 0)), (1, .int (nI i)), (2, .int (nI a)), (3, .int z)]) hx hb dX6_apart_12 hl (by decide) rfl (fun ls hl => ?_)
  refine lv_aload_n hx hb dX6_apart_14 rfl (lv_at hl 2 rfl) ?_
  refine lv_iload_n hx hb dX6_apart_15 rfl (lv_at hl 5 rfl) ?_
  exact gx_callV F htab hxK hxZ hG (ci := 6) (As := [.int z]) (rest := []) (x_X6_stationOf Z l hst AD M _ hn _ hS z hzo) kY_X6_stationOf kV_X6_stationOf (gC_root hn) rfl rfl w3_22 rfl ⟨rfl, rfl⟩ ⟨(Nat.le_of_ble_eq_true rfl), (Nat.le_of_ble_eq_true rfl)⟩ rfl (Nat.le_of_ble_eq_true rfl) hl.1 ⟨(Nat.le_of_ble_eq_true rfl), (Nat.le_of_ble_eq_true rfl)⟩ ⟨(Nat.le_of_ble_eq_true rfl), (Nat.le_of_ble_eq_true rfl)⟩ dX6_apart_16
set_option maxRecDepth 100000 in
set_option maxHeartbeats 4000000 in
theorem x_X6_apart_e (Z : gZ) (l : Launch) (hst : l.stackTraces = false) (AD : Nat → Nat) (M : St) (n : Nat) (hn : 78 ≤ n) (ns nm i a b : Nat) (hS : okS M 0 ns n) (hM : okM M 0 nm) (hi : i < nm) (ha : a < ns) (hbb : b < ns) (hab : nI a = nI b) : gX Z l yX6_apart cX6_apart 8 (some .int) ({ frames := 6, cells := 1, slots := 6, locals := 82 } : Room) [.ref (AD 0), .int (nI i), .int (nI a), .int (nI b)] (wC Z AD M n) xIA 1 6 := by
  refine gX_of (by decide +kernel) (Nat.le_of_ble_eq_true rfl) ?_
  intro pP eE sS mI aA bB mE cC A F htab hxK hxZ hG ls hl
  have hx := F.1
  have hb := F.2.1
  have hl : lv_has ls 8 [(0, .ref (AD 0)), (1, .int (nI i)), (2, .int (nI a)), (3, .int (nI b))] := hl
  have hns2 := hS.2.1
  have hns3 := hS.2.2.1
  have hnm2 := hM.2
  refine lv_aload_n hx hb dX6_apart_0 rfl (lv_at hl 0 rfl) ?_
  refine lv_iload_n hx hb dX6_apart_1 rfl (lv_at hl 1 rfl) ?_
  refine gg_callV F hG (ci := 6) (As := [.int (nI i)]) (rest := []) (c_X6_setOf Z l AD M _ hn _ i hM hi) kY_X6_setOf kV_X6_setOf (gC_root hn) rfl rfl w2_206 rfl ⟨rfl, rfl⟩ ⟨(Nat.le_of_ble_eq_true rfl), (Nat.le_of_ble_eq_true rfl)⟩ rfl (Nat.le_of_ble_eq_true rfl) hl.1 ⟨Nat.zero_le _, Nat.zero_le _⟩ dX6_apart_2 rfl (fun H locs hG => ?_)
  refine lv_astore (lv' := [(4, .ref (AD (9 + (8 * 0 + i)))), (0, .ref (AD 0)), (1, .int (nI i)), (2, .int (nI a)), (3, .int (nI b))]) hx hb dX6_apart_5 hl (by decide) rfl (fun ls hl => ?_)
  refine lv_aload_n hx hb dX6_apart_7 rfl (lv_at hl 1 rfl) ?_
  refine lv_iload_n hx hb dX6_apart_8 rfl (lv_at hl 3 rfl) ?_
  refine gg_callV F hG (ci := 6) (As := [.int (nI a)]) (rest := []) (c_X6_stationOf Z l AD M _ hn _ a hS ha) kY_X6_stationOf kV_X6_stationOf (gC_root hn) rfl rfl w3_22 rfl ⟨rfl, rfl⟩ ⟨(Nat.le_of_ble_eq_true rfl), (Nat.le_of_ble_eq_true rfl)⟩ rfl (Nat.le_of_ble_eq_true rfl) hl.1 ⟨Nat.zero_le _, Nat.zero_le _⟩ dX6_apart_9 rfl (fun H locs hG => ?_)
  refine lv_astore (lv' := [(5, .ref (AD (78 + a))), (4, .ref (AD (9 + (8 * 0 + i)))), (0, .ref (AD 0)), (1, .int (nI i)), (2, .int (nI a)), (3, .int (nI b))]) hx hb dX6_apart_12 hl (by decide) rfl (fun ls hl => ?_)
  refine lv_aload_n hx hb dX6_apart_14 rfl (lv_at hl 2 rfl) ?_
  refine lv_iload_n hx hb dX6_apart_15 rfl (lv_at hl 5 rfl) ?_
  refine gg_callV F hG (ci := 6) (As := [.int (nI b)]) (rest := []) (c_X6_stationOf Z l AD M _ hn _ b hS hbb) kY_X6_stationOf kV_X6_stationOf (gC_root hn) rfl rfl w3_22 rfl ⟨rfl, rfl⟩ ⟨(Nat.le_of_ble_eq_true rfl), (Nat.le_of_ble_eq_true rfl)⟩ rfl (Nat.le_of_ble_eq_true rfl) hl.1 ⟨Nat.zero_le _, Nat.zero_le _⟩ dX6_apart_16 rfl (fun H locs hG => ?_)
  refine lv_astore (lv' := [(6, .ref (AD (78 + b))), (5, .ref (AD (78 + a))), (4, .ref (AD (9 + (8 * 0 + i)))), (0, .ref (AD 0)), (1, .int (nI i)), (2, .int (nI a)), (3, .int (nI b))]) hx hb dX6_apart_19 hl (by decide) rfl (fun ls hl => ?_)
  refine lv_iload_n hx hb dX6_apart_21 rfl (lv_at hl 5 rfl) ?_
  refine lv_iload_n hx hb dX6_apart_22 rfl (lv_at hl 6 rfl) ?_
  refine lv_icmp_ne (tgt := 36) hx hb dX6_apart_23 (by decide) (fun h23 => absurd hab h23) (fun h23 => ?_)
  exact gg_throw F htab hxK hxZ hG hst xE_IA (List.mem_of_getElem? (i := 14) rfl) hl.1 dX6_apart_26 dX6_apart_29 dX6_apart_30 dX6_apart_32 dX6_apart_35 (Nat.le_of_ble_eq_true rfl) (Nat.le_of_ble_eq_true rfl) (Nat.le_of_ble_eq_true rfl) (Nat.le_of_ble_eq_true rfl) (Nat.le_of_ble_eq_true rfl) (Nat.le_of_ble_eq_true rfl)
set_option maxRecDepth 100000 in
set_option maxHeartbeats 4000000 in
theorem c_X6_foresee_0 (Z : gZ) (l : Launch) (AD : Nat → Nat) (M : St) (n : Nat) (hn : 78 ≤ n) (ns nm h : Nat) (hh : h ≤ 240) (h1 : 1 ≤ h) (hS : okS M 0 ns n) (hM : okM M 0 nm) (h14 : ∀ i, i < nm → M 14 (8 * 0 + i) 0 = 0 ∨ M 14 (8 * 0 + i) 0 = 1) (hI : ∀ i, i < h → okA (phM (cpC M 1 0 ns nm) 1 ns nm i) 1 ns nm n) : gM Z l yX6_foresee cX6_foresee 4 (some .int) ({ frames := 6, cells := 0, slots := 0, locals := 139 } : Room) [.ref (AD 0), .int (nI h), .int 0] (wC Z AD M n) (some (.int (phW (cpC M 1 0 ns nm) 1 ns nm h))) (wC Z AD (forM M ns nm h) n) 0 0 := by
  refine gM_of (by decide +kernel) (Nat.le_of_ble_eq_true rfl) ?_
  intro pP eE sS mI aA bB mE cC A F hname hG ls hl
  have hx := F.1
  have hb := F.2.1
  have hl : lv_has ls 4 [(0, .ref (AD 0)), (1, .int (nI h)), (2, .int 0)] := hl
  refine lv_iload_n hx hb dX6_foresee_0 rfl (lv_at hl 1 rfl) ?_
  refine lv_iconst (v := 1) hx hb dX6_foresee_1 (by decide) ?_
  refine lv_sipush (v := 240) hx hb dX6_foresee_2 (by decide) ?_
  refine gg_callS F hG (As := [.int (nI h), .int 1, .int 240]) (rest := []) (c_X6_isWithin Z l (nI h) 1 240 _) kY_X6_isWithin kV_X6_isWithin w2_49 rfl ⟨rfl, rfl⟩ ⟨(Nat.le_of_ble_eq_true rfl), (Nat.le_of_ble_eq_true rfl)⟩ rfl (Nat.le_of_ble_eq_true rfl) hl.1 ⟨Nat.zero_le _, Nat.zero_le _⟩ dX6_foresee_5 rfl (fun H locs hG => ?_)
  rw [show (wthF (nI h) 1 240 : Int32) = 1 from wth_1 (nI_nlt (b := 1) h1 (by omega)) (nI_nlt (a := 240) hh (by decide))]
  refine lv_if_ne (tgt := 21) hx hb dX6_foresee_8 (by decide) (fun h8 => ?_) (fun h8 => absurd h8 (by decide))
  refine lv_iload_n hx hb dX6_foresee_21 rfl (lv_at hl 2 rfl) ?_
  refine lv_iconst (v := 2) hx hb dX6_foresee_22 (by decide) ?_
  refine gg_callS F hG (As := [.int 0, .int 2]) (rest := []) (c_X6_refuseUnlessWithin Z l 0 2 (by decide) (by decide) _) kY_X6_refuseUnlessWithin kV_X6_refuseUnlessWithin w3_28 rfl ⟨rfl, rfl⟩ ⟨(Nat.le_of_ble_eq_true rfl), (Nat.le_of_ble_eq_true rfl)⟩ rfl (Nat.le_of_ble_eq_true rfl) hl.1 ⟨Nat.zero_le _, Nat.zero_le _⟩ dX6_foresee_23 rfl (fun H locs hG => ?_)
  refine lv_aload_n hx hb dX6_foresee_26 rfl (lv_at hl 0 rfl) ?_
  refine gg_get F hG (ci := 6) (v := .ref (AD (1 + 1))) 1 gcX6 rfl (gC_root hn) (by decide) w1_169 rfl dX6_foresee_27 ?_
  refine lv_aload_n hx hb dX6_foresee_30 rfl (lv_at hl 0 rfl) ?_
  refine gg_get F hG (ci := 6) (v := .ref (AD (1 + 0))) 0 gcX6 rfl (gC_root hn) (by decide) w1_168 rfl dX6_foresee_31 ?_
  refine gg_callV F hG (ci := 0) (As := [.ref (AD (1 + 0))]) (rest := []) (c_X0_copyFrom Z l AD M _ hn 1 0 _ _ (by omega) (by omega) (by decide) hS hM h14) kY_X0_copyFrom kV_X0_copyFrom (gC_club (by omega) hn) rfl rfl w4_12 rfl ⟨rfl, rfl⟩ ⟨(Nat.le_of_ble_eq_true rfl), (Nat.le_of_ble_eq_true rfl)⟩ rfl (Nat.le_of_ble_eq_true rfl) hl.1 ⟨Nat.zero_le _, Nat.zero_le _⟩ dX6_foresee_34 rfl (fun H locs hG => ?_)
  refine lv_aload_n hx hb dX6_foresee_37 rfl (lv_at hl 0 rfl) ?_
  refine gg_get F hG (ci := 6) (v := .ref (AD (1 + 1))) 1 gcX6 rfl (gC_root hn) (by decide) w1_169 rfl dX6_foresee_38 ?_
  refine lv_iload_n hx hb dX6_foresee_41 rfl (lv_at hl 1 rfl) ?_
  refine gg_callV F hG (ci := 0) (As := [.int (nI h)]) (rest := []) (c_X0_passHours Z l AD (cpC M 1 0 ns nm) _ hn 1 ns nm h (by omega) (by omega) hI) kY_X0_passHours kV_X0_passHours (gC_club (by omega) hn) rfl rfl w3_131 rfl ⟨rfl, rfl⟩ ⟨(Nat.le_of_ble_eq_true rfl), (Nat.le_of_ble_eq_true rfl)⟩ rfl (Nat.le_of_ble_eq_true rfl) hl.1 ⟨Nat.zero_le _, Nat.zero_le _⟩ dX6_foresee_42 rfl (fun H locs hG => ?_)
  refine lv_istore_n (lv' := [(3, .int (phW (cpC M 1 0 ns nm) 1 ns nm h)), (0, .ref (AD 0)), (1, .int (nI h)), (2, .int 0)]) hx hb dX6_foresee_45 rfl hl (by decide) rfl (fun ls hl => ?_)
  refine lv_iload_n hx hb dX6_foresee_46 rfl (lv_at hl 3 rfl) ?_
  refine lv_if_ne (tgt := 54) hx hb dX6_foresee_47 (by decide) (fun h47 => absurd rfl h47) (fun h47 => ?_)
  refine lv_iload_n hx hb dX6_foresee_50 rfl (lv_at hl 0 rfl) ?_
  refine lv_goto (tgt := 69) hx hb dX6_foresee_51 (by decide) ?_
  exact gg_iret F hG rfl rfl rfl dX6_foresee_69
set_option maxRecDepth 100000 in
set_option maxHeartbeats 4000000 in
theorem c_X6_foresee_1 (Z : gZ) (l : Launch) (AD : Nat → Nat) (M : St) (n : Nat) (hn : 78 ≤ n) (ns nm h : Nat) (hh : h ≤ 240) (h1 : 1 ≤ h) (hS : okS M 0 ns n) (hM : okM M 0 nm) (h14 : ∀ i, i < nm → M 14 (8 * 0 + i) 0 = 0 ∨ M 14 (8 * 0 + i) 0 = 1) (hI : ∀ i, i < h → okA (phM (cpC M 1 0 ns nm) 1 ns nm i) 1 ns nm n) (hF1 : okM (forM M ns nm h) 1 nm ∧ okZ (forM M ns nm h) 1 nm) (hF0 : okM (forM M ns nm h) 0 nm ∧ okZ (forM M ns nm h) 0 nm) : gM Z l yX6_foresee cX6_foresee 4 (some .int) ({ frames := 6, cells := 0, slots := 0, locals := 139 } : Room) [.ref (AD 0), .int (nI h), .int 1] (wC Z AD M n) (some (.int (solF (forM M ns nm h) 1 3 nm - solF (forM M ns nm h) 0 3 nm))) (wC Z AD (forM M ns nm h) n) 0 0 := by
  refine gM_of (by decide +kernel) (Nat.le_of_ble_eq_true rfl) ?_
  intro pP eE sS mI aA bB mE cC A F hname hG ls hl
  have hx := F.1
  have hb := F.2.1
  have hl : lv_has ls 4 [(0, .ref (AD 0)), (1, .int (nI h)), (2, .int 1)] := hl
  refine lv_iload_n hx hb dX6_foresee_0 rfl (lv_at hl 1 rfl) ?_
  refine lv_iconst (v := 1) hx hb dX6_foresee_1 (by decide) ?_
  refine lv_sipush (v := 240) hx hb dX6_foresee_2 (by decide) ?_
  refine gg_callS F hG (As := [.int (nI h), .int 1, .int 240]) (rest := []) (c_X6_isWithin Z l (nI h) 1 240 _) kY_X6_isWithin kV_X6_isWithin w2_49 rfl ⟨rfl, rfl⟩ ⟨(Nat.le_of_ble_eq_true rfl), (Nat.le_of_ble_eq_true rfl)⟩ rfl (Nat.le_of_ble_eq_true rfl) hl.1 ⟨Nat.zero_le _, Nat.zero_le _⟩ dX6_foresee_5 rfl (fun H locs hG => ?_)
  rw [show (wthF (nI h) 1 240 : Int32) = 1 from wth_1 (nI_nlt (b := 1) h1 (by omega)) (nI_nlt (a := 240) hh (by decide))]
  refine lv_if_ne (tgt := 21) hx hb dX6_foresee_8 (by decide) (fun h8 => ?_) (fun h8 => absurd h8 (by decide))
  refine lv_iload_n hx hb dX6_foresee_21 rfl (lv_at hl 2 rfl) ?_
  refine lv_iconst (v := 2) hx hb dX6_foresee_22 (by decide) ?_
  refine gg_callS F hG (As := [.int 1, .int 2]) (rest := []) (c_X6_refuseUnlessWithin Z l 1 2 (by decide) (by decide) _) kY_X6_refuseUnlessWithin kV_X6_refuseUnlessWithin w3_28 rfl ⟨rfl, rfl⟩ ⟨(Nat.le_of_ble_eq_true rfl), (Nat.le_of_ble_eq_true rfl)⟩ rfl (Nat.le_of_ble_eq_true rfl) hl.1 ⟨Nat.zero_le _, Nat.zero_le _⟩ dX6_foresee_23 rfl (fun H locs hG => ?_)
  refine lv_aload_n hx hb dX6_foresee_26 rfl (lv_at hl 0 rfl) ?_
  refine gg_get F hG (ci := 6) (v := .ref (AD (1 + 1))) 1 gcX6 rfl (gC_root hn) (by decide) w1_169 rfl dX6_foresee_27 ?_
  refine lv_aload_n hx hb dX6_foresee_30 rfl (lv_at hl 0 rfl) ?_
  refine gg_get F hG (ci := 6) (v := .ref (AD (1 + 0))) 0 gcX6 rfl (gC_root hn) (by decide) w1_168 rfl dX6_foresee_31 ?_
  refine gg_callV F hG (ci := 0) (As := [.ref (AD (1 + 0))]) (rest := []) (c_X0_copyFrom Z l AD M _ hn 1 0 _ _ (by omega) (by omega) (by decide) hS hM h14) kY_X0_copyFrom kV_X0_copyFrom (gC_club (by omega) hn) rfl rfl w4_12 rfl ⟨rfl, rfl⟩ ⟨(Nat.le_of_ble_eq_true rfl), (Nat.le_of_ble_eq_true rfl)⟩ rfl (Nat.le_of_ble_eq_true rfl) hl.1 ⟨Nat.zero_le _, Nat.zero_le _⟩ dX6_foresee_34 rfl (fun H locs hG => ?_)
  refine lv_aload_n hx hb dX6_foresee_37 rfl (lv_at hl 0 rfl) ?_
  refine gg_get F hG (ci := 6) (v := .ref (AD (1 + 1))) 1 gcX6 rfl (gC_root hn) (by decide) w1_169 rfl dX6_foresee_38 ?_
  refine lv_iload_n hx hb dX6_foresee_41 rfl (lv_at hl 1 rfl) ?_
  refine gg_callV F hG (ci := 0) (As := [.int (nI h)]) (rest := []) (c_X0_passHours Z l AD (cpC M 1 0 ns nm) _ hn 1 ns nm h (by omega) (by omega) hI) kY_X0_passHours kV_X0_passHours (gC_club (by omega) hn) rfl rfl w3_131 rfl ⟨rfl, rfl⟩ ⟨(Nat.le_of_ble_eq_true rfl), (Nat.le_of_ble_eq_true rfl)⟩ rfl (Nat.le_of_ble_eq_true rfl) hl.1 ⟨Nat.zero_le _, Nat.zero_le _⟩ dX6_foresee_42 rfl (fun H locs hG => ?_)
  refine lv_istore_n (lv' := [(3, .int (phW (cpC M 1 0 ns nm) 1 ns nm h)), (0, .ref (AD 0)), (1, .int (nI h)), (2, .int 1)]) hx hb dX6_foresee_45 rfl hl (by decide) rfl (fun ls hl => ?_)
  refine lv_iload_n hx hb dX6_foresee_46 rfl (lv_at hl 3 rfl) ?_
  refine lv_if_ne (tgt := 54) hx hb dX6_foresee_47 (by decide) (fun h47 => ?_) (fun h47 => absurd h47 (by decide))
  refine lv_aload_n hx hb dX6_foresee_54 rfl (lv_at hl 1 rfl) ?_
  refine gg_get F hG (ci := 6) (v := .ref (AD (1 + 1))) 1 gcX6 rfl (gC_root hn) (by decide) w1_169 rfl dX6_foresee_55 ?_
  refine gg_callV F hG (ci := 0) (As := []) (rest := []) (c_X0_confirmedLines Z l AD (phM (cpC M 1 0 ns nm) 1 ns nm h) _ hn 1 _ (by omega) hF1.1 hF1.2) kY_X0_confirmedLines kV_X0_confirmedLines (gC_club (by omega) hn) rfl rfl w4_26 rfl ⟨rfl, rfl⟩ ⟨(Nat.le_of_ble_eq_true rfl), (Nat.le_of_ble_eq_true rfl)⟩ rfl (Nat.le_of_ble_eq_true rfl) hl.1 ⟨Nat.zero_le _, Nat.zero_le _⟩ dX6_foresee_58 rfl (fun H locs hG => ?_)
  refine lv_aload_n hx hb dX6_foresee_61 rfl (lv_at hl 1 rfl) ?_
  refine gg_get F hG (ci := 6) (v := .ref (AD (1 + 0))) 0 gcX6 rfl (gC_root hn) (by decide) w1_168 rfl dX6_foresee_62 ?_
  refine gg_callV F hG (ci := 0) (As := []) (rest := [.int (solF (phM (cpC M 1 0 ns nm) 1 ns nm h) 1 3 nm)]) (c_X0_confirmedLines Z l AD (phM (cpC M 1 0 ns nm) 1 ns nm h) _ hn 0 _ (by omega) hF0.1 hF0.2) kY_X0_confirmedLines kV_X0_confirmedLines (gC_club (by omega) hn) rfl rfl w4_26 rfl ⟨rfl, rfl⟩ ⟨(Nat.le_of_ble_eq_true rfl), (Nat.le_of_ble_eq_true rfl)⟩ rfl (Nat.le_of_ble_eq_true rfl) hl.1 ⟨Nat.zero_le _, Nat.zero_le _⟩ dX6_foresee_65 rfl (fun H locs hG => ?_)
  refine lv_isub hx hb dX6_foresee_68 ?_
  exact gg_iret F hG rfl rfl rfl dX6_foresee_69
set_option maxRecDepth 100000 in
set_option maxHeartbeats 4000000 in
theorem x_X6_foresee_a (Z : gZ) (l : Launch) (hst : l.stackTraces = false) (AD : Nat → Nat) (M : St) (n : Nat) (hn : 78 ≤ n) (x y : Int32) (ho : x < 1 ∨ 240 < x) : gX Z l yX6_foresee cX6_foresee 4 (some .int) ({ frames := 6, cells := 1, slots := 6, locals := 82 } : Room) [.ref (AD 0), .int x, .int y] (wC Z AD M n) xIA 1 6 := by
  refine gX_of (by decide +kernel) (Nat.le_of_ble_eq_true rfl) ?_
  intro pP eE sS mI aA bB mE cC A F htab hxK hxZ hG ls hl
  have hx := F.1
  have hb := F.2.1
  have hl : lv_has ls 4 [(0, .ref (AD 0)), (1, .int x), (2, .int y)] := hl
  refine lv_iload_n hx hb dX6_foresee_0 rfl (lv_at hl 1 rfl) ?_
  refine lv_iconst (v := 1) hx hb dX6_foresee_1 (by decide) ?_
  refine lv_sipush (v := 240) hx hb dX6_foresee_2 (by decide) ?_
  refine gg_callS F hG (As := [.int x, .int 1, .int 240]) (rest := []) (c_X6_isWithin Z l x 1 240 _) kY_X6_isWithin kV_X6_isWithin w2_49 rfl ⟨rfl, rfl⟩ ⟨(Nat.le_of_ble_eq_true rfl), (Nat.le_of_ble_eq_true rfl)⟩ rfl (Nat.le_of_ble_eq_true rfl) hl.1 ⟨Nat.zero_le _, Nat.zero_le _⟩ dX6_foresee_5 rfl (fun H locs hG => ?_)
  rw [show (wthF x 1 240 : Int32) = 0 from wth_0 ho]
  refine lv_if_ne (tgt := 21) hx hb dX6_foresee_8 (by decide) (fun h8 => absurd rfl h8) (fun h8 => ?_)
  exact gg_throw F htab hxK hxZ hG hst xE_IA (List.mem_of_getElem? (i := 13) rfl) hl.1 dX6_foresee_11 dX6_foresee_14 dX6_foresee_15 dX6_foresee_17 dX6_foresee_20 (Nat.le_of_ble_eq_true rfl) (Nat.le_of_ble_eq_true rfl) (Nat.le_of_ble_eq_true rfl) (Nat.le_of_ble_eq_true rfl) (Nat.le_of_ble_eq_true rfl) (Nat.le_of_ble_eq_true rfl)
set_option maxRecDepth 100000 in
set_option maxHeartbeats 4000000 in
theorem x_X6_foresee_w (Z : gZ) (l : Launch) (hst : l.stackTraces = false) (AD : Nat → Nat) (M : St) (n : Nat) (hn : 78 ≤ n) (h : Nat) (hh : h ≤ 240) (h1 : 1 ≤ h) (y : Int32) (hyo : y < 0 ∨ ¬ y < 2) : gX Z l yX6_foresee cX6_foresee 4 (some .int) ({ frames := 7, cells := 1, slots := 6, locals := 103 } : Room) [.ref (AD 0), .int (nI h), .int y] (wC Z AD M n) xIO 1 6 := by
  refine gX_of (by decide +kernel) (Nat.le_of_ble_eq_true rfl) ?_
  intro pP eE sS mI aA bB mE cC A F htab hxK hxZ hG ls hl
  have hx := F.1
  have hb := F.2.1
  have hl : lv_has ls 4 [(0, .ref (AD 0)), (1, .int (nI h)), (2, .int y)] := hl
  refine lv_iload_n hx hb dX6_foresee_0 rfl (lv_at hl 1 rfl) ?_
  refine lv_iconst (v := 1) hx hb dX6_foresee_1 (by decide) ?_
  refine lv_sipush (v := 240) hx hb dX6_foresee_2 (by decide) ?_
  refine gg_callS F hG (As := [.int (nI h), .int 1, .int 240]) (rest := []) (c_X6_isWithin Z l (nI h) 1 240 _) kY_X6_isWithin kV_X6_isWithin w2_49 rfl ⟨rfl, rfl⟩ ⟨(Nat.le_of_ble_eq_true rfl), (Nat.le_of_ble_eq_true rfl)⟩ rfl (Nat.le_of_ble_eq_true rfl) hl.1 ⟨Nat.zero_le _, Nat.zero_le _⟩ dX6_foresee_5 rfl (fun H locs hG => ?_)
  rw [show (wthF (nI h) 1 240 : Int32) = 1 from wth_1 (nI_nlt (b := 1) h1 (by omega)) (nI_nlt (a := 240) hh (by decide))]
  refine lv_if_ne (tgt := 21) hx hb dX6_foresee_8 (by decide) (fun h8 => ?_) (fun h8 => absurd h8 (by decide))
  refine lv_iload_n hx hb dX6_foresee_21 rfl (lv_at hl 2 rfl) ?_
  refine lv_iconst (v := 2) hx hb dX6_foresee_22 (by decide) ?_
  exact gx_callS F htab hxK hxZ hG (As := [.int y, .int 2]) (rest := []) (x_X6_refuseUnlessWithin Z l hst y 2 hyo _) kY_X6_refuseUnlessWithin kV_X6_refuseUnlessWithin w3_28 rfl ⟨rfl, rfl⟩ ⟨(Nat.le_of_ble_eq_true rfl), (Nat.le_of_ble_eq_true rfl)⟩ rfl (Nat.le_of_ble_eq_true rfl) hl.1 ⟨(Nat.le_of_ble_eq_true rfl), (Nat.le_of_ble_eq_true rfl)⟩ ⟨(Nat.le_of_ble_eq_true rfl), (Nat.le_of_ble_eq_true rfl)⟩ dX6_foresee_23
set_option maxRecDepth 100000 in
set_option maxHeartbeats 4000000 in
theorem c_X6_digest (Z : gZ) (l : Launch) (AD : Nat → Nat) (M : St) (n : Nat) (hn : 78 ≤ n) (ns nm : Nat) (hS : okS M 0 ns n) (hM : okM M 0 nm) (hZ : okZ M 0 nm) (hT : okT M 0 nm) : gM Z l yX6_digest cX6_digest 1 (some .long) ({ frames := 6, cells := 0, slots := 0, locals := 143 } : Room) [.ref (AD 0)] (wC Z AD M n) (some (.long (digF M 0 ns nm))) (wC Z AD M n) 0 0 := by
  refine gM_of (by decide +kernel) (Nat.le_of_ble_eq_true rfl) ?_
  intro pP eE sS mI aA bB mE cC A F hname hG ls hl
  have hx := F.1
  have hb := F.2.1
  have hl : lv_has ls 1 [(0, .ref (AD 0))] := hl
  refine lv_aload_n hx hb dX6_digest_0 rfl (lv_at hl 0 rfl) ?_
  refine gg_get F hG (ci := 6) (v := .ref (AD (1 + 0))) 0 gcX6 rfl (gC_root hn) (by decide) w1_168 rfl dX6_digest_1 ?_
  refine gg_callV F hG (ci := 0) (As := []) (rest := []) (c_X0_checksum Z l AD M _ hn 0 _ _ (by omega) hS hM hZ hT) kY_X0_checksum kV_X0_checksum (gC_club (by omega) hn) rfl rfl w1_210 rfl ⟨rfl, rfl⟩ ⟨(Nat.le_of_ble_eq_true rfl), (Nat.le_of_ble_eq_true rfl)⟩ rfl (Nat.le_of_ble_eq_true rfl) hl.1 ⟨Nat.zero_le _, Nat.zero_le _⟩ dX6_digest_4 rfl (fun H locs hG => ?_)
  exact gg_lret F hG rfl rfl dX6_digest_7
