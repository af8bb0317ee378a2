/-! the reference's public methods -/
theorem isG_1 {n i : Nat} (h : i < n) (h8 : n ≤ 1000) : wthF (nI i) 0 (nI n - 1) = 1 :=
  wth_1 (nI_pos (by omega)) (by
    rw [show (nI n - 1 : Int32) = nI (n - 1) from pk_sub (a := n) (b := 1) (by omega)]
    exact nI_nlt (by omega) (by omega))
theorem nI_inj {a b : Nat} (ha : a < 2 ^ 31) (hb : b < 2 ^ 31) (h : nI a = nI b) : a = b := by
  have q := congrArg Int32.toNatClampNeg h
  rw [nI_clamp ha, nI_clamp hb] at q
  exact q
theorem nI_p1 {n : Nat} : nI (n + 1) - 1 = nI n := pk_sub (a := n + 1) (b := 1) (by omega)
def joR (M : St) (nm : Nat) (t a : Int32) : St := mu (mu (mu (mu (mu (mu M 1 0 0 0) 4 0 nm t) 6 0 nm a) 7 0 nm 1) 12 0 nm 9) 3 0 0 (nI (nm + 1))
def toR (M : St) (ns nm k : Nat) : Nat → Int32
  | 0 => M 0 0 (6 * k + 0)
  | 1 => M 0 0 (6 * k + 1)
  | 2 => M 0 0 (6 * k + 2)
  | 3 => bitR (onR M (M 8 0 0) ns) k
  | 4 => fadR M k (M 8 0 0)
  | _ => 0
noncomputable def tsR (M : St) (ns nm k v : Nat) : Int32 := if v < 5 then toR M ns nm k v else cdR M (nI k) nm
noncomputable def tmR (M : St) (ns i : Nat) : Nat → Int32
  | 0 => M 4 0 i
  | 1 => M 5 0 i
  | 2 => M 6 0 i
  | 3 => M 12 0 i
  | 4 => M 7 0 i
  | 5 => 100000 / (M 4 0 i + M 5 0 i)
  | 6 => widF (M 4 0 i)
  | 7 => M 13 0 i
  | 8 => hdR M i 0 ns
  | _ => hdR M i 1 ns
def earR (M : St) : Nat → Int32
  | 0 => 0
  | i + 1 => earR M i + M 7 0 i
def tcR (M : St) (ns nm : Nat) : Nat → Int32
  | 0 => M 8 0 0
  | 1 => nI ns
  | 2 => bcF (onR M (M 8 0 0) ns)
  | 3 => nI nm
  | 4 => earR M nm
  | 5 => M 10 0 0
  | 6 => M 11 0 0
  | _ => M 9 0 0
def sgR (M : St) (ns i k : Nat) : Int32 := if bitR (onR M (M 8 0 0) ns) k = 0 then 0 else rcR M i (M 8 0 0) (M 4 0 i) (M 5 0 i) (M 12 0 i) k
def owL (M : St) (x : Int32) : Nat → Int32
  | 0 => 0
  | k + 1 => owL M x k ||| (if M 15 0 (2 * k) = x then 1 else 0)
def duR (M : St) (k : Nat) : Int32 := M 8 0 0 + 24 * (M 0 0 (6 * k + 2) / 10 + 2)
def wtR (M : St) (i ln k q : Nat) : St := mu (mu (mu (mu M 1 0 0 0) 15 0 (2 * q) (nI (40 * i + ln))) 15 0 (2 * q + 1) (duR M k)) 9 0 0 (nI (q + 1))
noncomputable def ldR (M : St) (ns a b : Nat) : Int32 :=
  if hdR M a 1 ns - hdR M b 1 ns = 0 then (if M 13 0 a = M 13 0 b then (if nI b ≤ nI a then 0 else 1) else (if M 13 0 a ≤ M 13 0 b then 0 else 1)) else (if hdR M a 1 ns - hdR M b 1 ns ≤ 0 then 0 else 1)
noncomputable def lcR (M : St) (ns b : Nat) : Nat → Int32
  | 0 => 0
  | i + 1 => lcR M ns b i + (if nI i = nI b then 0 else if ldR M ns i b = 0 then 0 else 1)
noncomputable def rkR (M : St) (ns nm : Nat) (x : Int32) : Nat → Nat → Int32
  | 0, _ => -1
  | q + 1, i => if lcR M ns i nm = x then nI i else rkR M ns nm x q (i + 1)
def dlR (M : St) (i ns k : Nat) : Nat → Int32 × Int32
  | 0 => (-1, 0)
  | d + 1 => if heR M i (M 8 0 0) (M 4 0 i) (nI d) (M 12 0 i) (onR M (M 8 0 0) ns) ns = nI k then (if (dlR M i ns k d).2 < rcR M i (M 8 0 0) (M 4 0 i) (nI d) (M 12 0 i) k then (nI d, rcR M i (M 8 0 0) (M 4 0 i) (nI d) (M 12 0 i) k) else dlR M i ns k d) else dlR M i ns k d
def neR (M : St) (i ns k : Nat) : Nat → Nat → Int32
  | 0, _ => -1
  | q + 1, d => if heR M i (M 8 0 0 + nI d) (M 4 0 i) (M 5 0 i) (M 12 0 i) (onR M (M 8 0 0 + nI d) ns) ns = nI k then nI d else neR M i ns k q (d + 1)
def boR (a b : Nat) : Int32 := (1 <<< (nI a &&& 31)) ||| (1 <<< (nI b &&& 31))
def avR (M : St) (i ns a b : Nat) (t : Int32) (d : Nat) : Int32 := heR M i (M 8 0 0) t (nI d) (M 12 0 i) (boR a b) ns
def afR (M : St) (i ns a b : Nat) (t : Int32) : Nat → Int32 × Int32
  | 0 => (0, 0)
  | d + 1 => ((afR M i ns a b t d).1 ||| (if avR M i ns a b t d = nI a then 1 else 0), (afR M i ns a b t d).2 ||| (if avR M i ns a b t d = nI b then 1 else 0))
def arR (M : St) (i ns a b : Nat) : Nat → Nat → Int32
  | 0, _ => -1
  | q + 1, d => if (afR M i ns a b (nI (20 + d)) 101).1 = 0 then arR M i ns a b q (d + 1) else if (afR M i ns a b (nI (20 + d)) 101).2 = 0 then arR M i ns a b q (d + 1) else nI (20 + d)
noncomputable def frR (M : St) (ns nm h : Nat) : St := paR (beR (mu M 1 0 0 0) 1 0) 1 ns nm h
noncomputable def dsR (M : St) (ns nm : Nat) (d : Int64) : Nat → Int64
  | 0 => d
  | k + 1 => dgN (tsR M ns nm k) (dsR M ns nm d k) 6
noncomputable def dmR (M : St) (ns : Nat) (d : Int64) : Nat → Int64
  | 0 => d
  | i + 1 => dgN (fun k => M 14 0 (160 * i + k)) (dgN (tmR M ns i) (dmR M ns d i) 10) (4 * szR M 0 i)
def dlt (M : St) (d : Int64) : Nat → Int64
  | 0 => d
  | k + 1 => ((dlt M d k * 31 + (M 15 0 (2 * k) / 40).toInt64) * 31 + (rmd (M 15 0 (2 * k)) 40).toInt64) * 31 + (M 15 0 (2 * k + 1)).toInt64
noncomputable def dgR (M : St) (ns nm : Nat) : Int64 := dlt M (dmR M ns (dsR M ns nm (dgN (tcR M ns nm) 701 8) ns) nm) (ltR M 0)
set_option maxRecDepth 100000 in
set_option maxHeartbeats 4000000 in
theorem c_X8_join (Z : gZ) (l : Launch) (AD : Nat → Nat) (M : St) (n : Nat) (hn : 16 ≤ n) (ns nm : Nat) (hN : okN M ns nm) (hm : nm < 8) (t a : Int32) (h1 : ¬ t < 20) (h2 : ¬ 200 < t) (h3 : ¬ a < 1) (h4 : ¬ 60 < a) : gM Z l yX8_join cX8_join 3 (some .int) ({ frames := 1, cells := 0, slots := 0, locals := 22 } : Room) [.ref (AD 0), .int t, .int a] (wR Z AD M n) (some (.int (nI nm))) (wR Z AD (joR M nm t a) n) 0 0 := by
  refine gM_of (by decide +kernel) (Nat.le_of_ble_eq_true rfl) ?_
  intro pP eE sS mI aA bB mE cC A F hname hG ls hl
  have hx := F.1
  have hb := F.2.1
  have hl : lv_has ls 3 [(0, .ref (AD 0)), (1, .int t), (2, .int a)] := hl
  have hns2 := hN.2.1
  have hnm2 := hN.2.2.2.1
  refine lv_aload_n hx hb dX8_join_0 rfl (lv_at hl 0 rfl) ?_
  refine lv_iconst (v := 0) hx hb dX8_join_1 (by decide) ?_
  refine gg_put F hG (ci := 8) 0 gcX8 rfl (gR_model hn) (by decide) w4_75 rfl rfl rfl (Nat.le_of_ble_eq_true rfl) (pR_1) dX8_join_2 (fun H locs hG => ?_)
  have hG : gG Z A sS (wR Z AD (mu M 1 0 0 0) n) H locs := hG
  refine lv_iload_n hx hb dX8_join_5 rfl (lv_at hl 1 rfl) ?_
  refine lv_bipush (v := 20) hx hb dX8_join_6 (by decide) ?_
  refine lv_sipush (v := 200) hx hb dX8_join_8 (by decide) ?_
  refine gg_callS F hG (As := [.int t, .int 20, .int 200]) (rest := []) (c_X8_isIn Z l t 20 200 _) kY_X8_isIn kV_X8_isIn w4_118 rfl ⟨rfl, rfl⟩ ⟨(Nat.le_of_ble_eq_true rfl), (Nat.le_of_ble_eq_true rfl)⟩ rfl (Nat.le_of_ble_eq_true rfl) hl.1 ⟨Nat.zero_le _, Nat.zero_le _⟩ dX8_join_11 rfl (fun H locs hG => ?_)
  rw [show (wthF t 20 200 : Int32) = 1 from wth_1 h1 h2]
  refine lv_if_eq (tgt := 27) hx hb dX8_join_14 (by decide) (fun h14 => absurd h14 (by decide)) (fun h14 => ?_)
  refine lv_iload_n hx hb dX8_join_17 rfl (lv_at hl 2 rfl) ?_
  refine lv_iconst (v := 1) hx hb dX8_join_18 (by decide) ?_
  refine lv_bipush (v := 60) hx hb dX8_join_19 (by decide) ?_
  refine gg_callS F hG (As := [.int a, .int 1, .int 60]) (rest := []) (c_X8_isIn Z l a 1 60 _) kY_X8_isIn kV_X8_isIn w4_118 rfl ⟨rfl, rfl⟩ ⟨(Nat.le_of_ble_eq_true rfl), (Nat.le_of_ble_eq_true rfl)⟩ rfl (Nat.le_of_ble_eq_true rfl) hl.1 ⟨Nat.zero_le _, Nat.zero_le _⟩ dX8_join_21 rfl (fun H locs hG => ?_)
  rw [show (wthF a 1 60 : Int32) = 1 from wth_1 h3 h4]
  refine lv_if_ne (tgt := 33) hx hb dX8_join_24 (by decide) (fun h24 => ?_) (fun h24 => absurd h24 (by decide))
  refine lv_aload_n hx hb dX8_join_33 rfl (lv_at hl 0 rfl) ?_
  refine gg_get F hG (ci := 8) (v := .int (nI nm)) 2 gcX8 rfl (gR_model hn) (by decide) w4_78 (congrArg (fun z => some (Value.int z)) hN.2.2.1) dX8_join_34 ?_
  refine lv_bipush (v := 8) hx hb dX8_join_37 (by decide) ?_
  refine lv_icmp_ne (tgt := 48) hx hb dX8_join_39 (by decide) (fun h39 => ?_) (fun h39 => absurd h39 (fun z => absurd (show nm = 8 from nI_inj (by omega) (by omega) z) (by omega)))
  refine lv_aload_n hx hb dX8_join_48 rfl (lv_at hl 0 rfl) ?_
  refine gg_get F hG (ci := 8) (v := .ref (AD 2)) 4 gcX8 rfl (gR_model hn) (by decide) w4_80 rfl dX8_join_49 ?_
  refine lv_aload_n hx hb dX8_join_52 rfl (lv_at hl 0 rfl) ?_
  refine gg_get F hG (ci := 8) (v := .int (nI nm)) 2 gcX8 rfl (gR_model hn) (by decide) w4_78 (congrArg (fun z => some (Value.int z)) hN.2.2.1) dX8_join_53 ?_
  refine lv_iload_n hx hb dX8_join_56 rfl (lv_at hl 1 rfl) ?_
  refine gg_iastN F hG nm (gR_turns hn) rfl (by omega) (by omega) (pR_4) dX8_join_57 (fun H locs hG => ?_)
  have hG : gG Z A sS (wR Z AD (mu (mu M 1 0 0 0) 4 0 nm t) n) H locs := hG
  refine lv_aload_n hx hb dX8_join_58 rfl (lv_at hl 0 rfl) ?_
  refine gg_get F hG (ci := 8) (v := .ref (AD 4)) 6 gcX8 rfl (gR_model hn) (by decide) w4_84 rfl dX8_join_59 ?_
  refine lv_aload_n hx hb dX8_join_62 rfl (lv_at hl 0 rfl) ?_
  refine gg_get F hG (ci := 8) (v := .int (nI nm)) 2 gcX8 rfl (gR_model hn) (by decide) w4_78 (congrArg (fun z => some (Value.int z)) hN.2.2.1) dX8_join_63 ?_
  refine lv_iload_n hx hb dX8_join_66 rfl (lv_at hl 2 rfl) ?_
  refine gg_iastN F hG nm (gR_aerial hn) rfl (by omega) (by omega) (pR_6) dX8_join_67 (fun H locs hG => ?_)
  have hG : gG Z A sS (wR Z AD (mu (mu (mu M 1 0 0 0) 4 0 nm t) 6 0 nm a) n) H locs := hG
  refine lv_aload_n hx hb dX8_join_68 rfl (lv_at hl 0 rfl) ?_
  refine gg_get F hG (ci := 8) (v := .ref (AD 5)) 7 gcX8 rfl (gR_model hn) (by decide) w4_85 rfl dX8_join_69 ?_
  refine lv_aload_n hx hb dX8_join_72 rfl (lv_at hl 0 rfl) ?_
  refine gg_get F hG (ci := 8) (v := .int (nI nm)) 2 gcX8 rfl (gR_model hn) (by decide) w4_78 (congrArg (fun z => some (Value.int z)) hN.2.2.1) dX8_join_73 ?_
  refine lv_iconst (v := 1) hx hb dX8_join_76 (by decide) ?_
  refine gg_iastN F hG nm (gR_ears hn) rfl (by omega) (by omega) (pR_7) dX8_join_77 (fun H locs hG => ?_)
  have hG : gG Z A sS (wR Z AD (mu (mu (mu (mu M 1 0 0 0) 4 0 nm t) 6 0 nm a) 7 0 nm 1) n) H locs := hG
  refine lv_aload_n hx hb dX8_join_78 rfl (lv_at hl 0 rfl) ?_
  refine gg_get F hG (ci := 8) (v := .ref (AD (6 + 0))) 8 gcX8 rfl (gR_model hn) (by decide) w4_87 rfl dX8_join_79 ?_
  refine gg_getN F hG (ci := 7) (v := .ref (AD (8 + 0))) 4 gcX7 rfl (gR_state (by omega) hn) (by decide) wn_42 rfl dX8_join_82 ?_
  refine lv_aload_n hx hb dX8_join_85 rfl (lv_at hl 0 rfl) ?_
  refine gg_get F hG (ci := 8) (v := .int (nI nm)) 2 gcX8 rfl (gR_model hn) (by decide) w4_78 (congrArg (fun z => some (Value.int z)) hN.2.2.1) dX8_join_86 ?_
  refine lv_bipush (v := 9) hx hb dX8_join_89 (by decide) ?_
  refine gg_iastN F hG nm (gR_crys (by omega) hn) rfl (by omega) (by omega) (pR_12 (by omega)) dX8_join_91 (fun H locs hG => ?_)
  have hG : gG Z A sS (wR Z AD (mu (mu (mu (mu (mu M 1 0 0 0) 4 0 nm t) 6 0 nm a) 7 0 nm 1) 12 0 nm 9) n) H locs := hG
  refine lv_aload_n hx hb dX8_join_92 rfl (lv_at hl 0 rfl) ?_
  refine lv_dup hx hb dX8_join_93 rfl ?_
  refine gg_get F hG (ci := 8) (v := .int (nI nm)) 2 gcX8 rfl (gR_model hn) (by decide) w4_78 (congrArg (fun z => some (Value.int z)) hN.2.2.1) dX8_join_94 ?_
  refine lv_iconst (v := 1) hx hb dX8_join_97 (by decide) ?_
  refine lv_iadd hx hb dX8_join_98 ?_
  rw [show ((nI nm) + 1 : Int32) = nI (nm + 1) from nI_1 _]
  refine gg_put F hG (ci := 8) 2 gcX8 rfl (gR_model hn) (by decide) w4_78 rfl rfl rfl (Nat.le_of_ble_eq_true rfl) (pR_3) dX8_join_99 (fun H locs hG => ?_)
  have hG : gG Z A sS (wR Z AD (mu (mu (mu (mu (mu (mu M 1 0 0 0) 4 0 nm t) 6 0 nm a) 7 0 nm 1) 12 0 nm 9) 3 0 0 (nI (nm + 1))) n) H locs := hG
  refine lv_aload_n hx hb dX8_join_102 rfl (lv_at hl 0 rfl) ?_
  refine gg_get F hG (ci := 8) (v := .int (nI (nm + 1))) 2 gcX8 rfl (gR_model hn) (by decide) w4_78 rfl dX8_join_103 ?_
  refine lv_iconst (v := 1) hx hb dX8_join_106 (by decide) ?_
  refine lv_isub hx hb dX8_join_107 ?_
  rw [show ((nI (nm + 1)) - 1 : Int32) = nI nm from nI_p1]
  exact gg_iret F hG rfl rfl rfl dX8_join_108
set_option maxRecDepth 100000 in
set_option maxHeartbeats 4000000 in
theorem c_X8_join_a (Z : gZ) (l : Launch) (AD : Nat → Nat) (M : St) (n : Nat) (hn : 16 ≤ n) (ns nm : Nat) (hN : okN M ns nm) (t a : Int32) (ho : wthF t 20 200 = 0 ∨ wthF a 1 60 = 0) : gM Z l yX8_join cX8_join 3 (some .int) ({ frames := 1, cells := 0, slots := 0, locals := 22 } : Room) [.ref (AD 0), .int t, .int a] (wR Z AD M n) (some (.int 0)) (wR Z AD (mu (mu M 1 0 0 0) 1 0 0 1) n) 0 0 := by
  refine gM_of (by decide +kernel) (Nat.le_of_ble_eq_true rfl) ?_
  intro pP eE sS mI aA bB mE cC A F hname hG ls hl
  have hx := F.1
  have hb := F.2.1
  have hl : lv_has ls 3 [(0, .ref (AD 0)), (1, .int t), (2, .int a)] := hl
  refine lv_aload_n hx hb dX8_join_0 rfl (lv_at hl 0 rfl) ?_
  refine lv_iconst (v := 0) hx hb dX8_join_1 (by decide) ?_
  refine gg_put F hG (ci := 8) 0 gcX8 rfl (gR_model hn) (by decide) w4_75 rfl rfl rfl (Nat.le_of_ble_eq_true rfl) (pR_1) dX8_join_2 (fun H locs hG => ?_)
  have hG : gG Z A sS (wR Z AD (mu M 1 0 0 0) n) H locs := hG
  refine lv_iload_n hx hb dX8_join_5 rfl (lv_at hl 1 rfl) ?_
  refine lv_bipush (v := 20) hx hb dX8_join_6 (by decide) ?_
  refine lv_sipush (v := 200) hx hb dX8_join_8 (by decide) ?_
  refine gg_callS F hG (As := [.int t, .int 20, .int 200]) (rest := []) (c_X8_isIn Z l t 20 200 _) kY_X8_isIn kV_X8_isIn w4_118 rfl ⟨rfl, rfl⟩ ⟨(Nat.le_of_ble_eq_true rfl), (Nat.le_of_ble_eq_true rfl)⟩ rfl (Nat.le_of_ble_eq_true rfl) hl.1 ⟨Nat.zero_le _, Nat.zero_le _⟩ dX8_join_11 rfl (fun H locs hG => ?_)
  refine lv_if_eq (tgt := 27) hx hb dX8_join_14 (by decide) (fun h14 => ?_) (fun h14 => ?_)
  · refine lv_aload_n hx hb dX8_join_27 rfl (lv_at hl 0 rfl) ?_
    refine lv_iconst (v := 1) hx hb dX8_join_28 (by decide) ?_
    refine gg_callV F hG (ci := 8) (As := [.int 1]) (rest := []) (c_X8_no Z l AD (mu M 1 0 0 0) _ hn 1) kY_X8_no kV_X8_no (gR_model hn) rfl rfl w4_121 rfl ⟨rfl, rfl⟩ ⟨(Nat.le_of_ble_eq_true rfl), (Nat.le_of_ble_eq_true rfl)⟩ rfl (Nat.le_of_ble_eq_true rfl) hl.1 ⟨Nat.zero_le _, Nat.zero_le _⟩ dX8_join_29 rfl (fun H locs hG => ?_)
    exact gg_iret F hG rfl rfl rfl dX8_join_32
  · refine lv_iload_n hx hb dX8_join_17 rfl (lv_at hl 2 rfl) ?_
    refine lv_iconst (v := 1) hx hb dX8_join_18 (by decide) ?_
    refine lv_bipush (v := 60) hx hb dX8_join_19 (by decide) ?_
    refine gg_callS F hG (As := [.int a, .int 1, .int 60]) (rest := []) (c_X8_isIn Z l a 1 60 _) kY_X8_isIn kV_X8_isIn w4_118 rfl ⟨rfl, rfl⟩ ⟨(Nat.le_of_ble_eq_true rfl), (Nat.le_of_ble_eq_true rfl)⟩ rfl (Nat.le_of_ble_eq_true rfl) hl.1 ⟨Nat.zero_le _, Nat.zero_le _⟩ dX8_join_21 rfl (fun H locs hG => ?_)
    refine lv_if_ne (tgt := 33) hx hb dX8_join_24 (by decide) (fun h24 => absurd (ho.resolve_left h14) h24) (fun h24 => ?_)
    refine lv_aload_n hx hb dX8_join_27 rfl (lv_at hl 0 rfl) ?_
    refine lv_iconst (v := 1) hx hb dX8_join_28 (by decide) ?_
    refine gg_callV F hG (ci := 8) (As := [.int 1]) (rest := []) (c_X8_no Z l AD (mu M 1 0 0 0) _ hn 1) kY_X8_no kV_X8_no (gR_model hn) rfl rfl w4_121 rfl ⟨rfl, rfl⟩ ⟨(Nat.le_of_ble_eq_true rfl), (Nat.le_of_ble_eq_true rfl)⟩ rfl (Nat.le_of_ble_eq_true rfl) hl.1 ⟨Nat.zero_le _, Nat.zero_le _⟩ dX8_join_29 rfl (fun H locs hG => ?_)
    exact gg_iret F hG rfl rfl rfl dX8_join_32
set_option maxRecDepth 100000 in
set_option maxHeartbeats 4000000 in
theorem c_X8_join_s (Z : gZ) (l : Launch) (AD : Nat → Nat) (M : St) (n : Nat) (hn : 16 ≤ n) (ns nm : Nat) (hN : okN M ns nm) (hm : ¬ nm < 8) (t a : Int32) (h1 : ¬ t < 20) (h2 : ¬ 200 < t) (h3 : ¬ a < 1) (h4 : ¬ 60 < a) : gM Z l yX8_join cX8_join 3 (some .int) ({ frames := 1, cells := 0, slots := 0, locals := 22 } : Room) [.ref (AD 0), .int t, .int a] (wR Z AD M n) (some (.int 0)) (wR Z AD (mu (mu M 1 0 0 0) 1 0 0 2) n) 0 0 := by
  refine gM_of (by decide +kernel) (Nat.le_of_ble_eq_true rfl) ?_
  intro pP eE sS mI aA bB mE cC A F hname hG ls hl
  have hx := F.1
  have hb := F.2.1
  have hl : lv_has ls 3 [(0, .ref (AD 0)), (1, .int t), (2, .int a)] := hl
  have hns2 := hN.2.1
  have hnm2 := hN.2.2.2.1
  refine lv_aload_n hx hb dX8_join_0 rfl (lv_at hl 0 rfl) ?_
  refine lv_iconst (v := 0) hx hb dX8_join_1 (by decide) ?_
  refine gg_put F hG (ci := 8) 0 gcX8 rfl (gR_model hn) (by decide) w4_75 rfl rfl rfl (Nat.le_of_ble_eq_true rfl) (pR_1) dX8_join_2 (fun H locs hG => ?_)
  have hG : gG Z A sS (wR Z AD (mu M 1 0 0 0) n) H locs := hG
  refine lv_iload_n hx hb dX8_join_5 rfl (lv_at hl 1 rfl) ?_
  refine lv_bipush (v := 20) hx hb dX8_join_6 (by decide) ?_
  refine lv_sipush (v := 200) hx hb dX8_join_8 (by decide) ?_
  refine gg_callS F hG (As := [.int t, .int 20, .int 200]) (rest := []) (c_X8_isIn Z l t 20 200 _) kY_X8_isIn kV_X8_isIn w4_118 rfl ⟨rfl, rfl⟩ ⟨(Nat.le_of_ble_eq_true rfl), (Nat.le_of_ble_eq_true rfl)⟩ rfl (Nat.le_of_ble_eq_true rfl) hl.1 ⟨Nat.zero_le _, Nat.zero_le _⟩ dX8_join_11 rfl (fun H locs hG => ?_)
  rw [show (wthF t 20 200 : Int32) = 1 from wth_1 h1 h2]
  refine lv_if_eq (tgt := 27) hx hb dX8_join_14 (by decide) (fun h14 => absurd h14 (by decide)) (fun h14 => ?_)
  refine lv_iload_n hx hb dX8_join_17 rfl (lv_at hl 2 rfl) ?_
  refine lv_iconst (v := 1) hx hb dX8_join_18 (by decide) ?_
  refine lv_bipush (v := 60) hx hb dX8_join_19 (by decide) ?_
  refine gg_callS F hG (As := [.int a, .int 1, .int 60]) (rest := []) (c_X8_isIn Z l a 1 60 _) kY_X8_isIn kV_X8_isIn w4_118 rfl ⟨rfl, rfl⟩ ⟨(Nat.le_of_ble_eq_true rfl), (Nat.le_of_ble_eq_true rfl)⟩ rfl (Nat.le_of_ble_eq_true rfl) hl.1 ⟨Nat.zero_le _, Nat.zero_le _⟩ dX8_join_21 rfl (fun H locs hG => ?_)
  rw [show (wthF a 1 60 : Int32) = 1 from wth_1 h3 h4]
  refine lv_if_ne (tgt := 33) hx hb dX8_join_24 (by decide) (fun h24 => ?_) (fun h24 => absurd h24 (by decide))
  refine lv_aload_n hx hb dX8_join_33 rfl (lv_at hl 0 rfl) ?_
  refine gg_get F hG (ci := 8) (v := .int (nI nm)) 2 gcX8 rfl (gR_model hn) (by decide) w4_78 (congrArg (fun z => some (Value.int z)) hN.2.2.1) dX8_join_34 ?_
  refine lv_bipush (v := 8) hx hb dX8_join_37 (by decide) ?_
  refine lv_icmp_ne (tgt := 48) hx hb dX8_join_39 (by decide) (fun h39 => absurd (show nI nm = 8 by rw [show nm = 8 by omega]; rfl) h39) (fun h39 => ?_)
  refine lv_aload_n hx hb dX8_join_42 rfl (lv_at hl 0 rfl) ?_
  refine lv_iconst (v := 2) hx hb dX8_join_43 (by decide) ?_
  refine gg_callV F hG (ci := 8) (As := [.int 2]) (rest := []) (c_X8_no Z l AD (mu M 1 0 0 0) _ hn 2) kY_X8_no kV_X8_no (gR_model hn) rfl rfl w4_121 rfl ⟨rfl, rfl⟩ ⟨(Nat.le_of_ble_eq_true rfl), (Nat.le_of_ble_eq_true rfl)⟩ rfl (Nat.le_of_ble_eq_true rfl) hl.1 ⟨Nat.zero_le _, Nat.zero_le _⟩ dX8_join_44 rfl (fun H locs hG => ?_)
  exact gg_iret F hG rfl rfl rfl dX8_join_47
set_option maxRecDepth 100000 in
set_option maxHeartbeats 4000000 in
theorem c_X8_turn (Z : gZ) (l : Launch) (AD : Nat → Nat) (M : St) (n : Nat) (hn : 16 ≤ n) (ns nm i : Nat) (hN : okN M ns nm) (hi : i < nm) (d : Int32) (h1 : ¬ d < 0) (h2 : ¬ 100 < d) : gM Z l yX8_turn cX8_turn 4 (some .int) ({ frames := 2, cells := 0, slots := 0, locals := 43 } : Room) [.ref (AD 0), .int (nI i), .int d] (wR Z AD M n) (some (.int (M 5 0 i))) (wR Z AD (mu (mu M 1 0 0 0) 5 0 i d) n) 0 0 := by
  refine gM_of (by decide +kernel) (Nat.le_of_ble_eq_true rfl) ?_
  intro pP eE sS mI aA bB mE cC A F hname hG ls hl
  have hx := F.1
  have hb := F.2.1
  have hl : lv_has ls 4 [(0, .ref (AD 0)), (1, .int (nI i)), (2, .int d)] := hl
  have hns2 := hN.2.1
  have hnm2 := hN.2.2.2.1
  refine lv_aload_n hx hb dX8_turn_0 rfl (lv_at hl 0 rfl) ?_
  refine lv_iconst (v := 0) hx hb dX8_turn_1 (by decide) ?_
  refine gg_put F hG (ci := 8) 0 gcX8 rfl (gR_model hn) (by decide) w4_75 rfl rfl rfl (Nat.le_of_ble_eq_true rfl) (pR_1) dX8_turn_2 (fun H locs hG => ?_)
  have hG : gG Z A sS (wR Z AD (mu M 1 0 0 0) n) H locs := hG
  refine lv_aload_n hx hb dX8_turn_5 rfl (lv_at hl 0 rfl) ?_
  refine lv_iload_n hx hb dX8_turn_6 rfl (lv_at hl 1 rfl) ?_
  refine gg_callV F hG (ci := 8) (As := [.int (nI i)]) (rest := []) (c_X8_isMember Z l AD (mu M 1 0 0 0) _ hn _ _ i hN hi) kY_X8_isMember kV_X8_isMember (gR_model hn) rfl rfl w4_136 rfl ⟨rfl, rfl⟩ ⟨(Nat.le_of_ble_eq_true rfl), (Nat.le_of_ble_eq_true rfl)⟩ rfl (Nat.le_of_ble_eq_true rfl) hl.1 ⟨Nat.zero_le _, Nat.zero_le _⟩ dX8_turn_7 rfl (fun H locs hG => ?_)
  refine lv_if_ne (tgt := 19) hx hb dX8_turn_10 (by decide) (fun h10 => ?_) (fun h10 => absurd h10 (by decide))
  refine lv_iload_n hx hb dX8_turn_19 rfl (lv_at hl 2 rfl) ?_
  refine lv_iconst (v := 0) hx hb dX8_turn_20 (by decide) ?_
  refine lv_bipush (v := 100) hx hb dX8_turn_21 (by decide) ?_
  refine gg_callS F hG (As := [.int d, .int 0, .int 100]) (rest := []) (c_X8_isIn Z l d 0 100 _) kY_X8_isIn kV_X8_isIn w4_118 rfl ⟨rfl, rfl⟩ ⟨(Nat.le_of_ble_eq_true rfl), (Nat.le_of_ble_eq_true rfl)⟩ rfl (Nat.le_of_ble_eq_true rfl) hl.1 ⟨Nat.zero_le _, Nat.zero_le _⟩ dX8_turn_23 rfl (fun H locs hG => ?_)
  rw [show (wthF d 0 100 : Int32) = 1 from wth_1 h1 h2]
  refine lv_if_ne (tgt := 35) hx hb dX8_turn_26 (by decide) (fun h26 => ?_) (fun h26 => absurd h26 (by decide))
  refine lv_aload_n hx hb dX8_turn_35 rfl (lv_at hl 0 rfl) ?_
  refine gg_get F hG (ci := 8) (v := .ref (AD 3)) 5 gcX8 rfl (gR_model hn) (by decide) w4_82 rfl dX8_turn_36 ?_
  refine lv_iload_n hx hb dX8_turn_39 rfl (lv_at hl 1 rfl) ?_
  refine gg_ialdN F hG i (gR_stand hn) rfl (by omega) (by omega) dX8_turn_40 ?_
  refine lv_istore_n (lv' := [(3, .int (M 5 0 i)), (0, .ref (AD 0)), (1, .int (nI i)), (2, .int d)]) hx hb dX8_turn_41 rfl hl (by decide) rfl (fun ls hl => ?_)
  refine lv_aload_n hx hb dX8_turn_42 rfl (lv_at hl 1 rfl) ?_
  refine gg_get F hG (ci := 8) (v := .ref (AD 3)) 5 gcX8 rfl (gR_model hn) (by decide) w4_82 rfl dX8_turn_43 ?_
  refine lv_iload_n hx hb dX8_turn_46 rfl (lv_at hl 2 rfl) ?_
  refine lv_iload_n hx hb dX8_turn_47 rfl (lv_at hl 3 rfl) ?_
  refine gg_iastN F hG i (gR_stand hn) rfl (by omega) (by omega) (pR_5) dX8_turn_48 (fun H locs hG => ?_)
  have hG : gG Z A sS (wR Z AD (mu (mu M 1 0 0 0) 5 0 i d) n) H locs := hG
  refine lv_iload_n hx hb dX8_turn_49 rfl (lv_at hl 0 rfl) ?_
  exact gg_iret F hG rfl rfl rfl dX8_turn_50
set_option maxRecDepth 100000 in
set_option maxHeartbeats 4000000 in
theorem c_X8_turn_m (Z : gZ) (l : Launch) (AD : Nat → Nat) (M : St) (n : Nat) (hn : 16 ≤ n) (ns nm : Nat) (hN : okN M ns nm) (x d : Int32) (hxo : x < 0 ∨ nI nm ≤ x) : gM Z l yX8_turn cX8_turn 4 (some .int) ({ frames := 2, cells := 0, slots := 0, locals := 43 } : Room) [.ref (AD 0), .int x, .int d] (wR Z AD M n) (some (.int 0)) (wR Z AD (mu (mu M 1 0 0 0) 1 0 0 1) n) 0 0 := by
  refine gM_of (by decide +kernel) (Nat.le_of_ble_eq_true rfl) ?_
  intro pP eE sS mI aA bB mE cC A F hname hG ls hl
  have hx := F.1
  have hb := F.2.1
  have hl : lv_has ls 4 [(0, .ref (AD 0)), (1, .int x), (2, .int d)] := hl
  refine lv_aload_n hx hb dX8_turn_0 rfl (lv_at hl 0 rfl) ?_
  refine lv_iconst (v := 0) hx hb dX8_turn_1 (by decide) ?_
  refine gg_put F hG (ci := 8) 0 gcX8 rfl (gR_model hn) (by decide) w4_75 rfl rfl rfl (Nat.le_of_ble_eq_true rfl) (pR_1) dX8_turn_2 (fun H locs hG => ?_)
  have hG : gG Z A sS (wR Z AD (mu M 1 0 0 0) n) H locs := hG
  refine lv_aload_n hx hb dX8_turn_5 rfl (lv_at hl 0 rfl) ?_
  refine lv_iload_n hx hb dX8_turn_6 rfl (lv_at hl 1 rfl) ?_
  refine gg_callV F hG (ci := 8) (As := [.int x]) (rest := []) (c_X8_isMember_no Z l AD (mu M 1 0 0 0) _ hn _ _ hN x hxo) kY_X8_isMember kV_X8_isMember (gR_model hn) rfl rfl w4_136 rfl ⟨rfl, rfl⟩ ⟨(Nat.le_of_ble_eq_true rfl), (Nat.le_of_ble_eq_true rfl)⟩ rfl (Nat.le_of_ble_eq_true rfl) hl.1 ⟨Nat.zero_le _, Nat.zero_le _⟩ dX8_turn_7 rfl (fun H locs hG => ?_)
  refine lv_if_ne (tgt := 19) hx hb dX8_turn_10 (by decide) (fun h10 => absurd rfl h10) (fun h10 => ?_)
  refine lv_aload_n hx hb dX8_turn_13 rfl (lv_at hl 0 rfl) ?_
  refine lv_iconst (v := 1) hx hb dX8_turn_14 (by decide) ?_
  refine gg_callV F hG (ci := 8) (As := [.int 1]) (rest := []) (c_X8_no Z l AD (mu M 1 0 0 0) _ hn 1) kY_X8_no kV_X8_no (gR_model hn) rfl rfl w4_121 rfl ⟨rfl, rfl⟩ ⟨(Nat.le_of_ble_eq_true rfl), (Nat.le_of_ble_eq_true rfl)⟩ rfl (Nat.le_of_ble_eq_true rfl) hl.1 ⟨Nat.zero_le _, Nat.zero_le _⟩ dX8_turn_15 rfl (fun H locs hG => ?_)
  exact gg_iret F hG rfl rfl rfl dX8_turn_18
set_option maxRecDepth 100000 in
set_option maxHeartbeats 4000000 in
theorem c_X8_turn_d (Z : gZ) (l : Launch) (AD : Nat → Nat) (M : St) (n : Nat) (hn : 16 ≤ n) (ns nm i : Nat) (hN : okN M ns nm) (hi : i < nm) (d : Int32) (ho : d < 0 ∨ 100 < d) : gM Z l yX8_turn cX8_turn 4 (some .int) ({ frames := 2, cells := 0, slots := 0, locals := 43 } : Room) [.ref (AD 0), .int (nI i), .int d] (wR Z AD M n) (some (.int 0)) (wR Z AD (mu (mu M 1 0 0 0) 1 0 0 2) n) 0 0 := by
  refine gM_of (by decide +kernel) (Nat.le_of_ble_eq_true rfl) ?_
  intro pP eE sS mI aA bB mE cC A F hname hG ls hl
  have hx := F.1
  have hb := F.2.1
  have hl : lv_has ls 4 [(0, .ref (AD 0)), (1, .int (nI i)), (2, .int d)] := hl
  refine lv_aload_n hx hb dX8_turn_0 rfl (lv_at hl 0 rfl) ?_
  refine lv_iconst (v := 0) hx hb dX8_turn_1 (by decide) ?_
  refine gg_put F hG (ci := 8) 0 gcX8 rfl (gR_model hn) (by decide) w4_75 rfl rfl rfl (Nat.le_of_ble_eq_true rfl) (pR_1) dX8_turn_2 (fun H locs hG => ?_)
  have hG : gG Z A sS (wR Z AD (mu M 1 0 0 0) n) H locs := hG
  refine lv_aload_n hx hb dX8_turn_5 rfl (lv_at hl 0 rfl) ?_
  refine lv_iload_n hx hb dX8_turn_6 rfl (lv_at hl 1 rfl) ?_
  refine gg_callV F hG (ci := 8) (As := [.int (nI i)]) (rest := []) (c_X8_isMember Z l AD (mu M 1 0 0 0) _ hn _ _ i hN hi) kY_X8_isMember kV_X8_isMember (gR_model hn) rfl rfl w4_136 rfl ⟨rfl, rfl⟩ ⟨(Nat.le_of_ble_eq_true rfl), (Nat.le_of_ble_eq_true rfl)⟩ rfl (Nat.le_of_ble_eq_true rfl) hl.1 ⟨Nat.zero_le _, Nat.zero_le _⟩ dX8_turn_7 rfl (fun H locs hG => ?_)
  refine lv_if_ne (tgt := 19) hx hb dX8_turn_10 (by decide) (fun h10 => ?_) (fun h10 => absurd h10 (by decide))
  refine lv_iload_n hx hb dX8_turn_19 rfl (lv_at hl 2 rfl) ?_
  refine lv_iconst (v := 0) hx hb dX8_turn_20 (by decide) ?_
  refine lv_bipush (v := 100) hx hb dX8_turn_21 (by decide) ?_
  refine gg_callS F hG (As := [.int d, .int 0, .int 100]) (rest := []) (c_X8_isIn Z l d 0 100 _) kY_X8_isIn kV_X8_isIn w4_118 rfl ⟨rfl, rfl⟩ ⟨(Nat.le_of_ble_eq_true rfl), (Nat.le_of_ble_eq_true rfl)⟩ rfl (Nat.le_of_ble_eq_true rfl) hl.1 ⟨Nat.zero_le _, Nat.zero_le _⟩ dX8_turn_23 rfl (fun H locs hG => ?_)
  rw [show (wthF d 0 100 : Int32) = 0 from wth_0 ho]
  refine lv_if_ne (tgt := 35) hx hb dX8_turn_26 (by decide) (fun h26 => absurd rfl h26) (fun h26 => ?_)
  refine lv_aload_n hx hb dX8_turn_29 rfl (lv_at hl 0 rfl) ?_
  refine lv_iconst (v := 2) hx hb dX8_turn_30 (by decide) ?_
  refine gg_callV F hG (ci := 8) (As := [.int 2]) (rest := []) (c_X8_no Z l AD (mu M 1 0 0 0) _ hn 2) kY_X8_no kV_X8_no (gR_model hn) rfl rfl w4_121 rfl ⟨rfl, rfl⟩ ⟨(Nat.le_of_ble_eq_true rfl), (Nat.le_of_ble_eq_true rfl)⟩ rfl (Nat.le_of_ble_eq_true rfl) hl.1 ⟨Nat.zero_le _, Nat.zero_le _⟩ dX8_turn_31 rfl (fun H locs hG => ?_)
  exact gg_iret F hG rfl rfl rfl dX8_turn_34
set_option maxRecDepth 100000 in
set_option maxHeartbeats 4000000 in
theorem c_X8_wind (Z : gZ) (l : Launch) (AD : Nat → Nat) (M : St) (n : Nat) (hn : 16 ≤ n) (ns nm i : Nat) (hN : okN M ns nm) (hi : i < nm) (t : Int32) (h1 : ¬ t < 20) (h2 : ¬ 200 < t) : gM Z l yX8_wind cX8_wind 4 (some .int) ({ frames := 2, cells := 0, slots := 0, locals := 43 } : Room) [.ref (AD 0), .int (nI i), .int t] (wR Z AD M n) (some (.int (M 4 0 i))) (wR Z AD (mu (mu M 1 0 0 0) 4 0 i t) n) 0 0 := by
  refine gM_of (by decide +kernel) (Nat.le_of_ble_eq_true rfl) ?_
  intro pP eE sS mI aA bB mE cC A F hname hG ls hl
  have hx := F.1
  have hb := F.2.1
  have hl : lv_has ls 4 [(0, .ref (AD 0)), (1, .int (nI i)), (2, .int t)] := hl
  have hns2 := hN.2.1
  have hnm2 := hN.2.2.2.1
  refine lv_aload_n hx hb dX8_wind_0 rfl (lv_at hl 0 rfl) ?_
  refine lv_iconst (v := 0) hx hb dX8_wind_1 (by decide) ?_
  refine gg_put F hG (ci := 8) 0 gcX8 rfl (gR_model hn) (by decide) w4_75 rfl rfl rfl (Nat.le_of_ble_eq_true rfl) (pR_1) dX8_wind_2 (fun H locs hG => ?_)
  have hG : gG Z A sS (wR Z AD (mu M 1 0 0 0) n) H locs := hG
  refine lv_aload_n hx hb dX8_wind_5 rfl (lv_at hl 0 rfl) ?_
  refine lv_iload_n hx hb dX8_wind_6 rfl (lv_at hl 1 rfl) ?_
  refine gg_callV F hG (ci := 8) (As := [.int (nI i)]) (rest := []) (c_X8_isMember Z l AD (mu M 1 0 0 0) _ hn _ _ i hN hi) kY_X8_isMember kV_X8_isMember (gR_model hn) rfl rfl w4_136 rfl ⟨rfl, rfl⟩ ⟨(Nat.le_of_ble_eq_true rfl), (Nat.le_of_ble_eq_true rfl)⟩ rfl (Nat.le_of_ble_eq_true rfl) hl.1 ⟨Nat.zero_le _, Nat.zero_le _⟩ dX8_wind_7 rfl (fun H locs hG => ?_)
  refine lv_if_ne (tgt := 19) hx hb dX8_wind_10 (by decide) (fun h10 => ?_) (fun h10 => absurd h10 (by decide))
  refine lv_iload_n hx hb dX8_wind_19 rfl (lv_at hl 2 rfl) ?_
  refine lv_bipush (v := 20) hx hb dX8_wind_20 (by decide) ?_
  refine lv_sipush (v := 200) hx hb dX8_wind_22 (by decide) ?_
  refine gg_callS F hG (As := [.int t, .int 20, .int 200]) (rest := []) (c_X8_isIn Z l t 20 200 _) kY_X8_isIn kV_X8_isIn w4_118 rfl ⟨rfl, rfl⟩ ⟨(Nat.le_of_ble_eq_true rfl), (Nat.le_of_ble_eq_true rfl)⟩ rfl (Nat.le_of_ble_eq_true rfl) hl.1 ⟨Nat.zero_le _, Nat.zero_le _⟩ dX8_wind_25 rfl (fun H locs hG => ?_)
  rw [show (wthF t 20 200 : Int32) = 1 from wth_1 h1 h2]
  refine lv_if_ne (tgt := 37) hx hb dX8_wind_28 (by decide) (fun h28 => ?_) (fun h28 => absurd h28 (by decide))
  refine lv_aload_n hx hb dX8_wind_37 rfl (lv_at hl 0 rfl) ?_
  refine gg_get F hG (ci := 8) (v := .ref (AD 2)) 4 gcX8 rfl (gR_model hn) (by decide) w4_80 rfl dX8_wind_38 ?_
  refine lv_iload_n hx hb dX8_wind_41 rfl (lv_at hl 1 rfl) ?_
  refine gg_ialdN F hG i (gR_turns hn) rfl (by omega) (by omega) dX8_wind_42 ?_
  refine lv_istore_n (lv' := [(3, .int (M 4 0 i)), (0, .ref (AD 0)), (1, .int (nI i)), (2, .int t)]) hx hb dX8_wind_43 rfl hl (by decide) rfl (fun ls hl => ?_)
  refine lv_aload_n hx hb dX8_wind_44 rfl (lv_at hl 1 rfl) ?_
  refine gg_get F hG (ci := 8) (v := .ref (AD 2)) 4 gcX8 rfl (gR_model hn) (by decide) w4_80 rfl dX8_wind_45 ?_
  refine lv_iload_n hx hb dX8_wind_48 rfl (lv_at hl 2 rfl) ?_
  refine lv_iload_n hx hb dX8_wind_49 rfl (lv_at hl 3 rfl) ?_
  refine gg_iastN F hG i (gR_turns hn) rfl (by omega) (by omega) (pR_4) dX8_wind_50 (fun H locs hG => ?_)
  have hG : gG Z A sS (wR Z AD (mu (mu M 1 0 0 0) 4 0 i t) n) H locs := hG
  refine lv_iload_n hx hb dX8_wind_51 rfl (lv_at hl 0 rfl) ?_
  exact gg_iret F hG rfl rfl rfl dX8_wind_52
set_option maxRecDepth 100000 in
set_option maxHeartbeats 4000000 in
theorem c_X8_wind_m (Z : gZ) (l : Launch) (AD : Nat → Nat) (M : St) (n : Nat) (hn : 16 ≤ n) (ns nm : Nat) (hN : okN M ns nm) (x d : Int32) (hxo : x < 0 ∨ nI nm ≤ x) : gM Z l yX8_wind cX8_wind 4 (some .int) ({ frames := 2, cells := 0, slots := 0, locals := 43 } : Room) [.ref (AD 0), .int x, .int d] (wR Z AD M n) (some (.int 0)) (wR Z AD (mu (mu M 1 0 0 0) 1 0 0 1) n) 0 0 := by
  refine gM_of (by decide +kernel) (Nat.le_of_ble_eq_true rfl) ?_
  intro pP eE sS mI aA bB mE cC A F hname hG ls hl
  have hx := F.1
  have hb := F.2.1
  have hl : lv_has ls 4 [(0, .ref (AD 0)), (1, .int x), (2, .int d)] := hl
  refine lv_aload_n hx hb dX8_wind_0 rfl (lv_at hl 0 rfl) ?_
  refine lv_iconst (v := 0) hx hb dX8_wind_1 (by decide) ?_
  refine gg_put F hG (ci := 8) 0 gcX8 rfl (gR_model hn) (by decide) w4_75 rfl rfl rfl (Nat.le_of_ble_eq_true rfl) (pR_1) dX8_wind_2 (fun H locs hG => ?_)
  have hG : gG Z A sS (wR Z AD (mu M 1 0 0 0) n) H locs := hG
  refine lv_aload_n hx hb dX8_wind_5 rfl (lv_at hl 0 rfl) ?_
  refine lv_iload_n hx hb dX8_wind_6 rfl (lv_at hl 1 rfl) ?_
  refine gg_callV F hG (ci := 8) (As := [.int x]) (rest := []) (c_X8_isMember_no Z l AD (mu M 1 0 0 0) _ hn _ _ hN x hxo) kY_X8_isMember kV_X8_isMember (gR_model hn) rfl rfl w4_136 rfl ⟨rfl, rfl⟩ ⟨(Nat.le_of_ble_eq_true rfl), (Nat.le_of_ble_eq_true rfl)⟩ rfl (Nat.le_of_ble_eq_true rfl) hl.1 ⟨Nat.zero_le _, Nat.zero_le _⟩ dX8_wind_7 rfl (fun H locs hG => ?_)
  refine lv_if_ne (tgt := 19) hx hb dX8_wind_10 (by decide) (fun h10 => absurd rfl h10) (fun h10 => ?_)
  refine lv_aload_n hx hb dX8_wind_13 rfl (lv_at hl 0 rfl) ?_
  refine lv_iconst (v := 1) hx hb dX8_wind_14 (by decide) ?_
  refine gg_callV F hG (ci := 8) (As := [.int 1]) (rest := []) (c_X8_no Z l AD (mu M 1 0 0 0) _ hn 1) kY_X8_no kV_X8_no (gR_model hn) rfl rfl w4_121 rfl ⟨rfl, rfl⟩ ⟨(Nat.le_of_ble_eq_true rfl), (Nat.le_of_ble_eq_true rfl)⟩ rfl (Nat.le_of_ble_eq_true rfl) hl.1 ⟨Nat.zero_le _, Nat.zero_le _⟩ dX8_wind_15 rfl (fun H locs hG => ?_)
  exact gg_iret F hG rfl rfl rfl dX8_wind_18
set_option maxRecDepth 100000 in
set_option maxHeartbeats 4000000 in
theorem c_X8_wind_d (Z : gZ) (l : Launch) (AD : Nat → Nat) (M : St) (n : Nat) (hn : 16 ≤ n) (ns nm i : Nat) (hN : okN M ns nm) (hi : i < nm) (t : Int32) (ho : t < 20 ∨ 200 < t) : gM Z l yX8_wind cX8_wind 4 (some .int) ({ frames := 2, cells := 0, slots := 0, locals := 43 } : Room) [.ref (AD 0), .int (nI i), .int t] (wR Z AD M n) (some (.int 0)) (wR Z AD (mu (mu M 1 0 0 0) 1 0 0 2) n) 0 0 := by
  refine gM_of (by decide +kernel) (Nat.le_of_ble_eq_true rfl) ?_
  intro pP eE sS mI aA bB mE cC A F hname hG ls hl
  have hx := F.1
  have hb := F.2.1
  have hl : lv_has ls 4 [(0, .ref (AD 0)), (1, .int (nI i)), (2, .int t)] := hl
  refine lv_aload_n hx hb dX8_wind_0 rfl (lv_at hl 0 rfl) ?_
  refine lv_iconst (v := 0) hx hb dX8_wind_1 (by decide) ?_
  refine gg_put F hG (ci := 8) 0 gcX8 rfl (gR_model hn) (by decide) w4_75 rfl rfl rfl (Nat.le_of_ble_eq_true rfl) (pR_1) dX8_wind_2 (fun H locs hG => ?_)
  have hG : gG Z A sS (wR Z AD (mu M 1 0 0 0) n) H locs := hG
  refine lv_aload_n hx hb dX8_wind_5 rfl (lv_at hl 0 rfl) ?_
  refine lv_iload_n hx hb dX8_wind_6 rfl (lv_at hl 1 rfl) ?_
  refine gg_callV F hG (ci := 8) (As := [.int (nI i)]) (rest := []) (c_X8_isMember Z l AD (mu M 1 0 0 0) _ hn _ _ i hN hi) kY_X8_isMember kV_X8_isMember (gR_model hn) rfl rfl w4_136 rfl ⟨rfl, rfl⟩ ⟨(Nat.le_of_ble_eq_true rfl), (Nat.le_of_ble_eq_true rfl)⟩ rfl (Nat.le_of_ble_eq_true rfl) hl.1 ⟨Nat.zero_le _, Nat.zero_le _⟩ dX8_wind_7 rfl (fun H locs hG => ?_)
  refine lv_if_ne (tgt := 19) hx hb dX8_wind_10 (by decide) (fun h10 => ?_) (fun h10 => absurd h10 (by decide))
  refine lv_iload_n hx hb dX8_wind_19 rfl (lv_at hl 2 rfl) ?_
  refine lv_bipush (v := 20) hx hb dX8_wind_20 (by decide) ?_
  refine lv_sipush (v := 200) hx hb dX8_wind_22 (by decide) ?_
  refine gg_callS F hG (As := [.int t, .int 20, .int 200]) (rest := []) (c_X8_isIn Z l t 20 200 _) kY_X8_isIn kV_X8_isIn w4_118 rfl ⟨rfl, rfl⟩ ⟨(Nat.le_of_ble_eq_true rfl), (Nat.le_of_ble_eq_true rfl)⟩ rfl (Nat.le_of_ble_eq_true rfl) hl.1 ⟨Nat.zero_le _, Nat.zero_le _⟩ dX8_wind_25 rfl (fun H locs hG => ?_)
  rw [show (wthF t 20 200 : Int32) = 0 from wth_0 ho]
  refine lv_if_ne (tgt := 37) hx hb dX8_wind_28 (by decide) (fun h28 => absurd rfl h28) (fun h28 => ?_)
  refine lv_aload_n hx hb dX8_wind_31 rfl (lv_at hl 0 rfl) ?_
  refine lv_iconst (v := 2) hx hb dX8_wind_32 (by decide) ?_
  refine gg_callV F hG (ci := 8) (As := [.int 2]) (rest := []) (c_X8_no Z l AD (mu M 1 0 0 0) _ hn 2) kY_X8_no kV_X8_no (gR_model hn) rfl rfl w4_121 rfl ⟨rfl, rfl⟩ ⟨(Nat.le_of_ble_eq_true rfl), (Nat.le_of_ble_eq_true rfl)⟩ rfl (Nat.le_of_ble_eq_true rfl) hl.1 ⟨Nat.zero_le _, Nat.zero_le _⟩ dX8_wind_33 rfl (fun H locs hG => ?_)
  exact gg_iret F hG rfl rfl rfl dX8_wind_36
set_option maxRecDepth 100000 in
set_option maxHeartbeats 4000000 in
theorem c_X8_listen (Z : gZ) (l : Launch) (AD : Nat → Nat) (M : St) (n : Nat) (hn : 16 ≤ n) (ns nm i : Nat) (hN : okN M ns nm) (hi : i < nm) (b : Int32) (hb01 : b = 0 ∨ b = 1) (hl01 : M 7 0 i = 0 ∨ M 7 0 i = 1) : gM Z l yX8_listen cX8_listen 4 (some .boolean) ({ frames := 2, cells := 0, slots := 0, locals := 43 } : Room) [.ref (AD 0), .int (nI i), .int b] (wR Z AD M n) (some (.int (M 7 0 i))) (wR Z AD (mu (mu M 1 0 0 0) 7 0 i b) n) 0 0 := by
  refine gM_of (by decide +kernel) (Nat.le_of_ble_eq_true rfl) ?_
  intro pP eE sS mI aA bB mE cC A F hname hG ls hl
  have hx := F.1
  have hb := F.2.1
  have hl : lv_has ls 4 [(0, .ref (AD 0)), (1, .int (nI i)), (2, .int b)] := hl
  have hns2 := hN.2.1
  have hnm2 := hN.2.2.2.1
  refine lv_aload_n hx hb dX8_listen_0 rfl (lv_at hl 0 rfl) ?_
  refine lv_iconst (v := 0) hx hb dX8_listen_1 (by decide) ?_
  refine gg_put F hG (ci := 8) 0 gcX8 rfl (gR_model hn) (by decide) w4_75 rfl rfl rfl (Nat.le_of_ble_eq_true rfl) (pR_1) dX8_listen_2 (fun H locs hG => ?_)
  have hG : gG Z A sS (wR Z AD (mu M 1 0 0 0) n) H locs := hG
  refine lv_aload_n hx hb dX8_listen_5 rfl (lv_at hl 0 rfl) ?_
  refine lv_iload_n hx hb dX8_listen_6 rfl (lv_at hl 1 rfl) ?_
  refine gg_callV F hG (ci := 8) (As := [.int (nI i)]) (rest := []) (c_X8_isMember Z l AD (mu M 1 0 0 0) _ hn _ _ i hN hi) kY_X8_isMember kV_X8_isMember (gR_model hn) rfl rfl w4_136 rfl ⟨rfl, rfl⟩ ⟨(Nat.le_of_ble_eq_true rfl), (Nat.le_of_ble_eq_true rfl)⟩ rfl (Nat.le_of_ble_eq_true rfl) hl.1 ⟨Nat.zero_le _, Nat.zero_le _⟩ dX8_listen_7 rfl (fun H locs hG => ?_)
  refine lv_if_ne (tgt := 27) hx hb dX8_listen_10 (by decide) (fun h10 => ?_) (fun h10 => absurd h10 (by decide))
  refine lv_aload_n hx hb dX8_listen_27 rfl (lv_at hl 0 rfl) ?_
  refine gg_get F hG (ci := 8) (v := .ref (AD 5)) 7 gcX8 rfl (gR_model hn) (by decide) w4_85 rfl dX8_listen_28 ?_
  refine lv_iload_n hx hb dX8_listen_31 rfl (lv_at hl 1 rfl) ?_
  refine gg_ialdN F hG i (gR_ears hn) rfl (by omega) (by omega) dX8_listen_32 ?_
  refine lv_iconst (v := 1) hx hb dX8_listen_33 (by decide) ?_
  refine lv_icmp_ne (tgt := 41) hx hb dX8_listen_34 (by decide) (fun h34 => ?_) (fun h34 => ?_)
  · refine lv_iconst (v := 0) hx hb dX8_listen_41 (by decide) ?_
    refine lv_istore_n (lv' := [(3, .int 0), (0, .ref (AD 0)), (1, .int (nI i)), (2, .int b)]) hx hb dX8_listen_42 rfl hl (by decide) rfl (fun ls hl => ?_)
    refine lv_aload_n hx hb dX8_listen_43 rfl (lv_at hl 1 rfl) ?_
    refine gg_get F hG (ci := 8) (v := .ref (AD 5)) 7 gcX8 rfl (gR_model hn) (by decide) w4_85 rfl dX8_listen_44 ?_
    refine lv_iload_n hx hb dX8_listen_47 rfl (lv_at hl 2 rfl) ?_
    refine lv_iload_n hx hb dX8_listen_48 rfl (lv_at hl 3 rfl) ?_
    refine lv_if_eq (tgt := 56) hx hb dX8_listen_49 (by decide) (fun h49 => ?_) (fun h49 => ?_)
    · refine lv_iconst (v := 0) hx hb dX8_listen_56 (by decide) ?_
      refine gg_iastN F hG i (gR_ears hn) rfl (by omega) (by omega) (pR_7) dX8_listen_57 (fun H locs hG => ?_)
      have hG : gG Z A sS (wR Z AD (mu (mu M 1 0 0 0) 7 0 i 0) n) H locs := hG
      refine lv_iload_n hx hb dX8_listen_58 rfl (lv_at hl 0 rfl) ?_
      exact gg_iret F hG rfl ((hl01.resolve_right h34).symm) (congrArg (fun q => wR Z AD (mu (mu M 1 0 0 0) 7 0 i q) n) h49.symm) dX8_listen_59
    · refine lv_iconst (v := 1) hx hb dX8_listen_52 (by decide) ?_
      refine lv_goto (tgt := 57) hx hb dX8_listen_53 (by decide) ?_
      refine gg_iastN F hG i (gR_ears hn) rfl (by omega) (by omega) (pR_7) dX8_listen_57 (fun H locs hG => ?_)
      have hG : gG Z A sS (wR Z AD (mu (mu M 1 0 0 0) 7 0 i 1) n) H locs := hG
      refine lv_iload_n hx hb dX8_listen_58 rfl (lv_at hl 0 rfl) ?_
      exact gg_iret F hG rfl ((hl01.resolve_right h34).symm) (congrArg (fun q => wR Z AD (mu (mu M 1 0 0 0) 7 0 i q) n) (hb01.resolve_left h49).symm) dX8_listen_59
  · refine lv_iconst (v := 1) hx hb dX8_listen_37 (by decide) ?_
    refine lv_goto (tgt := 42) hx hb dX8_listen_38 (by decide) ?_
    refine lv_istore_n (lv' := [(3, .int 1), (0, .ref (AD 0)), (1, .int (nI i)), (2, .int b)]) hx hb dX8_listen_42 rfl hl (by decide) rfl (fun ls hl => ?_)
    refine lv_aload_n hx hb dX8_listen_43 rfl (lv_at hl 1 rfl) ?_
    refine gg_get F hG (ci := 8) (v := .ref (AD 5)) 7 gcX8 rfl (gR_model hn) (by decide) w4_85 rfl dX8_listen_44 ?_
    refine lv_iload_n hx hb dX8_listen_47 rfl (lv_at hl 2 rfl) ?_
    refine lv_iload_n hx hb dX8_listen_48 rfl (lv_at hl 3 rfl) ?_
    refine lv_if_eq (tgt := 56) hx hb dX8_listen_49 (by decide) (fun h49 => ?_) (fun h49 => ?_)
    · refine lv_iconst (v := 0) hx hb dX8_listen_56 (by decide) ?_
      refine gg_iastN F hG i (gR_ears hn) rfl (by omega) (by omega) (pR_7) dX8_listen_57 (fun H locs hG => ?_)
      have hG : gG Z A sS (wR Z AD (mu (mu M 1 0 0 0) 7 0 i 0) n) H locs := hG
      refine lv_iload_n hx hb dX8_listen_58 rfl (lv_at hl 0 rfl) ?_
      exact gg_iret F hG rfl (h34.symm) (congrArg (fun q => wR Z AD (mu (mu M 1 0 0 0) 7 0 i q) n) h49.symm) dX8_listen_59
    · refine lv_iconst (v := 1) hx hb dX8_listen_52 (by decide) ?_
      refine lv_goto (tgt := 57) hx hb dX8_listen_53 (by decide) ?_
      refine gg_iastN F hG i (gR_ears hn) rfl (by omega) (by omega) (pR_7) dX8_listen_57 (fun H locs hG => ?_)
      have hG : gG Z A sS (wR Z AD (mu (mu M 1 0 0 0) 7 0 i 1) n) H locs := hG
      refine lv_iload_n hx hb dX8_listen_58 rfl (lv_at hl 0 rfl) ?_
      exact gg_iret F hG rfl (h34.symm) (congrArg (fun q => wR Z AD (mu (mu M 1 0 0 0) 7 0 i q) n) (hb01.resolve_left h49).symm) dX8_listen_59
set_option maxRecDepth 100000 in
set_option maxHeartbeats 4000000 in
theorem c_X8_listen_m (Z : gZ) (l : Launch) (AD : Nat → Nat) (M : St) (n : Nat) (hn : 16 ≤ n) (ns nm : Nat) (hN : okN M ns nm) (x b : Int32) (hxo : x < 0 ∨ nI nm ≤ x) : gM Z l yX8_listen cX8_listen 4 (some .boolean) ({ frames := 2, cells := 0, slots := 0, locals := 43 } : Room) [.ref (AD 0), .int x, .int b] (wR Z AD M n) (some (.int 0)) (wR Z AD (mu (mu M 1 0 0 0) 1 0 0 1) n) 0 0 := by
  refine gM_of (by decide +kernel) (Nat.le_of_ble_eq_true rfl) ?_
  intro pP eE sS mI aA bB mE cC A F hname hG ls hl
  have hx := F.1
  have hb := F.2.1
  have hl : lv_has ls 4 [(0, .ref (AD 0)), (1, .int x), (2, .int b)] := hl
  refine lv_aload_n hx hb dX8_listen_0 rfl (lv_at hl 0 rfl) ?_
  refine lv_iconst (v := 0) hx hb dX8_listen_1 (by decide) ?_
  refine gg_put F hG (ci := 8) 0 gcX8 rfl (gR_model hn) (by decide) w4_75 rfl rfl rfl (Nat.le_of_ble_eq_true rfl) (pR_1) dX8_listen_2 (fun H locs hG => ?_)
  have hG : gG Z A sS (wR Z AD (mu M 1 0 0 0) n) H locs := hG
  refine lv_aload_n hx hb dX8_listen_5 rfl (lv_at hl 0 rfl) ?_
  refine lv_iload_n hx hb dX8_listen_6 rfl (lv_at hl 1 rfl) ?_
  refine gg_callV F hG (ci := 8) (As := [.int x]) (rest := []) (c_X8_isMember_no Z l AD (mu M 1 0 0 0) _ hn _ _ hN x hxo) kY_X8_isMember kV_X8_isMember (gR_model hn) rfl rfl w4_136 rfl ⟨rfl, rfl⟩ ⟨(Nat.le_of_ble_eq_true rfl), (Nat.le_of_ble_eq_true rfl)⟩ rfl (Nat.le_of_ble_eq_true rfl) hl.1 ⟨Nat.zero_le _, Nat.zero_le _⟩ dX8_listen_7 rfl (fun H locs hG => ?_)
  refine lv_if_ne (tgt := 27) hx hb dX8_listen_10 (by decide) (fun h10 => absurd rfl h10) (fun h10 => ?_)
  refine lv_aload_n hx hb dX8_listen_13 rfl (lv_at hl 0 rfl) ?_
  refine lv_iconst (v := 1) hx hb dX8_listen_14 (by decide) ?_
  refine gg_callV F hG (ci := 8) (As := [.int 1]) (rest := []) (c_X8_no Z l AD (mu M 1 0 0 0) _ hn 1) kY_X8_no kV_X8_no (gR_model hn) rfl rfl w4_121 rfl ⟨rfl, rfl⟩ ⟨(Nat.le_of_ble_eq_true rfl), (Nat.le_of_ble_eq_true rfl)⟩ rfl (Nat.le_of_ble_eq_true rfl) hl.1 ⟨Nat.zero_le _, Nat.zero_le _⟩ dX8_listen_15 rfl (fun H locs hG => ?_)
  refine lv_if_eq (tgt := 25) hx hb dX8_listen_18 (by decide) (fun h18 => ?_) (fun h18 => absurd rfl h18)
  refine lv_iconst (v := 0) hx hb dX8_listen_25 (by decide) ?_
  exact gg_iret F hG rfl rfl rfl dX8_listen_26
set_option maxRecDepth 100000 in
set_option maxHeartbeats 4000000 in
theorem c_X8_renew (Z : gZ) (l : Launch) (AD : Nat → Nat) (M : St) (n : Nat) (hn : 16 ≤ n) (ns nm i : Nat) (hN : okN M ns nm) (hi : i < nm) : gM Z l yX8_renew cX8_renew 3 (some .int) ({ frames := 2, cells := 0, slots := 0, locals := 43 } : Room) [.ref (AD 0), .int (nI i)] (wR Z AD M n) (some (.int (M 12 0 i))) (wR Z AD (mu (mu M 1 0 0 0) 12 0 i 9) n) 0 0 := by
  refine gM_of (by decide +kernel) (Nat.le_of_ble_eq_true rfl) ?_
  intro pP eE sS mI aA bB mE cC A F hname hG ls hl
  have hx := F.1
  have hb := F.2.1
  have hl : lv_has ls 3 [(0, .ref (AD 0)), (1, .int (nI i))] := hl
  have hns2 := hN.2.1
  have hnm2 := hN.2.2.2.1
  refine lv_aload_n hx hb dX8_renew_0 rfl (lv_at hl 0 rfl) ?_
  refine lv_iconst (v := 0) hx hb dX8_renew_1 (by decide) ?_
  refine gg_put F hG (ci := 8) 0 gcX8 rfl (gR_model hn) (by decide) w4_75 rfl rfl rfl (Nat.le_of_ble_eq_true rfl) (pR_1) dX8_renew_2 (fun H locs hG => ?_)
  have hG : gG Z A sS (wR Z AD (mu M 1 0 0 0) n) H locs := hG
  refine lv_aload_n hx hb dX8_renew_5 rfl (lv_at hl 0 rfl) ?_
  refine lv_iload_n hx hb dX8_renew_6 rfl (lv_at hl 1 rfl) ?_
  refine gg_callV F hG (ci := 8) (As := [.int (nI i)]) (rest := []) (c_X8_isMember Z l AD (mu M 1 0 0 0) _ hn _ _ i hN hi) kY_X8_isMember kV_X8_isMember (gR_model hn) rfl rfl w4_136 rfl ⟨rfl, rfl⟩ ⟨(Nat.le_of_ble_eq_true rfl), (Nat.le_of_ble_eq_true rfl)⟩ rfl (Nat.le_of_ble_eq_true rfl) hl.1 ⟨Nat.zero_le _, Nat.zero_le _⟩ dX8_renew_7 rfl (fun H locs hG => ?_)
  refine lv_if_ne (tgt := 19) hx hb dX8_renew_10 (by decide) (fun h10 => ?_) (fun h10 => absurd h10 (by decide))
  refine lv_aload_n hx hb dX8_renew_19 rfl (lv_at hl 0 rfl) ?_
  refine gg_get F hG (ci := 8) (v := .ref (AD (6 + 0))) 8 gcX8 rfl (gR_model hn) (by decide) w4_87 rfl dX8_renew_20 ?_
  refine gg_getN F hG (ci := 7) (v := .ref (AD (8 + 0))) 4 gcX7 rfl (gR_state (by omega) hn) (by decide) wn_42 rfl dX8_renew_23 ?_
  refine lv_iload_n hx hb dX8_renew_26 rfl (lv_at hl 1 rfl) ?_
  refine gg_ialdN F hG i (gR_crys (by omega) hn) rfl (by omega) (by omega) dX8_renew_27 ?_
  refine lv_istore_n (lv' := [(2, .int (M 12 0 i)), (0, .ref (AD 0)), (1, .int (nI i))]) hx hb dX8_renew_28 rfl hl (by decide) rfl (fun ls hl => ?_)
  refine lv_aload_n hx hb dX8_renew_29 rfl (lv_at hl 1 rfl) ?_
  refine gg_get F hG (ci := 8) (v := .ref (AD (6 + 0))) 8 gcX8 rfl (gR_model hn) (by decide) w4_87 rfl dX8_renew_30 ?_
  refine gg_getN F hG (ci := 7) (v := .ref (AD (8 + 0))) 4 gcX7 rfl (gR_state (by omega) hn) (by decide) wn_42 rfl dX8_renew_33 ?_
  refine lv_iload_n hx hb dX8_renew_36 rfl (lv_at hl 2 rfl) ?_
  refine lv_bipush (v := 9) hx hb dX8_renew_37 (by decide) ?_
  refine gg_iastN F hG i (gR_crys (by omega) hn) rfl (by omega) (by omega) (pR_12 (by omega)) dX8_renew_39 (fun H locs hG => ?_)
  have hG : gG Z A sS (wR Z AD (mu (mu M 1 0 0 0) 12 0 i 9) n) H locs := hG
  refine lv_iload_n hx hb dX8_renew_40 rfl (lv_at hl 0 rfl) ?_
  exact gg_iret F hG rfl rfl rfl dX8_renew_41
set_option maxRecDepth 100000 in
set_option maxHeartbeats 4000000 in
theorem c_X8_renew_m (Z : gZ) (l : Launch) (AD : Nat → Nat) (M : St) (n : Nat) (hn : 16 ≤ n) (ns nm : Nat) (hN : okN M ns nm) (x : Int32) (hxo : x < 0 ∨ nI nm ≤ x) : gM Z l yX8_renew cX8_renew 3 (some .int) ({ frames := 2, cells := 0, slots := 0, locals := 43 } : Room) [.ref (AD 0), .int x] (wR Z AD M n) (some (.int 0)) (wR Z AD (mu (mu M 1 0 0 0) 1 0 0 1) n) 0 0 := by
  refine gM_of (by decide +kernel) (Nat.le_of_ble_eq_true rfl) ?_
  intro pP eE sS mI aA bB mE cC A F hname hG ls hl
  have hx := F.1
  have hb := F.2.1
  have hl : lv_has ls 3 [(0, .ref (AD 0)), (1, .int x)] := hl
  refine lv_aload_n hx hb dX8_renew_0 rfl (lv_at hl 0 rfl) ?_
  refine lv_iconst (v := 0) hx hb dX8_renew_1 (by decide) ?_
  refine gg_put F hG (ci := 8) 0 gcX8 rfl (gR_model hn) (by decide) w4_75 rfl rfl rfl (Nat.le_of_ble_eq_true rfl) (pR_1) dX8_renew_2 (fun H locs hG => ?_)
  have hG : gG Z A sS (wR Z AD (mu M 1 0 0 0) n) H locs := hG
  refine lv_aload_n hx hb dX8_renew_5 rfl (lv_at hl 0 rfl) ?_
  refine lv_iload_n hx hb dX8_renew_6 rfl (lv_at hl 1 rfl) ?_
  refine gg_callV F hG (ci := 8) (As := [.int x]) (rest := []) (c_X8_isMember_no Z l AD (mu M 1 0 0 0) _ hn _ _ hN x hxo) kY_X8_isMember kV_X8_isMember (gR_model hn) rfl rfl w4_136 rfl ⟨rfl, rfl⟩ ⟨(Nat.le_of_ble_eq_true rfl), (Nat.le_of_ble_eq_true rfl)⟩ rfl (Nat.le_of_ble_eq_true rfl) hl.1 ⟨Nat.zero_le _, Nat.zero_le _⟩ dX8_renew_7 rfl (fun H locs hG => ?_)
  refine lv_if_ne (tgt := 19) hx hb dX8_renew_10 (by decide) (fun h10 => absurd rfl h10) (fun h10 => ?_)
  refine lv_aload_n hx hb dX8_renew_13 rfl (lv_at hl 0 rfl) ?_
  refine lv_iconst (v := 1) hx hb dX8_renew_14 (by decide) ?_
  refine gg_callV F hG (ci := 8) (As := [.int 1]) (rest := []) (c_X8_no Z l AD (mu M 1 0 0 0) _ hn 1) kY_X8_no kV_X8_no (gR_model hn) rfl rfl w4_121 rfl ⟨rfl, rfl⟩ ⟨(Nat.le_of_ble_eq_true rfl), (Nat.le_of_ble_eq_true rfl)⟩ rfl (Nat.le_of_ble_eq_true rfl) hl.1 ⟨Nat.zero_le _, Nat.zero_le _⟩ dX8_renew_15 rfl (fun H locs hG => ?_)
  exact gg_iret F hG rfl rfl rfl dX8_renew_18
set_option maxRecDepth 100000 in
set_option maxHeartbeats 4000000 in
theorem c_X8_stationTold_0 (Z : gZ) (l : Launch) (AD : Nat → Nat) (M : St) (n : Nat) (hn : 16 ≤ n) (ns nm k : Nat) (hN : okN M ns nm) (hX : okX M 0 nm) (hk : k < ns) : gM Z l yX8_stationTold cX8_stationTold 3 (some .int) ({ frames := 2, cells := 0, slots := 0, locals := 47 } : Room) [.ref (AD 0), .int (nI k), .int (nI 0)] (wR Z AD M n) (some (.int (tsR M ns nm k 0))) (wR Z AD M n) 0 0 := by
  refine gM_of (by decide +kernel) (Nat.le_of_ble_eq_true rfl) ?_
  intro pP eE sS mI aA bB mE cC A F hname hG ls hl
  have hx := F.1
  have hb := F.2.1
  have hl : lv_has ls 3 [(0, .ref (AD 0)), (1, .int (nI k)), (2, .int (nI 0))] := hl
  have hns2 := hN.2.1
  have hnm2 := hN.2.2.2.1
  refine lv_iload_n hx hb dX8_stationTold_0 rfl (lv_at hl 2 rfl) ?_
  refine lv_iconst (v := 3) hx hb dX8_stationTold_1 (by decide) ?_
  refine lv_icmp_ge (tgt := 17) hx hb dX8_stationTold_2 (by decide) (fun h2 => absurd h2 (by decide)) (fun h2 => ?_)
  refine lv_aload_n hx hb dX8_stationTold_5 rfl (lv_at hl 0 rfl) ?_
  refine gg_get F hG (ci := 8) (v := .ref (AD 1)) 3 gcX8 rfl (gR_model hn) (by decide) w4_79 rfl dX8_stationTold_6 ?_
  refine lv_bipush (v := 6) hx hb dX8_stationTold_9 (by decide) ?_
  refine lv_iload_n hx hb dX8_stationTold_11 rfl (lv_at hl 1 rfl) ?_
  refine lv_imul hx hb dX8_stationTold_12 ?_
  rw [show (6 * (nI k) : Int32) = nI (6 * k) from pk_mul 6 k]
  refine lv_iload_n hx hb dX8_stationTold_13 rfl (lv_at hl 2 rfl) ?_
  refine lv_iadd hx hb dX8_stationTold_14 ?_
  rw [show ((nI (6 * k)) + (nI 0) : Int32) = nI (6 * k + 0) from nI_add _ _]
  refine gg_ialdN F hG (6 * k + 0) (gR_air hn) rfl (by omega) (by omega) dX8_stationTold_15 ?_
  exact gg_iret F hG rfl rfl rfl dX8_stationTold_16
set_option maxRecDepth 100000 in
set_option maxHeartbeats 4000000 in
theorem c_X8_stationTold_1 (Z : gZ) (l : Launch) (AD : Nat → Nat) (M : St) (n : Nat) (hn : 16 ≤ n) (ns nm k : Nat) (hN : okN M ns nm) (hX : okX M 0 nm) (hk : k < ns) : gM Z l yX8_stationTold cX8_stationTold 3 (some .int) ({ frames := 2, cells := 0, slots := 0, locals := 47 } : Room) [.ref (AD 0), .int (nI k), .int (nI 1)] (wR Z AD M n) (some (.int (tsR M ns nm k 1))) (wR Z AD M n) 0 0 := by
  refine gM_of (by decide +kernel) (Nat.le_of_ble_eq_true rfl) ?_
  intro pP eE sS mI aA bB mE cC A F hname hG ls hl
  have hx := F.1
  have hb := F.2.1
  have hl : lv_has ls 3 [(0, .ref (AD 0)), (1, .int (nI k)), (2, .int (nI 1))] := hl
  have hns2 := hN.2.1
  have hnm2 := hN.2.2.2.1
  refine lv_iload_n hx hb dX8_stationTold_0 rfl (lv_at hl 2 rfl) ?_
  refine lv_iconst (v := 3) hx hb dX8_stationTold_1 (by decide) ?_
  refine lv_icmp_ge (tgt := 17) hx hb dX8_stationTold_2 (by decide) (fun h2 => absurd h2 (by decide)) (fun h2 => ?_)
  refine lv_aload_n hx hb dX8_stationTold_5 rfl (lv_at hl 0 rfl) ?_
  refine gg_get F hG (ci := 8) (v := .ref (AD 1)) 3 gcX8 rfl (gR_model hn) (by decide) w4_79 rfl dX8_stationTold_6 ?_
  refine lv_bipush (v := 6) hx hb dX8_stationTold_9 (by decide) ?_
  refine lv_iload_n hx hb dX8_stationTold_11 rfl (lv_at hl 1 rfl) ?_
  refine lv_imul hx hb dX8_stationTold_12 ?_
  rw [show (6 * (nI k) : Int32) = nI (6 * k) from pk_mul 6 k]
  refine lv_iload_n hx hb dX8_stationTold_13 rfl (lv_at hl 2 rfl) ?_
  refine lv_iadd hx hb dX8_stationTold_14 ?_
  rw [show ((nI (6 * k)) + (nI 1) : Int32) = nI (6 * k + 1) from nI_add _ _]
  refine gg_ialdN F hG (6 * k + 1) (gR_air hn) rfl (by omega) (by omega) dX8_stationTold_15 ?_
  exact gg_iret F hG rfl rfl rfl dX8_stationTold_16
set_option maxRecDepth 100000 in
set_option maxHeartbeats 4000000 in
theorem c_X8_stationTold_2 (Z : gZ) (l : Launch) (AD : Nat → Nat) (M : St) (n : Nat) (hn : 16 ≤ n) (ns nm k : Nat) (hN : okN M ns nm) (hX : okX M 0 nm) (hk : k < ns) : gM Z l yX8_stationTold cX8_stationTold 3 (some .int) ({ frames := 2, cells := 0, slots := 0, locals := 47 } : Room) [.ref (AD 0), .int (nI k), .int (nI 2)] (wR Z AD M n) (some (.int (tsR M ns nm k 2))) (wR Z AD M n) 0 0 := by
  refine gM_of (by decide +kernel) (Nat.le_of_ble_eq_true rfl) ?_
  intro pP eE sS mI aA bB mE cC A F hname hG ls hl
  have hx := F.1
  have hb := F.2.1
  have hl : lv_has ls 3 [(0, .ref (AD 0)), (1, .int (nI k)), (2, .int (nI 2))] := hl
  have hns2 := hN.2.1
  have hnm2 := hN.2.2.2.1
  refine lv_iload_n hx hb dX8_stationTold_0 rfl (lv_at hl 2 rfl) ?_
  refine lv_iconst (v := 3) hx hb dX8_stationTold_1 (by decide) ?_
  refine lv_icmp_ge (tgt := 17) hx hb dX8_stationTold_2 (by decide) (fun h2 => absurd h2 (by decide)) (fun h2 => ?_)
  refine lv_aload_n hx hb dX8_stationTold_5 rfl (lv_at hl 0 rfl) ?_
  refine gg_get F hG (ci := 8) (v := .ref (AD 1)) 3 gcX8 rfl (gR_model hn) (by decide) w4_79 rfl dX8_stationTold_6 ?_
  refine lv_bipush (v := 6) hx hb dX8_stationTold_9 (by decide) ?_
  refine lv_iload_n hx hb dX8_stationTold_11 rfl (lv_at hl 1 rfl) ?_
  refine lv_imul hx hb dX8_stationTold_12 ?_
  rw [show (6 * (nI k) : Int32) = nI (6 * k) from pk_mul 6 k]
  refine lv_iload_n hx hb dX8_stationTold_13 rfl (lv_at hl 2 rfl) ?_
  refine lv_iadd hx hb dX8_stationTold_14 ?_
  rw [show ((nI (6 * k)) + (nI 2) : Int32) = nI (6 * k + 2) from nI_add _ _]
  refine gg_ialdN F hG (6 * k + 2) (gR_air hn) rfl (by omega) (by omega) dX8_stationTold_15 ?_
  exact gg_iret F hG rfl rfl rfl dX8_stationTold_16
set_option maxRecDepth 100000 in
set_option maxHeartbeats 4000000 in
theorem c_X8_stationTold_3 (Z : gZ) (l : Launch) (AD : Nat → Nat) (M : St) (n : Nat) (hn : 16 ≤ n) (ns nm k : Nat) (hN : okN M ns nm) (hX : okX M 0 nm) (hk : k < ns) : gM Z l yX8_stationTold cX8_stationTold 3 (some .int) ({ frames := 2, cells := 0, slots := 0, locals := 47 } : Room) [.ref (AD 0), .int (nI k), .int (nI 3)] (wR Z AD M n) (some (.int (tsR M ns nm k 3))) (wR Z AD M n) 0 0 := by
  refine gM_of (by decide +kernel) (Nat.le_of_ble_eq_true rfl) ?_
  intro pP eE sS mI aA bB mE cC A F hname hG ls hl
  have hx := F.1
  have hb := F.2.1
  have hl : lv_has ls 3 [(0, .ref (AD 0)), (1, .int (nI k)), (2, .int (nI 3))] := hl
  have hns2 := hN.2.1
  have hnm2 := hN.2.2.2.1
  refine lv_iload_n hx hb dX8_stationTold_0 rfl (lv_at hl 2 rfl) ?_
  refine lv_iconst (v := 3) hx hb dX8_stationTold_1 (by decide) ?_
  refine lv_icmp_ge (tgt := 17) hx hb dX8_stationTold_2 (by decide) (fun h2 => ?_) (fun h2 => absurd (by decide) h2)
  refine lv_iload_n hx hb dX8_stationTold_17 rfl (lv_at hl 2 rfl) ?_
  refine lv_iconst (v := 3) hx hb dX8_stationTold_18 (by decide) ?_
  refine lv_icmp_ne (tgt := 38) hx hb dX8_stationTold_19 (by decide) (fun h19 => absurd rfl h19) (fun h19 => ?_)
  refine lv_aload_n hx hb dX8_stationTold_22 rfl (lv_at hl 0 rfl) ?_
  refine lv_aload_n hx hb dX8_stationTold_23 rfl (lv_at hl 0 rfl) ?_
  refine gg_get F hG (ci := 8) (v := .ref (AD (6 + 0))) 8 gcX8 rfl (gR_model hn) (by decide) w4_87 rfl dX8_stationTold_24 ?_
  refine gg_getN F hG (ci := 7) (v := .int (M 8 0 0)) 0 gcX7 rfl (gR_state (by omega) hn) (by decide) wn_38 rfl dX8_stationTold_27 ?_
  refine gg_callV F hG (ci := 8) (As := [.int (M 8 0 0)]) (rest := []) (c_X8_onAir Z l AD M _ hn _ _ hN (M 8 0 0)) kY_X8_onAir kV_X8_onAir (gR_model hn) rfl rfl w4_164 rfl ⟨rfl, rfl⟩ ⟨(Nat.le_of_ble_eq_true rfl), (Nat.le_of_ble_eq_true rfl)⟩ rfl (Nat.le_of_ble_eq_true rfl) hl.1 ⟨Nat.zero_le _, Nat.zero_le _⟩ dX8_stationTold_30 rfl (fun H locs hG => ?_)
  refine lv_iload_n hx hb dX8_stationTold_33 rfl (lv_at hl 1 rfl) ?_
  refine lv_ishr hx hb dX8_stationTold_34 ?_
  refine lv_iconst (v := 1) hx hb dX8_stationTold_35 (by decide) ?_
  refine lv_iand hx hb dX8_stationTold_36 ?_
  rw [show (((onR M (M 8 0 0) ns) >>> ((nI k) &&& 31)) &&& 1 : Int32) = bitR (onR M (M 8 0 0) ns) k from rfl]
  exact gg_iret F hG rfl rfl rfl dX8_stationTold_37
set_option maxRecDepth 100000 in
set_option maxHeartbeats 4000000 in
theorem c_X8_stationTold_4 (Z : gZ) (l : Launch) (AD : Nat → Nat) (M : St) (n : Nat) (hn : 16 ≤ n) (ns nm k : Nat) (hN : okN M ns nm) (hX : okX M 0 nm) (hk : k < ns) : gM Z l yX8_stationTold cX8_stationTold 3 (some .int) ({ frames := 2, cells := 0, slots := 0, locals := 47 } : Room) [.ref (AD 0), .int (nI k), .int (nI 4)] (wR Z AD M n) (some (.int (tsR M ns nm k 4))) (wR Z AD M n) 0 0 := by
  refine gM_of (by decide +kernel) (Nat.le_of_ble_eq_true rfl) ?_
  intro pP eE sS mI aA bB mE cC A F hname hG ls hl
  have hx := F.1
  have hb := F.2.1
  have hl : lv_has ls 3 [(0, .ref (AD 0)), (1, .int (nI k)), (2, .int (nI 4))] := hl
  have hns2 := hN.2.1
  have hnm2 := hN.2.2.2.1
  refine lv_iload_n hx hb dX8_stationTold_0 rfl (lv_at hl 2 rfl) ?_
  refine lv_iconst (v := 3) hx hb dX8_stationTold_1 (by decide) ?_
  refine lv_icmp_ge (tgt := 17) hx hb dX8_stationTold_2 (by decide) (fun h2 => ?_) (fun h2 => absurd (by decide) h2)
  refine lv_iload_n hx hb dX8_stationTold_17 rfl (lv_at hl 2 rfl) ?_
  refine lv_iconst (v := 3) hx hb dX8_stationTold_18 (by decide) ?_
  refine lv_icmp_ne (tgt := 38) hx hb dX8_stationTold_19 (by decide) (fun h19 => ?_) (fun h19 => absurd h19 (by decide))
  refine lv_iload_n hx hb dX8_stationTold_38 rfl (lv_at hl 2 rfl) ?_
  refine lv_iconst (v := 4) hx hb dX8_stationTold_39 (by decide) ?_
  refine lv_icmp_ne (tgt := 58) hx hb dX8_stationTold_40 (by decide) (fun h40 => absurd rfl h40) (fun h40 => ?_)
  refine lv_aload_n hx hb dX8_stationTold_43 rfl (lv_at hl 0 rfl) ?_
  refine lv_iload_n hx hb dX8_stationTold_44 rfl (lv_at hl 1 rfl) ?_
  refine lv_aload_n hx hb dX8_stationTold_45 rfl (lv_at hl 0 rfl) ?_
  refine gg_get F hG (ci := 8) (v := .ref (AD (6 + 0))) 8 gcX8 rfl (gR_model hn) (by decide) w4_87 rfl dX8_stationTold_46 ?_
  refine gg_getN F hG (ci := 7) (v := .int (M 8 0 0)) 0 gcX7 rfl (gR_state (by omega) hn) (by decide) wn_38 rfl dX8_stationTold_49 ?_
  refine gg_callV F hG (ci := 8) (As := [.int (nI k), .int (M 8 0 0)]) (rest := []) (c_X8_fading Z l AD M _ hn k (by omega) (M 8 0 0)) kY_X8_fading kV_X8_fading (gR_model hn) rfl rfl w4_168 rfl ⟨rfl, rfl⟩ ⟨(Nat.le_of_ble_eq_true rfl), (Nat.le_of_ble_eq_true rfl)⟩ rfl (Nat.le_of_ble_eq_true rfl) hl.1 ⟨Nat.zero_le _, Nat.zero_le _⟩ dX8_stationTold_52 rfl (fun H locs hG => ?_)
  refine lv_goto (tgt := 63) hx hb dX8_stationTold_55 (by decide) ?_
  exact gg_iret F hG rfl rfl rfl dX8_stationTold_63
set_option maxRecDepth 100000 in
set_option maxHeartbeats 4000000 in
theorem c_X8_stationTold_5 (Z : gZ) (l : Launch) (AD : Nat → Nat) (M : St) (n : Nat) (hn : 16 ≤ n) (ns nm k : Nat) (hN : okN M ns nm) (hX : okX M 0 nm) (hk : k < ns) : gM Z l yX8_stationTold cX8_stationTold 3 (some .int) ({ frames := 2, cells := 0, slots := 0, locals := 47 } : Room) [.ref (AD 0), .int (nI k), .int (nI 5)] (wR Z AD M n) (some (.int (tsR M ns nm k 5))) (wR Z AD M n) 0 0 := by
  refine gM_of (by decide +kernel) (Nat.le_of_ble_eq_true rfl) ?_
  intro pP eE sS mI aA bB mE cC A F hname hG ls hl
  have hx := F.1
  have hb := F.2.1
  have hl : lv_has ls 3 [(0, .ref (AD 0)), (1, .int (nI k)), (2, .int (nI 5))] := hl
  have hns2 := hN.2.1
  have hnm2 := hN.2.2.2.1
  refine lv_iload_n hx hb dX8_stationTold_0 rfl (lv_at hl 2 rfl) ?_
  refine lv_iconst (v := 3) hx hb dX8_stationTold_1 (by decide) ?_
  refine lv_icmp_ge (tgt := 17) hx hb dX8_stationTold_2 (by decide) (fun h2 => ?_) (fun h2 => absurd (by decide) h2)
  refine lv_iload_n hx hb dX8_stationTold_17 rfl (lv_at hl 2 rfl) ?_
  refine lv_iconst (v := 3) hx hb dX8_stationTold_18 (by decide) ?_
  refine lv_icmp_ne (tgt := 38) hx hb dX8_stationTold_19 (by decide) (fun h19 => ?_) (fun h19 => absurd h19 (by decide))
  refine lv_iload_n hx hb dX8_stationTold_38 rfl (lv_at hl 2 rfl) ?_
  refine lv_iconst (v := 4) hx hb dX8_stationTold_39 (by decide) ?_
  refine lv_icmp_ne (tgt := 58) hx hb dX8_stationTold_40 (by decide) (fun h40 => ?_) (fun h40 => absurd h40 (by decide))
  refine lv_aload_n hx hb dX8_stationTold_58 rfl (lv_at hl 0 rfl) ?_
  refine lv_iload_n hx hb dX8_stationTold_59 rfl (lv_at hl 1 rfl) ?_
  refine gg_callV F hG (ci := 8) (As := [.int (nI k)]) (rest := []) (c_X8_cards Z l AD M _ hn _ _ k hN hX) kY_X8_cards kV_X8_cards (gR_model hn) rfl rfl w4_175 rfl ⟨rfl, rfl⟩ ⟨(Nat.le_of_ble_eq_true rfl), (Nat.le_of_ble_eq_true rfl)⟩ rfl (Nat.le_of_ble_eq_true rfl) hl.1 ⟨Nat.zero_le _, Nat.zero_le _⟩ dX8_stationTold_60 rfl (fun H locs hG => ?_)
  exact gg_iret F hG rfl rfl rfl dX8_stationTold_63
theorem c_X8_stationTold (Z : gZ) (l : Launch) (AD : Nat → Nat) (M : St) (n : Nat) (hn : 16 ≤ n) (ns nm k : Nat) (hN : okN M ns nm) (hX : okX M 0 nm) (hk : k < ns) (v : Nat) (hv : v < 6) : gM Z l yX8_stationTold cX8_stationTold 3 (some .int) ({ frames := 2, cells := 0, slots := 0, locals := 47 } : Room) [.ref (AD 0), .int (nI k), .int (nI v)] (wR Z AD M n) (some (.int (tsR M ns nm k v))) (wR Z AD M n) 0 0 := by
  match v, hv with
  | 0, _ => exact c_X8_stationTold_0 Z l AD M n hn ns nm k hN hX hk
  | 1, _ => exact c_X8_stationTold_1 Z l AD M n hn ns nm k hN hX hk
  | 2, _ => exact c_X8_stationTold_2 Z l AD M n hn ns nm k hN hX hk
  | 3, _ => exact c_X8_stationTold_3 Z l AD M n hn ns nm k hN hX hk
  | 4, _ => exact c_X8_stationTold_4 Z l AD M n hn ns nm k hN hX hk
  | 5, _ => exact c_X8_stationTold_5 Z l AD M n hn ns nm k hN hX hk
  | q + 6, h => exact absurd h (by omega)
set_option maxRecDepth 100000 in
set_option maxHeartbeats 4000000 in
theorem c_X8_memberTold_0 (Z : gZ) (l : Launch) (AD : Nat → Nat) (M : St) (n : Nat) (hn : 16 ≤ n) (ns nm i : Nat) (hN : okN M ns nm) (hX : okX M 0 nm) (hi : i < nm) : gM Z l yX8_memberTold cX8_memberTold 3 (some .int) ({ frames := 2, cells := 0, slots := 0, locals := 48 } : Room) [.ref (AD 0), .int (nI i), .int (nI 0)] (wR Z AD M n) (some (.int (tmR M ns i 0))) (wR Z AD M n) 0 0 := by
  refine gM_of (by decide +kernel) (Nat.le_of_ble_eq_true rfl) ?_
  intro pP eE sS mI aA bB mE cC A F hname hG ls hl
  have hx := F.1
  have hb := F.2.1
  have hl : lv_has ls 3 [(0, .ref (AD 0)), (1, .int (nI i)), (2, .int (nI 0))] := hl
  have hns2 := hN.2.1
  have hnm2 := hN.2.2.2.1
  refine lv_iload_n hx hb dX8_memberTold_0 rfl (lv_at hl 2 rfl) ?_
  refine lv_tableIn (off := 47) (tgt := 48) hx hb dX8_memberTold_1 (by decide) (by decide) (by decide) (by decide) ?_
  refine lv_aload_n hx hb dX8_memberTold_48 rfl (lv_at hl 0 rfl) ?_
  refine gg_get F hG (ci := 8) (v := .ref (AD 2)) 4 gcX8 rfl (gR_model hn) (by decide) w4_80 rfl dX8_memberTold_49 ?_
  refine lv_iload_n hx hb dX8_memberTold_52 rfl (lv_at hl 1 rfl) ?_
  refine gg_ialdN F hG i (gR_turns hn) rfl (by omega) (by omega) dX8_memberTold_53 ?_
  exact gg_iret F hG rfl rfl rfl dX8_memberTold_54
set_option maxRecDepth 100000 in
set_option maxHeartbeats 4000000 in
theorem c_X8_memberTold_1 (Z : gZ) (l : Launch) (AD : Nat → Nat) (M : St) (n : Nat) (hn : 16 ≤ n) (ns nm i : Nat) (hN : okN M ns nm) (hX : okX M 0 nm) (hi : i < nm) : gM Z l yX8_memberTold cX8_memberTold 3 (some .int) ({ frames := 2, cells := 0, slots := 0, locals := 48 } : Room) [.ref (AD 0), .int (nI i), .int (nI 1)] (wR Z AD M n) (some (.int (tmR M ns i 1))) (wR Z AD M n) 0 0 := by
  refine gM_of (by decide +kernel) (Nat.le_of_ble_eq_true rfl) ?_
  intro pP eE sS mI aA bB mE cC A F hname hG ls hl
  have hx := F.1
  have hb := F.2.1
  have hl : lv_has ls 3 [(0, .ref (AD 0)), (1, .int (nI i)), (2, .int (nI 1))] := hl
  have hns2 := hN.2.1
  have hnm2 := hN.2.2.2.1
  refine lv_iload_n hx hb dX8_memberTold_0 rfl (lv_at hl 2 rfl) ?_
  refine lv_tableIn (off := 54) (tgt := 55) hx hb dX8_memberTold_1 (by decide) (by decide) (by decide) (by decide) ?_
  refine lv_aload_n hx hb dX8_memberTold_55 rfl (lv_at hl 0 rfl) ?_
  refine gg_get F hG (ci := 8) (v := .ref (AD 3)) 5 gcX8 rfl (gR_model hn) (by decide) w4_82 rfl dX8_memberTold_56 ?_
  refine lv_iload_n hx hb dX8_memberTold_59 rfl (lv_at hl 1 rfl) ?_
  refine gg_ialdN F hG i (gR_stand hn) rfl (by omega) (by omega) dX8_memberTold_60 ?_
  exact gg_iret F hG rfl rfl rfl dX8_memberTold_61
set_option maxRecDepth 100000 in
set_option maxHeartbeats 4000000 in
theorem c_X8_memberTold_2 (Z : gZ) (l : Launch) (AD : Nat → Nat) (M : St) (n : Nat) (hn : 16 ≤ n) (ns nm i : Nat) (hN : okN M ns nm) (hX : okX M 0 nm) (hi : i < nm) : gM Z l yX8_memberTold cX8_memberTold 3 (some .int) ({ frames := 2, cells := 0, slots := 0, locals := 48 } : Room) [.ref (AD 0), .int (nI i), .int (nI 2)] (wR Z AD M n) (some (.int (tmR M ns i 2))) (wR Z AD M n) 0 0 := by
  refine gM_of (by decide +kernel) (Nat.le_of_ble_eq_true rfl) ?_
  intro pP eE sS mI aA bB mE cC A F hname hG ls hl
  have hx := F.1
  have hb := F.2.1
  have hl : lv_has ls 3 [(0, .ref (AD 0)), (1, .int (nI i)), (2, .int (nI 2))] := hl
  have hns2 := hN.2.1
  have hnm2 := hN.2.2.2.1
  refine lv_iload_n hx hb dX8_memberTold_0 rfl (lv_at hl 2 rfl) ?_
  refine lv_tableIn (off := 61) (tgt := 62) hx hb dX8_memberTold_1 (by decide) (by decide) (by decide) (by decide) ?_
  refine lv_aload_n hx hb dX8_memberTold_62 rfl (lv_at hl 0 rfl) ?_
  refine gg_get F hG (ci := 8) (v := .ref (AD 4)) 6 gcX8 rfl (gR_model hn) (by decide) w4_84 rfl dX8_memberTold_63 ?_
  refine lv_iload_n hx hb dX8_memberTold_66 rfl (lv_at hl 1 rfl) ?_
  refine gg_ialdN F hG i (gR_aerial hn) rfl (by omega) (by omega) dX8_memberTold_67 ?_
  exact gg_iret F hG rfl rfl rfl dX8_memberTold_68
set_option maxRecDepth 100000 in
set_option maxHeartbeats 4000000 in
theorem c_X8_memberTold_3 (Z : gZ) (l : Launch) (AD : Nat → Nat) (M : St) (n : Nat) (hn : 16 ≤ n) (ns nm i : Nat) (hN : okN M ns nm) (hX : okX M 0 nm) (hi : i < nm) : gM Z l yX8_memberTold cX8_memberTold 3 (some .int) ({ frames := 2, cells := 0, slots := 0, locals := 48 } : Room) [.ref (AD 0), .int (nI i), .int (nI 3)] (wR Z AD M n) (some (.int (tmR M ns i 3))) (wR Z AD M n) 0 0 := by
  refine gM_of (by decide +kernel) (Nat.le_of_ble_eq_true rfl) ?_
  intro pP eE sS mI aA bB mE cC A F hname hG ls hl
  have hx := F.1
  have hb := F.2.1
  have hl : lv_has ls 3 [(0, .ref (AD 0)), (1, .int (nI i)), (2, .int (nI 3))] := hl
  have hns2 := hN.2.1
  have hnm2 := hN.2.2.2.1
  refine lv_iload_n hx hb dX8_memberTold_0 rfl (lv_at hl 2 rfl) ?_
  refine lv_tableIn (off := 68) (tgt := 69) hx hb dX8_memberTold_1 (by decide) (by decide) (by decide) (by decide) ?_
  refine lv_aload_n hx hb dX8_memberTold_69 rfl (lv_at hl 0 rfl) ?_
  refine gg_get F hG (ci := 8) (v := .ref (AD (6 + 0))) 8 gcX8 rfl (gR_model hn) (by decide) w4_87 rfl dX8_memberTold_70 ?_
  refine gg_getN F hG (ci := 7) (v := .ref (AD (8 + 0))) 4 gcX7 rfl (gR_state (by omega) hn) (by decide) wn_42 rfl dX8_memberTold_73 ?_
  refine lv_iload_n hx hb dX8_memberTold_76 rfl (lv_at hl 1 rfl) ?_
  refine gg_ialdN F hG i (gR_crys (by omega) hn) rfl (by omega) (by omega) dX8_memberTold_77 ?_
  exact gg_iret F hG rfl rfl rfl dX8_memberTold_78
set_option maxRecDepth 100000 in
set_option maxHeartbeats 4000000 in
theorem c_X8_memberTold_4 (Z : gZ) (l : Launch) (AD : Nat → Nat) (M : St) (n : Nat) (hn : 16 ≤ n) (ns nm i : Nat) (hN : okN M ns nm) (hX : okX M 0 nm) (hi : i < nm) : gM Z l yX8_memberTold cX8_memberTold 3 (some .int) ({ frames := 2, cells := 0, slots := 0, locals := 48 } : Room) [.ref (AD 0), .int (nI i), .int (nI 4)] (wR Z AD M n) (some (.int (tmR M ns i 4))) (wR Z AD M n) 0 0 := by
  refine gM_of (by decide +kernel) (Nat.le_of_ble_eq_true rfl) ?_
  intro pP eE sS mI aA bB mE cC A F hname hG ls hl
  have hx := F.1
  have hb := F.2.1
  have hl : lv_has ls 3 [(0, .ref (AD 0)), (1, .int (nI i)), (2, .int (nI 4))] := hl
  have hns2 := hN.2.1
  have hnm2 := hN.2.2.2.1
  refine lv_iload_n hx hb dX8_memberTold_0 rfl (lv_at hl 2 rfl) ?_
  refine lv_tableIn (off := 78) (tgt := 79) hx hb dX8_memberTold_1 (by decide) (by decide) (by decide) (by decide) ?_
  refine lv_aload_n hx hb dX8_memberTold_79 rfl (lv_at hl 0 rfl) ?_
  refine gg_get F hG (ci := 8) (v := .ref (AD 5)) 7 gcX8 rfl (gR_model hn) (by decide) w4_85 rfl dX8_memberTold_80 ?_
  refine lv_iload_n hx hb dX8_memberTold_83 rfl (lv_at hl 1 rfl) ?_
  refine gg_ialdN F hG i (gR_ears hn) rfl (by omega) (by omega) dX8_memberTold_84 ?_
  exact gg_iret F hG rfl rfl rfl dX8_memberTold_85
set_option maxRecDepth 100000 in
set_option maxHeartbeats 4000000 in
theorem c_X8_memberTold_5 (Z : gZ) (l : Launch) (AD : Nat → Nat) (M : St) (n : Nat) (hn : 16 ≤ n) (ns nm i : Nat) (hN : okN M ns nm) (hX : okX M 0 nm) (hi : i < nm) : gM Z l yX8_memberTold cX8_memberTold 3 (some .int) ({ frames := 2, cells := 0, slots := 0, locals := 48 } : Room) [.ref (AD 0), .int (nI i), .int (nI 5)] (wR Z AD M n) (some (.int (tmR M ns i 5))) (wR Z AD M n) 0 0 := by
  refine gM_of (by decide +kernel) (Nat.le_of_ble_eq_true rfl) ?_
  intro pP eE sS mI aA bB mE cC A F hname hG ls hl
  have hx := F.1
  have hb := F.2.1
  have hl : lv_has ls 3 [(0, .ref (AD 0)), (1, .int (nI i)), (2, .int (nI 5))] := hl
  have hns2 := hN.2.1
  have hnm2 := hN.2.2.2.1
  refine lv_iload_n hx hb dX8_memberTold_0 rfl (lv_at hl 2 rfl) ?_
  refine lv_tableIn (off := 85) (tgt := 86) hx hb dX8_memberTold_1 (by decide) (by decide) (by decide) (by decide) ?_
  refine lv_aload_n hx hb dX8_memberTold_86 rfl (lv_at hl 0 rfl) ?_
  refine gg_get F hG (ci := 8) (v := .ref (AD 2)) 4 gcX8 rfl (gR_model hn) (by decide) w4_80 rfl dX8_memberTold_87 ?_
  refine lv_iload_n hx hb dX8_memberTold_90 rfl (lv_at hl 1 rfl) ?_
  refine gg_ialdN F hG i (gR_turns hn) rfl (by omega) (by omega) dX8_memberTold_91 ?_
  refine lv_aload_n hx hb dX8_memberTold_92 rfl (lv_at hl 0 rfl) ?_
  refine gg_get F hG (ci := 8) (v := .ref (AD 3)) 5 gcX8 rfl (gR_model hn) (by decide) w4_82 rfl dX8_memberTold_93 ?_
  refine lv_iload_n hx hb dX8_memberTold_96 rfl (lv_at hl 1 rfl) ?_
  refine gg_ialdN F hG i (gR_stand hn) rfl (by omega) (by omega) dX8_memberTold_97 ?_
  refine gg_callS F hG (As := [.int (M 4 0 i), .int (M 5 0 i)]) (rest := []) (c_X8_tuned Z l (M 4 0 i) (M 5 0 i) (hN.2.2.2.2.2 i hi) _) kY_X8_tuned kV_X8_tuned w4_191 rfl ⟨rfl, rfl⟩ ⟨(Nat.le_of_ble_eq_true rfl), (Nat.le_of_ble_eq_true rfl)⟩ rfl (Nat.le_of_ble_eq_true rfl) hl.1 ⟨Nat.zero_le _, Nat.zero_le _⟩ dX8_memberTold_98 rfl (fun H locs hG => ?_)
  exact gg_iret F hG rfl rfl rfl dX8_memberTold_101
set_option maxRecDepth 100000 in
set_option maxHeartbeats 4000000 in
theorem c_X8_memberTold_6 (Z : gZ) (l : Launch) (AD : Nat → Nat) (M : St) (n : Nat) (hn : 16 ≤ n) (ns nm i : Nat) (hN : okN M ns nm) (hX : okX M 0 nm) (hi : i < nm) : gM Z l yX8_memberTold cX8_memberTold 3 (some .int) ({ frames := 2, cells := 0, slots := 0, locals := 48 } : Room) [.ref (AD 0), .int (nI i), .int (nI 6)] (wR Z AD M n) (some (.int (tmR M ns i 6))) (wR Z AD M n) 0 0 := by
  refine gM_of (by decide +kernel) (Nat.le_of_ble_eq_true rfl) ?_
  intro pP eE sS mI aA bB mE cC A F hname hG ls hl
  have hx := F.1
  have hb := F.2.1
  have hl : lv_has ls 3 [(0, .ref (AD 0)), (1, .int (nI i)), (2, .int (nI 6))] := hl
  have hns2 := hN.2.1
  have hnm2 := hN.2.2.2.1
  refine lv_iload_n hx hb dX8_memberTold_0 rfl (lv_at hl 2 rfl) ?_
  refine lv_tableIn (off := 101) (tgt := 102) hx hb dX8_memberTold_1 (by decide) (by decide) (by decide) (by decide) ?_
  refine lv_aload_n hx hb dX8_memberTold_102 rfl (lv_at hl 0 rfl) ?_
  refine gg_get F hG (ci := 8) (v := .ref (AD 2)) 4 gcX8 rfl (gR_model hn) (by decide) w4_80 rfl dX8_memberTold_103 ?_
  refine lv_iload_n hx hb dX8_memberTold_106 rfl (lv_at hl 1 rfl) ?_
  refine gg_ialdN F hG i (gR_turns hn) rfl (by omega) (by omega) dX8_memberTold_107 ?_
  refine gg_callS F hG (As := [.int (M 4 0 i)]) (rest := []) (c_X8_width Z l (M 4 0 i) _) kY_X8_width kV_X8_width w4_195 rfl ⟨rfl, rfl⟩ ⟨(Nat.le_of_ble_eq_true rfl), (Nat.le_of_ble_eq_true rfl)⟩ rfl (Nat.le_of_ble_eq_true rfl) hl.1 ⟨Nat.zero_le _, Nat.zero_le _⟩ dX8_memberTold_108 rfl (fun H locs hG => ?_)
  exact gg_iret F hG rfl rfl rfl dX8_memberTold_111
set_option maxRecDepth 100000 in
set_option maxHeartbeats 4000000 in
theorem c_X8_memberTold_7 (Z : gZ) (l : Launch) (AD : Nat → Nat) (M : St) (n : Nat) (hn : 16 ≤ n) (ns nm i : Nat) (hN : okN M ns nm) (hX : okX M 0 nm) (hi : i < nm) : gM Z l yX8_memberTold cX8_memberTold 3 (some .int) ({ frames := 2, cells := 0, slots := 0, locals := 48 } : Room) [.ref (AD 0), .int (nI i), .int (nI 7)] (wR Z AD M n) (some (.int (tmR M ns i 7))) (wR Z AD M n) 0 0 := by
  refine gM_of (by decide +kernel) (Nat.le_of_ble_eq_true rfl) ?_
  intro pP eE sS mI aA bB mE cC A F hname hG ls hl
  have hx := F.1
  have hb := F.2.1
  have hl : lv_has ls 3 [(0, .ref (AD 0)), (1, .int (nI i)), (2, .int (nI 7))] := hl
  have hns2 := hN.2.1
  have hnm2 := hN.2.2.2.1
  refine lv_iload_n hx hb dX8_memberTold_0 rfl (lv_at hl 2 rfl) ?_
  refine lv_tableIn (off := 111) (tgt := 112) hx hb dX8_memberTold_1 (by decide) (by decide) (by decide) (by decide) ?_
  refine lv_aload_n hx hb dX8_memberTold_112 rfl (lv_at hl 0 rfl) ?_
  refine gg_get F hG (ci := 8) (v := .ref (AD (6 + 0))) 8 gcX8 rfl (gR_model hn) (by decide) w4_87 rfl dX8_memberTold_113 ?_
  refine gg_getN F hG (ci := 7) (v := .ref (AD (10 + 0))) 5 gcX7 rfl (gR_state (by omega) hn) (by decide) wn_43 rfl dX8_memberTold_116 ?_
  refine lv_iload_n hx hb dX8_memberTold_119 rfl (lv_at hl 1 rfl) ?_
  refine gg_ialdN F hG i (gR_lines (by omega) hn) rfl (by omega) (by omega) dX8_memberTold_120 ?_
  exact gg_iret F hG rfl rfl rfl dX8_memberTold_121
set_option maxRecDepth 100000 in
set_option maxHeartbeats 4000000 in
theorem c_X8_memberTold_8 (Z : gZ) (l : Launch) (AD : Nat → Nat) (M : St) (n : Nat) (hn : 16 ≤ n) (ns nm i : Nat) (hN : okN M ns nm) (hX : okX M 0 nm) (hi : i < nm) : gM Z l yX8_memberTold cX8_memberTold 3 (some .int) ({ frames := 2, cells := 0, slots := 0, locals := 48 } : Room) [.ref (AD 0), .int (nI i), .int (nI 8)] (wR Z AD M n) (some (.int (tmR M ns i 8))) (wR Z AD M n) 0 0 := by
  refine gM_of (by decide +kernel) (Nat.le_of_ble_eq_true rfl) ?_
  intro pP eE sS mI aA bB mE cC A F hname hG ls hl
  have hx := F.1
  have hb := F.2.1
  have hl : lv_has ls 3 [(0, .ref (AD 0)), (1, .int (nI i)), (2, .int (nI 8))] := hl
  have hns2 := hN.2.1
  have hnm2 := hN.2.2.2.1
  refine lv_iload_n hx hb dX8_memberTold_0 rfl (lv_at hl 2 rfl) ?_
  refine lv_tableOut (tgt := 122) hx hb dX8_memberTold_1 (by decide) (by decide) ?_
  refine lv_aload_n hx hb dX8_memberTold_122 rfl (lv_at hl 0 rfl) ?_
  refine lv_iload_n hx hb dX8_memberTold_123 rfl (lv_at hl 1 rfl) ?_
  refine lv_iload_n hx hb dX8_memberTold_124 rfl (lv_at hl 2 rfl) ?_
  refine lv_bipush (v := 9) hx hb dX8_memberTold_125 (by decide) ?_
  refine lv_icmp_ne (tgt := 134) hx hb dX8_memberTold_127 (by decide) (fun h127 => ?_) (fun h127 => absurd h127 (by decide))
  refine lv_iconst (v := 0) hx hb dX8_memberTold_134 (by decide) ?_
  refine gg_callV F hG (ci := 8) (As := [.int (nI i), .int 0]) (rest := []) (c_X8_held Z l AD M _ hn _ _ i hN hX hi 0) kY_X8_held kV_X8_held (gR_model hn) rfl rfl w4_199 rfl ⟨rfl, rfl⟩ ⟨(Nat.le_of_ble_eq_true rfl), (Nat.le_of_ble_eq_true rfl)⟩ rfl (Nat.le_of_ble_eq_true rfl) hl.1 ⟨Nat.zero_le _, Nat.zero_le _⟩ dX8_memberTold_135 rfl (fun H locs hG => ?_)
  exact gg_iret F hG rfl rfl rfl dX8_memberTold_138
set_option maxRecDepth 100000 in
set_option maxHeartbeats 4000000 in
theorem c_X8_memberTold_9 (Z : gZ) (l : Launch) (AD : Nat → Nat) (M : St) (n : Nat) (hn : 16 ≤ n) (ns nm i : Nat) (hN : okN M ns nm) (hX : okX M 0 nm) (hi : i < nm) : gM Z l yX8_memberTold cX8_memberTold 3 (some .int) ({ frames := 2, cells := 0, slots := 0, locals := 48 } : Room) [.ref (AD 0), .int (nI i), .int (nI 9)] (wR Z AD M n) (some (.int (tmR M ns i 9))) (wR Z AD M n) 0 0 := by
  refine gM_of (by decide +kernel) (Nat.le_of_ble_eq_true rfl) ?_
  intro pP eE sS mI aA bB mE cC A F hname hG ls hl
  have hx := F.1
  have hb := F.2.1
  have hl : lv_has ls 3 [(0, .ref (AD 0)), (1, .int (nI i)), (2, .int (nI 9))] := hl
  have hns2 := hN.2.1
  have hnm2 := hN.2.2.2.1
  refine lv_iload_n hx hb dX8_memberTold_0 rfl (lv_at hl 2 rfl) ?_
  refine lv_tableOut (tgt := 122) hx hb dX8_memberTold_1 (by decide) (by decide) ?_
  refine lv_aload_n hx hb dX8_memberTold_122 rfl (lv_at hl 0 rfl) ?_
  refine lv_iload_n hx hb dX8_memberTold_123 rfl (lv_at hl 1 rfl) ?_
  refine lv_iload_n hx hb dX8_memberTold_124 rfl (lv_at hl 2 rfl) ?_
  refine lv_bipush (v := 9) hx hb dX8_memberTold_125 (by decide) ?_
  refine lv_icmp_ne (tgt := 134) hx hb dX8_memberTold_127 (by decide) (fun h127 => absurd rfl h127) (fun h127 => ?_)
  refine lv_iconst (v := 1) hx hb dX8_memberTold_130 (by decide) ?_
  refine lv_goto (tgt := 135) hx hb dX8_memberTold_131 (by decide) ?_
  refine gg_callV F hG (ci := 8) (As := [.int (nI i), .int 1]) (rest := []) (c_X8_held Z l AD M _ hn _ _ i hN hX hi 1) kY_X8_held kV_X8_held (gR_model hn) rfl rfl w4_199 rfl ⟨rfl, rfl⟩ ⟨(Nat.le_of_ble_eq_true rfl), (Nat.le_of_ble_eq_true rfl)⟩ rfl (Nat.le_of_ble_eq_true rfl) hl.1 ⟨Nat.zero_le _, Nat.zero_le _⟩ dX8_memberTold_135 rfl (fun H locs hG => ?_)
  exact gg_iret F hG rfl rfl rfl dX8_memberTold_138
theorem c_X8_memberTold (Z : gZ) (l : Launch) (AD : Nat → Nat) (M : St) (n : Nat) (hn : 16 ≤ n) (ns nm i : Nat) (hN : okN M ns nm) (hX : okX M 0 nm) (hi : i < nm) (v : Nat) (hv : v < 10) : gM Z l yX8_memberTold cX8_memberTold 3 (some .int) ({ frames := 2, cells := 0, slots := 0, locals := 48 } : Room) [.ref (AD 0), .int (nI i), .int (nI v)] (wR Z AD M n) (some (.int (tmR M ns i v))) (wR Z AD M n) 0 0 := by
  match v, hv with
  | 0, _ => exact c_X8_memberTold_0 Z l AD M n hn ns nm i hN hX hi
  | 1, _ => exact c_X8_memberTold_1 Z l AD M n hn ns nm i hN hX hi
  | 2, _ => exact c_X8_memberTold_2 Z l AD M n hn ns nm i hN hX hi
  | 3, _ => exact c_X8_memberTold_3 Z l AD M n hn ns nm i hN hX hi
  | 4, _ => exact c_X8_memberTold_4 Z l AD M n hn ns nm i hN hX hi
  | 5, _ => exact c_X8_memberTold_5 Z l AD M n hn ns nm i hN hX hi
  | 6, _ => exact c_X8_memberTold_6 Z l AD M n hn ns nm i hN hX hi
  | 7, _ => exact c_X8_memberTold_7 Z l AD M n hn ns nm i hN hX hi
  | 8, _ => exact c_X8_memberTold_8 Z l AD M n hn ns nm i hN hX hi
  | 9, _ => exact c_X8_memberTold_9 Z l AD M n hn ns nm i hN hX hi
  | q + 10, h => exact absurd h (by omega)
set_option maxRecDepth 100000 in
set_option maxHeartbeats 4000000 in
theorem c_X8_counted_0 (Z : gZ) (l : Launch) (AD : Nat → Nat) (M : St) (n : Nat) (hn : 16 ≤ n) (ns nm : Nat) (hN : okN M ns nm) : gM Z l yX8_counted cX8_counted 4 (some .int) ({ frames := 1, cells := 0, slots := 0, locals := 23 } : Room) [.ref (AD 0), .int (nI 0)] (wR Z AD M n) (some (.int (tcR M ns nm 0))) (wR Z AD M n) 0 0 := by
  refine gM_of (by decide +kernel) (Nat.le_of_ble_eq_true rfl) ?_
  intro pP eE sS mI aA bB mE cC A F hname hG ls hl
  have hx := F.1
  have hb := F.2.1
  have hl : lv_has ls 4 [(0, .ref (AD 0)), (1, .int (nI 0))] := hl
  have hns2 := hN.2.1
  have hnm2 := hN.2.2.2.1
  refine lv_iconst (v := 0) hx hb dX8_counted_0 (by decide) ?_
  refine lv_istore_n (lv' := [(2, .int 0), (0, .ref (AD 0)), (1, .int (nI 0))]) hx hb dX8_counted_1 rfl hl (by decide) rfl (fun ls hl => ?_)
  refine lv_iload_n hx hb dX8_counted_2 rfl (lv_at hl 2 rfl) ?_
  refine lv_tableIn (off := 41) (tgt := 44) hx hb dX8_counted_3 (by decide) (by decide) (by decide) (by decide) ?_
  refine lv_aload_n hx hb dX8_counted_44 rfl (lv_at hl 1 rfl) ?_
  refine gg_get F hG (ci := 8) (v := .ref (AD (6 + 0))) 8 gcX8 rfl (gR_model hn) (by decide) w4_87 rfl dX8_counted_45 ?_
  refine gg_getN F hG (ci := 7) (v := .int (M 8 0 0)) 0 gcX7 rfl (gR_state (by omega) hn) (by decide) wn_38 rfl dX8_counted_48 ?_
  exact gg_iret F hG rfl rfl rfl dX8_counted_51
set_option maxRecDepth 100000 in
set_option maxHeartbeats 4000000 in
theorem c_X8_counted_1 (Z : gZ) (l : Launch) (AD : Nat → Nat) (M : St) (n : Nat) (hn : 16 ≤ n) (ns nm : Nat) (hN : okN M ns nm) : gM Z l yX8_counted cX8_counted 4 (some .int) ({ frames := 1, cells := 0, slots := 0, locals := 23 } : Room) [.ref (AD 0), .int (nI 1)] (wR Z AD M n) (some (.int (tcR M ns nm 1))) (wR Z AD M n) 0 0 := by
  refine gM_of (by decide +kernel) (Nat.le_of_ble_eq_true rfl) ?_
  intro pP eE sS mI aA bB mE cC A F hname hG ls hl
  have hx := F.1
  have hb := F.2.1
  have hl : lv_has ls 4 [(0, .ref (AD 0)), (1, .int (nI 1))] := hl
  have hns2 := hN.2.1
  have hnm2 := hN.2.2.2.1
  refine lv_iconst (v := 0) hx hb dX8_counted_0 (by decide) ?_
  refine lv_istore_n (lv' := [(2, .int 0), (0, .ref (AD 0)), (1, .int (nI 1))]) hx hb dX8_counted_1 rfl hl (by decide) rfl (fun ls hl => ?_)
  refine lv_iload_n hx hb dX8_counted_2 rfl (lv_at hl 2 rfl) ?_
  refine lv_tableIn (off := 49) (tgt := 52) hx hb dX8_counted_3 (by decide) (by decide) (by decide) (by decide) ?_
  refine lv_aload_n hx hb dX8_counted_52 rfl (lv_at hl 1 rfl) ?_
  refine gg_get F hG (ci := 8) (v := .int (nI ns)) 1 gcX8 rfl (gR_model hn) (by decide) w4_76 (congrArg (fun z => some (Value.int z)) hN.1) dX8_counted_53 ?_
  exact gg_iret F hG rfl rfl rfl dX8_counted_56
set_option maxRecDepth 100000 in
set_option maxHeartbeats 4000000 in
theorem c_X8_counted_2 (Z : gZ) (l : Launch) (AD : Nat → Nat) (M : St) (n : Nat) (hn : 16 ≤ n) (ns nm : Nat) (hN : okN M ns nm) : gM Z l yX8_counted cX8_counted 4 (some .int) ({ frames := 1, cells := 0, slots := 0, locals := 23 } : Room) [.ref (AD 0), .int (nI 2)] (wR Z AD M n) (some (.int (tcR M ns nm 2))) (wR Z AD M n) 0 0 := by
  refine gM_of (by decide +kernel) (Nat.le_of_ble_eq_true rfl) ?_
  intro pP eE sS mI aA bB mE cC A F hname hG ls hl
  have hx := F.1
  have hb := F.2.1
  have hl : lv_has ls 4 [(0, .ref (AD 0)), (1, .int (nI 2))] := hl
  have hns2 := hN.2.1
  have hnm2 := hN.2.2.2.1
  refine lv_iconst (v := 0) hx hb dX8_counted_0 (by decide) ?_
  refine lv_istore_n (lv' := [(2, .int 0), (0, .ref (AD 0)), (1, .int (nI 2))]) hx hb dX8_counted_1 rfl hl (by decide) rfl (fun ls hl => ?_)
  refine lv_iload_n hx hb dX8_counted_2 rfl (lv_at hl 2 rfl) ?_
  refine lv_tableIn (off := 54) (tgt := 57) hx hb dX8_counted_3 (by decide) (by decide) (by decide) (by decide) ?_
  refine lv_aload_n hx hb dX8_counted_57 rfl (lv_at hl 1 rfl) ?_
  refine lv_aload_n hx hb dX8_counted_58 rfl (lv_at hl 1 rfl) ?_
  refine gg_get F hG (ci := 8) (v := .ref (AD (6 + 0))) 8 gcX8 rfl (gR_model hn) (by decide) w4_87 rfl dX8_counted_59 ?_
  refine gg_getN F hG (ci := 7) (v := .int (M 8 0 0)) 0 gcX7 rfl (gR_state (by omega) hn) (by decide) wn_38 rfl dX8_counted_62 ?_
  refine gg_callV F hG (ci := 8) (As := [.int (M 8 0 0)]) (rest := []) (c_X8_onAir Z l AD M _ hn _ _ hN (M 8 0 0)) kY_X8_onAir kV_X8_onAir (gR_model hn) rfl rfl w4_164 rfl ⟨rfl, rfl⟩ ⟨(Nat.le_of_ble_eq_true rfl), (Nat.le_of_ble_eq_true rfl)⟩ rfl (Nat.le_of_ble_eq_true rfl) hl.1 ⟨Nat.zero_le _, Nat.zero_le _⟩ dX8_counted_65 rfl (fun H locs hG => ?_)
  refine gg_callS F hG (As := [.int (onR M (M 8 0 0) ns)]) (rest := []) (c_J6_bitCount_0f7a4 Z l (onR M (M 8 0 0) ns) _) kY_J6_bitCount_0f7a4 kV_J6_bitCount_0f7a4 w5_23 rfl ⟨rfl, rfl⟩ ⟨(Nat.le_of_ble_eq_true rfl), (Nat.le_of_ble_eq_true rfl)⟩ rfl (Nat.le_of_ble_eq_true rfl) hl.1 ⟨Nat.zero_le _, Nat.zero_le _⟩ dX8_counted_68 rfl (fun H locs hG => ?_)
  exact gg_iret F hG rfl rfl rfl dX8_counted_71
set_option maxRecDepth 100000 in
set_option maxHeartbeats 4000000 in
theorem c_X8_counted_3 (Z : gZ) (l : Launch) (AD : Nat → Nat) (M : St) (n : Nat) (hn : 16 ≤ n) (ns nm : Nat) (hN : okN M ns nm) : gM Z l yX8_counted cX8_counted 4 (some .int) ({ frames := 1, cells := 0, slots := 0, locals := 23 } : Room) [.ref (AD 0), .int (nI 3)] (wR Z AD M n) (some (.int (tcR M ns nm 3))) (wR Z AD M n) 0 0 := by
  refine gM_of (by decide +kernel) (Nat.le_of_ble_eq_true rfl) ?_
  intro pP eE sS mI aA bB mE cC A F hname hG ls hl
  have hx := F.1
  have hb := F.2.1
  have hl : lv_has ls 4 [(0, .ref (AD 0)), (1, .int (nI 3))] := hl
  have hns2 := hN.2.1
  have hnm2 := hN.2.2.2.1
  refine lv_iconst (v := 0) hx hb dX8_counted_0 (by decide) ?_
  refine lv_istore_n (lv' := [(2, .int 0), (0, .ref (AD 0)), (1, .int (nI 3))]) hx hb dX8_counted_1 rfl hl (by decide) rfl (fun ls hl => ?_)
  refine lv_iload_n hx hb dX8_counted_2 rfl (lv_at hl 2 rfl) ?_
  refine lv_tableIn (off := 69) (tgt := 72) hx hb dX8_counted_3 (by decide) (by decide) (by decide) (by decide) ?_
  refine lv_aload_n hx hb dX8_counted_72 rfl (lv_at hl 1 rfl) ?_
  refine gg_get F hG (ci := 8) (v := .int (nI nm)) 2 gcX8 rfl (gR_model hn) (by decide) w4_78 (congrArg (fun z => some (Value.int z)) hN.2.2.1) dX8_counted_73 ?_
  exact gg_iret F hG rfl rfl rfl dX8_counted_76
set_option maxRecDepth 100000 in
set_option maxHeartbeats 4000000 in
theorem c_X8_counted_4 (Z : gZ) (l : Launch) (AD : Nat → Nat) (M : St) (n : Nat) (hn : 16 ≤ n) (ns nm : Nat) (hN : okN M ns nm) : gM Z l yX8_counted cX8_counted 4 (some .int) ({ frames := 1, cells := 0, slots := 0, locals := 23 } : Room) [.ref (AD 0), .int (nI 4)] (wR Z AD M n) (some (.int (tcR M ns nm 4))) (wR Z AD M n) 0 0 := by
  refine gM_of (by decide +kernel) (Nat.le_of_ble_eq_true rfl) ?_
  intro pP eE sS mI aA bB mE cC A F hname hG ls hl
  have hx := F.1
  have hb := F.2.1
  have hl : lv_has ls 4 [(0, .ref (AD 0)), (1, .int (nI 4))] := hl
  have hns2 := hN.2.1
  have hnm2 := hN.2.2.2.1
  refine lv_iconst (v := 0) hx hb dX8_counted_0 (by decide) ?_
  refine lv_istore_n (lv' := [(2, .int 0), (0, .ref (AD 0)), (1, .int (nI 4))]) hx hb dX8_counted_1 rfl hl (by decide) rfl (fun ls hl => ?_)
  refine lv_iload_n hx hb dX8_counted_2 rfl (lv_at hl 2 rfl) ?_
  refine lv_tableIn (off := 74) (tgt := 77) hx hb dX8_counted_3 (by decide) (by decide) (by decide) (by decide) ?_
  refine lv_iconst (v := nI 0) hx hb dX8_counted_77 rfl ?_
  refine lv_istore_n (lv' := [(3, .int (nI 0)), (2, .int 0), (0, .ref (AD 0)), (1, .int (nI 4))]) hx hb dX8_counted_78 rfl hl (by decide) rfl (fun ls hl => ?_)
  have loop79 : ∀ (fuQ i : Nat), i ≤ nm → nm + 1 ≤ i + fuQ → ∀ (H : Heap) (locs : List Loc), gG Z A sS (wR Z AD M n) H locs → ∀ ls : Array Slot, lv_has ls 4 [(0, .ref (AD 0)), (1, .int (nI 4)), (2, .int (earR M i)), (3, .int (nI i))] → W pP l eE ({ frames := 1, cells := 0, slots := 0, locals := 23 } : Room) sS mI aA bB mE cC H locs 0 0 (MQ bB (gQ Z A (some (.int (tcR M ns nm 4))) (wR Z AD M n)) aA sS 0 0 A) (F0 mI 79 ls []) := by
    intro fuQ
    induction fuQ with
    | zero =>
      intro i h1 h2
      exact absurd h2 (by omega)
    | succ fuQ ih79 =>
      intro i hleQ hfuQ H locs hG ls hl
      by_cases hlt : i < nm
      · refine lv_iload_n hx hb dX8_counted_79 rfl (lv_at hl 3 rfl) ?_
        refine lv_aload_n hx hb dX8_counted_80 rfl (lv_at hl 0 rfl) ?_
        refine gg_get F hG (ci := 8) (v := .int (nI nm)) 2 gcX8 rfl (gR_model hn) (by decide) w4_78 (congrArg (fun z => some (Value.int z)) hN.2.2.1) dX8_counted_81 ?_
        refine lv_icmp_ge (tgt := 102) hx hb dX8_counted_84 (by decide) (fun h84 => absurd h84 (nI_ge hlt (by omega))) (fun h84 => ?_)
        refine lv_iload_n hx hb dX8_counted_87 rfl (lv_at hl 2 rfl) ?_
        refine lv_aload_n hx hb dX8_counted_88 rfl (lv_at hl 0 rfl) ?_
        refine gg_get F hG (ci := 8) (v := .ref (AD 5)) 7 gcX8 rfl (gR_model hn) (by decide) w4_85 rfl dX8_counted_89 ?_
        refine lv_iload_n hx hb dX8_counted_92 rfl (lv_at hl 3 rfl) ?_
        refine gg_ialdN F hG i (gR_ears hn) rfl (by omega) (by omega) dX8_counted_93 ?_
        refine lv_iadd hx hb dX8_counted_94 ?_
        refine lv_istore_n (lv' := [(2, .int ((earR M i) + (M 7 0 i))), (0, .ref (AD 0)), (1, .int (nI 4)), (3, .int (nI i))]) hx hb dX8_counted_95 rfl hl (by decide) rfl (fun ls hl => ?_)
        refine lv_iinc (v := nI (i + 1)) (lv' := [(3, .int (nI (i + 1))), (2, .int ((earR M i) + (M 7 0 i))), (0, .ref (AD 0)), (1, .int (nI 4))]) hx hb dX8_counted_96 hl (k := 3) rfl (nI_1 _) (by decide) rfl (fun ls hl => ?_)
        refine lv_goto (tgt := 79) hx hb dX8_counted_99 (by decide) ?_
        exact ih79 (i + 1) (by omega) (by omega) _ _ hG ls (lv_sub hl [2, 3, 1, 0] rfl)
      · have hN : nm = i := by omega
        subst hN
        refine lv_iload_n hx hb dX8_counted_79 rfl (lv_at hl 3 rfl) ?_
        refine lv_aload_n hx hb dX8_counted_80 rfl (lv_at hl 0 rfl) ?_
        refine gg_get F hG (ci := 8) (v := .int (nI nm)) 2 gcX8 rfl (gR_model hn) (by decide) w4_78 (congrArg (fun z => some (Value.int z)) hN.2.2.1) dX8_counted_81 ?_
        refine lv_icmp_ge (tgt := 102) hx hb dX8_counted_84 (by decide) (fun h84 => ?_) (fun h84 => absurd (nI_le (Nat.le_refl _) (by omega)) h84)
        refine lv_iload_n hx hb dX8_counted_102 rfl (lv_at hl 2 rfl) ?_
        exact gg_iret F hG rfl rfl rfl dX8_counted_103
  exact loop79 (nm + 1) 0 (Nat.zero_le _) (by omega) _ _ hG ls (lv_sub hl [2, 3, 1, 0] rfl)
set_option maxRecDepth 100000 in
set_option maxHeartbeats 4000000 in
theorem c_X8_counted_5 (Z : gZ) (l : Launch) (AD : Nat → Nat) (M : St) (n : Nat) (hn : 16 ≤ n) (ns nm : Nat) (hN : okN M ns nm) : gM Z l yX8_counted cX8_counted 4 (some .int) ({ frames := 1, cells := 0, slots := 0, locals := 23 } : Room) [.ref (AD 0), .int (nI 5)] (wR Z AD M n) (some (.int (tcR M ns nm 5))) (wR Z AD M n) 0 0 := by
  refine gM_of (by decide +kernel) (Nat.le_of_ble_eq_true rfl) ?_
  intro pP eE sS mI aA bB mE cC A F hname hG ls hl
  have hx := F.1
  have hb := F.2.1
  have hl : lv_has ls 4 [(0, .ref (AD 0)), (1, .int (nI 5))] := hl
  have hns2 := hN.2.1
  have hnm2 := hN.2.2.2.1
  refine lv_iconst (v := 0) hx hb dX8_counted_0 (by decide) ?_
  refine lv_istore_n (lv' := [(2, .int 0), (0, .ref (AD 0)), (1, .int (nI 5))]) hx hb dX8_counted_1 rfl hl (by decide) rfl (fun ls hl => ?_)
  refine lv_iload_n hx hb dX8_counted_2 rfl (lv_at hl 2 rfl) ?_
  refine lv_tableIn (off := 101) (tgt := 104) hx hb dX8_counted_3 (by decide) (by decide) (by decide) (by decide) ?_
  refine lv_aload_n hx hb dX8_counted_104 rfl (lv_at hl 1 rfl) ?_
  refine gg_get F hG (ci := 8) (v := .ref (AD (6 + 0))) 8 gcX8 rfl (gR_model hn) (by decide) w4_87 rfl dX8_counted_105 ?_
  refine gg_getN F hG (ci := 7) (v := .int (M 10 0 0)) 2 gcX7 rfl (gR_state (by omega) hn) (by decide) wn_40 rfl dX8_counted_108 ?_
  exact gg_iret F hG rfl rfl rfl dX8_counted_111
set_option maxRecDepth 100000 in
set_option maxHeartbeats 4000000 in
theorem c_X8_counted_6 (Z : gZ) (l : Launch) (AD : Nat → Nat) (M : St) (n : Nat) (hn : 16 ≤ n) (ns nm : Nat) (hN : okN M ns nm) : gM Z l yX8_counted cX8_counted 4 (some .int) ({ frames := 1, cells := 0, slots := 0, locals := 23 } : Room) [.ref (AD 0), .int (nI 6)] (wR Z AD M n) (some (.int (tcR M ns nm 6))) (wR Z AD M n) 0 0 := by
  refine gM_of (by decide +kernel) (Nat.le_of_ble_eq_true rfl) ?_
  intro pP eE sS mI aA bB mE cC A F hname hG ls hl
  have hx := F.1
  have hb := F.2.1
  have hl : lv_has ls 4 [(0, .ref (AD 0)), (1, .int (nI 6))] := hl
  have hns2 := hN.2.1
  have hnm2 := hN.2.2.2.1
  refine lv_iconst (v := 0) hx hb dX8_counted_0 (by decide) ?_
  refine lv_istore_n (lv' := [(2, .int 0), (0, .ref (AD 0)), (1, .int (nI 6))]) hx hb dX8_counted_1 rfl hl (by decide) rfl (fun ls hl => ?_)
  refine lv_iload_n hx hb dX8_counted_2 rfl (lv_at hl 2 rfl) ?_
  refine lv_tableIn (off := 109) (tgt := 112) hx hb dX8_counted_3 (by decide) (by decide) (by decide) (by decide) ?_
  refine lv_aload_n hx hb dX8_counted_112 rfl (lv_at hl 1 rfl) ?_
  refine gg_get F hG (ci := 8) (v := .ref (AD (6 + 0))) 8 gcX8 rfl (gR_model hn) (by decide) w4_87 rfl dX8_counted_113 ?_
  refine gg_getN F hG (ci := 7) (v := .int (M 11 0 0)) 3 gcX7 rfl (gR_state (by omega) hn) (by decide) wn_41 rfl dX8_counted_116 ?_
  exact gg_iret F hG rfl rfl rfl dX8_counted_119
set_option maxRecDepth 100000 in
set_option maxHeartbeats 4000000 in
theorem c_X8_counted_7 (Z : gZ) (l : Launch) (AD : Nat → Nat) (M : St) (n : Nat) (hn : 16 ≤ n) (ns nm : Nat) (hN : okN M ns nm) : gM Z l yX8_counted cX8_counted 4 (some .int) ({ frames := 1, cells := 0, slots := 0, locals := 23 } : Room) [.ref (AD 0), .int (nI 7)] (wR Z AD M n) (some (.int (tcR M ns nm 7))) (wR Z AD M n) 0 0 := by
  refine gM_of (by decide +kernel) (Nat.le_of_ble_eq_true rfl) ?_
  intro pP eE sS mI aA bB mE cC A F hname hG ls hl
  have hx := F.1
  have hb := F.2.1
  have hl : lv_has ls 4 [(0, .ref (AD 0)), (1, .int (nI 7))] := hl
  have hns2 := hN.2.1
  have hnm2 := hN.2.2.2.1
  refine lv_iconst (v := 0) hx hb dX8_counted_0 (by decide) ?_
  refine lv_istore_n (lv' := [(2, .int 0), (0, .ref (AD 0)), (1, .int (nI 7))]) hx hb dX8_counted_1 rfl hl (by decide) rfl (fun ls hl => ?_)
  refine lv_iload_n hx hb dX8_counted_2 rfl (lv_at hl 2 rfl) ?_
  refine lv_tableOut (tgt := 120) hx hb dX8_counted_3 (by decide) (by decide) ?_
  refine lv_aload_n hx hb dX8_counted_120 rfl (lv_at hl 1 rfl) ?_
  refine gg_get F hG (ci := 8) (v := .ref (AD (6 + 0))) 8 gcX8 rfl (gR_model hn) (by decide) w4_87 rfl dX8_counted_121 ?_
  refine gg_getN F hG (ci := 7) (v := .int (M 9 0 0)) 1 gcX7 rfl (gR_state (by omega) hn) (by decide) wn_39 rfl dX8_counted_124 ?_
  exact gg_iret F hG rfl rfl rfl dX8_counted_127
theorem c_X8_counted (Z : gZ) (l : Launch) (AD : Nat → Nat) (M : St) (n : Nat) (hn : 16 ≤ n) (ns nm : Nat) (hN : okN M ns nm) (v : Nat) (hv : v < 8) : gM Z l yX8_counted cX8_counted 4 (some .int) ({ frames := 1, cells := 0, slots := 0, locals := 23 } : Room) [.ref (AD 0), .int (nI v)] (wR Z AD M n) (some (.int (tcR M ns nm v))) (wR Z AD M n) 0 0 := by
  match v, hv with
  | 0, _ => exact c_X8_counted_0 Z l AD M n hn ns nm hN
  | 1, _ => exact c_X8_counted_1 Z l AD M n hn ns nm hN
  | 2, _ => exact c_X8_counted_2 Z l AD M n hn ns nm hN
  | 3, _ => exact c_X8_counted_3 Z l AD M n hn ns nm hN
  | 4, _ => exact c_X8_counted_4 Z l AD M n hn ns nm hN
  | 5, _ => exact c_X8_counted_5 Z l AD M n hn ns nm hN
  | 6, _ => exact c_X8_counted_6 Z l AD M n hn ns nm hN
  | 7, _ => exact c_X8_counted_7 Z l AD M n hn ns nm hN
  | q + 8, h => exact absurd h (by omega)
set_option maxRecDepth 100000 in
set_option maxHeartbeats 4000000 in
theorem c_X8_station (Z : gZ) (l : Launch) (AD : Nat → Nat) (M : St) (n : Nat) (hn : 16 ≤ n) (ns nm k v : Nat) (hN : okN M ns nm) (hX : okX M 0 nm) (hk : k < ns) (hv : v < 6) : gM Z l yX8_station cX8_station 3 (some .int) ({ frames := 3, cells := 0, slots := 0, locals := 69 } : Room) [.ref (AD 0), .int (nI k), .int (nI v)] (wR Z AD M n) (some (.int (tsR (mu M 1 0 0 0) ns nm k v))) (wR Z AD (mu M 1 0 0 0) n) 0 0 := by
  refine gM_of (by decide +kernel) (Nat.le_of_ble_eq_true rfl) ?_
  intro pP eE sS mI aA bB mE cC A F hname hG ls hl
  have hx := F.1
  have hb := F.2.1
  have hl : lv_has ls 3 [(0, .ref (AD 0)), (1, .int (nI k)), (2, .int (nI v))] := hl
  have hns2 := hN.2.1
  have hnm2 := hN.2.2.2.1
  refine lv_aload_n hx hb dX8_station_0 rfl (lv_at hl 0 rfl) ?_
  refine lv_iconst (v := 0) hx hb dX8_station_1 (by decide) ?_
  refine gg_put F hG (ci := 8) 0 gcX8 rfl (gR_model hn) (by decide) w4_75 rfl rfl rfl (Nat.le_of_ble_eq_true rfl) (pR_1) dX8_station_2 (fun H locs hG => ?_)
  have hG : gG Z A sS (wR Z AD (mu M 1 0 0 0) n) H locs := hG
  refine lv_aload_n hx hb dX8_station_5 rfl (lv_at hl 0 rfl) ?_
  refine lv_iload_n hx hb dX8_station_6 rfl (lv_at hl 1 rfl) ?_
  refine gg_callV F hG (ci := 8) (As := [.int (nI k)]) (rest := []) (c_X8_isStation Z l AD (mu M 1 0 0 0) _ hn _ _ k hN hk) kY_X8_isStation kV_X8_isStation (gR_model hn) rfl rfl w4_156 rfl ⟨rfl, rfl⟩ ⟨(Nat.le_of_ble_eq_true rfl), (Nat.le_of_ble_eq_true rfl)⟩ rfl (Nat.le_of_ble_eq_true rfl) hl.1 ⟨Nat.zero_le _, Nat.zero_le _⟩ dX8_station_7 rfl (fun H locs hG => ?_)
  refine lv_if_eq (tgt := 31) hx hb dX8_station_10 (by decide) (fun h10 => absurd h10 (by decide)) (fun h10 => ?_)
  refine lv_iload_n hx hb dX8_station_13 rfl (lv_at hl 2 rfl) ?_
  refine lv_iconst (v := 0) hx hb dX8_station_14 (by decide) ?_
  refine lv_iconst (v := 5) hx hb dX8_station_15 (by decide) ?_
  refine gg_callS F hG (As := [.int (nI v), .int 0, .int 5]) (rest := []) (c_X8_isIn Z l (nI v) 0 5 _) kY_X8_isIn kV_X8_isIn w4_118 rfl ⟨rfl, rfl⟩ ⟨(Nat.le_of_ble_eq_true rfl), (Nat.le_of_ble_eq_true rfl)⟩ rfl (Nat.le_of_ble_eq_true rfl) hl.1 ⟨Nat.zero_le _, Nat.zero_le _⟩ dX8_station_16 rfl (fun H locs hG => ?_)
  rw [show (wthF (nI v) 0 5 : Int32) = 1 from wth_1 (nI_pos (by omega)) (nI_nlt (a := 5) (b := v) (by omega) (by omega))]
  refine lv_if_eq (tgt := 31) hx hb dX8_station_19 (by decide) (fun h19 => absurd h19 (by decide)) (fun h19 => ?_)
  refine lv_aload_n hx hb dX8_station_22 rfl (lv_at hl 0 rfl) ?_
  refine lv_iload_n hx hb dX8_station_23 rfl (lv_at hl 1 rfl) ?_
  refine lv_iload_n hx hb dX8_station_24 rfl (lv_at hl 2 rfl) ?_
  refine gg_callV F hG (ci := 8) (As := [.int (nI k), .int (nI v)]) (rest := []) (c_X8_stationTold Z l AD (mu M 1 0 0 0) _ hn ns nm k hN hX hk v hv) kY_X8_stationTold kV_X8_stationTold (gR_model hn) rfl rfl w4_160 rfl ⟨rfl, rfl⟩ ⟨(Nat.le_of_ble_eq_true rfl), (Nat.le_of_ble_eq_true rfl)⟩ rfl (Nat.le_of_ble_eq_true rfl) hl.1 ⟨Nat.zero_le _, Nat.zero_le _⟩ dX8_station_25 rfl (fun H locs hG => ?_)
  refine lv_goto (tgt := 36) hx hb dX8_station_28 (by decide) ?_
  exact gg_iret F hG rfl rfl rfl dX8_station_36
set_option maxRecDepth 100000 in
set_option maxHeartbeats 4000000 in
theorem c_X8_station_s (Z : gZ) (l : Launch) (AD : Nat → Nat) (M : St) (n : Nat) (hn : 16 ≤ n) (ns nm : Nat) (hN : okN M ns nm) (x y : Int32) (hxo : x < 0 ∨ nI ns ≤ x) : gM Z l yX8_station cX8_station 3 (some .int) ({ frames := 2, cells := 0, slots := 0, locals := 43 } : Room) [.ref (AD 0), .int x, .int y] (wR Z AD M n) (some (.int 0)) (wR Z AD (mu (mu M 1 0 0 0) 1 0 0 1) n) 0 0 := by
  refine gM_of (by decide +kernel) (Nat.le_of_ble_eq_true rfl) ?_
  intro pP eE sS mI aA bB mE cC A F hname hG ls hl
  have hx := F.1
  have hb := F.2.1
  have hl : lv_has ls 3 [(0, .ref (AD 0)), (1, .int x), (2, .int y)] := hl
  refine lv_aload_n hx hb dX8_station_0 rfl (lv_at hl 0 rfl) ?_
  refine lv_iconst (v := 0) hx hb dX8_station_1 (by decide) ?_
  refine gg_put F hG (ci := 8) 0 gcX8 rfl (gR_model hn) (by decide) w4_75 rfl rfl rfl (Nat.le_of_ble_eq_true rfl) (pR_1) dX8_station_2 (fun H locs hG => ?_)
  have hG : gG Z A sS (wR Z AD (mu M 1 0 0 0) n) H locs := hG
  refine lv_aload_n hx hb dX8_station_5 rfl (lv_at hl 0 rfl) ?_
  refine lv_iload_n hx hb dX8_station_6 rfl (lv_at hl 1 rfl) ?_
  refine gg_callV F hG (ci := 8) (As := [.int x]) (rest := []) (c_X8_isStation_no Z l AD (mu M 1 0 0 0) _ hn _ _ hN x hxo) kY_X8_isStation kV_X8_isStation (gR_model hn) rfl rfl w4_156 rfl ⟨rfl, rfl⟩ ⟨(Nat.le_of_ble_eq_true rfl), (Nat.le_of_ble_eq_true rfl)⟩ rfl (Nat.le_of_ble_eq_true rfl) hl.1 ⟨Nat.zero_le _, Nat.zero_le _⟩ dX8_station_7 rfl (fun H locs hG => ?_)
  refine lv_if_eq (tgt := 31) hx hb dX8_station_10 (by decide) (fun h10 => ?_) (fun h10 => absurd rfl h10)
  refine lv_aload_n hx hb dX8_station_31 rfl (lv_at hl 0 rfl) ?_
  refine lv_iconst (v := 1) hx hb dX8_station_32 (by decide) ?_
  refine gg_callV F hG (ci := 8) (As := [.int 1]) (rest := []) (c_X8_no Z l AD (mu M 1 0 0 0) _ hn 1) kY_X8_no kV_X8_no (gR_model hn) rfl rfl w4_121 rfl ⟨rfl, rfl⟩ ⟨(Nat.le_of_ble_eq_true rfl), (Nat.le_of_ble_eq_true rfl)⟩ rfl (Nat.le_of_ble_eq_true rfl) hl.1 ⟨Nat.zero_le _, Nat.zero_le _⟩ dX8_station_33 rfl (fun H locs hG => ?_)
  exact gg_iret F hG rfl rfl rfl dX8_station_36
set_option maxRecDepth 100000 in
set_option maxHeartbeats 4000000 in
theorem c_X8_station_w (Z : gZ) (l : Launch) (AD : Nat → Nat) (M : St) (n : Nat) (hn : 16 ≤ n) (ns nm k : Nat) (hN : okN M ns nm) (hk : k < ns) (y : Int32) (hyo : wthF y 0 5 = 0) : gM Z l yX8_station cX8_station 3 (some .int) ({ frames := 2, cells := 0, slots := 0, locals := 43 } : Room) [.ref (AD 0), .int (nI k), .int y] (wR Z AD M n) (some (.int 0)) (wR Z AD (mu (mu M 1 0 0 0) 1 0 0 1) n) 0 0 := by
  refine gM_of (by decide +kernel) (Nat.le_of_ble_eq_true rfl) ?_
  intro pP eE sS mI aA bB mE cC A F hname hG ls hl
  have hx := F.1
  have hb := F.2.1
  have hl : lv_has ls 3 [(0, .ref (AD 0)), (1, .int (nI k)), (2, .int y)] := hl
  refine lv_aload_n hx hb dX8_station_0 rfl (lv_at hl 0 rfl) ?_
  refine lv_iconst (v := 0) hx hb dX8_station_1 (by decide) ?_
  refine gg_put F hG (ci := 8) 0 gcX8 rfl (gR_model hn) (by decide) w4_75 rfl rfl rfl (Nat.le_of_ble_eq_true rfl) (pR_1) dX8_station_2 (fun H locs hG => ?_)
  have hG : gG Z A sS (wR Z AD (mu M 1 0 0 0) n) H locs := hG
  refine lv_aload_n hx hb dX8_station_5 rfl (lv_at hl 0 rfl) ?_
  refine lv_iload_n hx hb dX8_station_6 rfl (lv_at hl 1 rfl) ?_
  refine gg_callV F hG (ci := 8) (As := [.int (nI k)]) (rest := []) (c_X8_isStation Z l AD (mu M 1 0 0 0) _ hn _ _ k hN hk) kY_X8_isStation kV_X8_isStation (gR_model hn) rfl rfl w4_156 rfl ⟨rfl, rfl⟩ ⟨(Nat.le_of_ble_eq_true rfl), (Nat.le_of_ble_eq_true rfl)⟩ rfl (Nat.le_of_ble_eq_true rfl) hl.1 ⟨Nat.zero_le _, Nat.zero_le _⟩ dX8_station_7 rfl (fun H locs hG => ?_)
  refine lv_if_eq (tgt := 31) hx hb dX8_station_10 (by decide) (fun h10 => absurd h10 (by decide)) (fun h10 => ?_)
  refine lv_iload_n hx hb dX8_station_13 rfl (lv_at hl 2 rfl) ?_
  refine lv_iconst (v := 0) hx hb dX8_station_14 (by decide) ?_
  refine lv_iconst (v := 5) hx hb dX8_station_15 (by decide) ?_
  refine gg_callS F hG (As := [.int y, .int 0, .int 5]) (rest := []) (c_X8_isIn Z l y 0 5 _) kY_X8_isIn kV_X8_isIn w4_118 rfl ⟨rfl, rfl⟩ ⟨(Nat.le_of_ble_eq_true rfl), (Nat.le_of_ble_eq_true rfl)⟩ rfl (Nat.le_of_ble_eq_true rfl) hl.1 ⟨Nat.zero_le _, Nat.zero_le _⟩ dX8_station_16 rfl (fun H locs hG => ?_)
  rw [show (wthF y 0 5 : Int32) = 0 from hyo]
  refine lv_if_eq (tgt := 31) hx hb dX8_station_19 (by decide) (fun h19 => ?_) (fun h19 => absurd rfl h19)
  refine lv_aload_n hx hb dX8_station_31 rfl (lv_at hl 0 rfl) ?_
  refine lv_iconst (v := 1) hx hb dX8_station_32 (by decide) ?_
  refine gg_callV F hG (ci := 8) (As := [.int 1]) (rest := []) (c_X8_no Z l AD (mu M 1 0 0 0) _ hn 1) kY_X8_no kV_X8_no (gR_model hn) rfl rfl w4_121 rfl ⟨rfl, rfl⟩ ⟨(Nat.le_of_ble_eq_true rfl), (Nat.le_of_ble_eq_true rfl)⟩ rfl (Nat.le_of_ble_eq_true rfl) hl.1 ⟨Nat.zero_le _, Nat.zero_le _⟩ dX8_station_33 rfl (fun H locs hG => ?_)
  exact gg_iret F hG rfl rfl rfl dX8_station_36
set_option maxRecDepth 100000 in
set_option maxHeartbeats 4000000 in
theorem c_X8_member (Z : gZ) (l : Launch) (AD : Nat → Nat) (M : St) (n : Nat) (hn : 16 ≤ n) (ns nm i v : Nat) (hN : okN M ns nm) (hX : okX M 0 nm) (hi : i < nm) (hv : v < 10) : gM Z l yX8_member cX8_member 3 (some .int) ({ frames := 3, cells := 0, slots := 0, locals := 70 } : Room) [.ref (AD 0), .int (nI i), .int (nI v)] (wR Z AD M n) (some (.int (tmR (mu M 1 0 0 0) ns i v))) (wR Z AD (mu M 1 0 0 0) n) 0 0 := by
  refine gM_of (by decide +kernel) (Nat.le_of_ble_eq_true rfl) ?_
  intro pP eE sS mI aA bB mE cC A F hname hG ls hl
  have hx := F.1
  have hb := F.2.1
  have hl : lv_has ls 3 [(0, .ref (AD 0)), (1, .int (nI i)), (2, .int (nI v))] := hl
  have hns2 := hN.2.1
  have hnm2 := hN.2.2.2.1
  refine lv_aload_n hx hb dX8_member_0 rfl (lv_at hl 0 rfl) ?_
  refine lv_iconst (v := 0) hx hb dX8_member_1 (by decide) ?_
  refine gg_put F hG (ci := 8) 0 gcX8 rfl (gR_model hn) (by decide) w4_75 rfl rfl rfl (Nat.le_of_ble_eq_true rfl) (pR_1) dX8_member_2 (fun H locs hG => ?_)
  have hG : gG Z A sS (wR Z AD (mu M 1 0 0 0) n) H locs := hG
  refine lv_aload_n hx hb dX8_member_5 rfl (lv_at hl 0 rfl) ?_
  refine lv_iload_n hx hb dX8_member_6 rfl (lv_at hl 1 rfl) ?_
  refine gg_callV F hG (ci := 8) (As := [.int (nI i)]) (rest := []) (c_X8_isMember Z l AD (mu M 1 0 0 0) _ hn _ _ i hN hi) kY_X8_isMember kV_X8_isMember (gR_model hn) rfl rfl w4_136 rfl ⟨rfl, rfl⟩ ⟨(Nat.le_of_ble_eq_true rfl), (Nat.le_of_ble_eq_true rfl)⟩ rfl (Nat.le_of_ble_eq_true rfl) hl.1 ⟨Nat.zero_le _, Nat.zero_le _⟩ dX8_member_7 rfl (fun H locs hG => ?_)
  refine lv_if_eq (tgt := 32) hx hb dX8_member_10 (by decide) (fun h10 => absurd h10 (by decide)) (fun h10 => ?_)
  refine lv_iload_n hx hb dX8_member_13 rfl (lv_at hl 2 rfl) ?_
  refine lv_iconst (v := 0) hx hb dX8_member_14 (by decide) ?_
  refine lv_bipush (v := 9) hx hb dX8_member_15 (by decide) ?_
  refine gg_callS F hG (As := [.int (nI v), .int 0, .int 9]) (rest := []) (c_X8_isIn Z l (nI v) 0 9 _) kY_X8_isIn kV_X8_isIn w4_118 rfl ⟨rfl, rfl⟩ ⟨(Nat.le_of_ble_eq_true rfl), (Nat.le_of_ble_eq_true rfl)⟩ rfl (Nat.le_of_ble_eq_true rfl) hl.1 ⟨Nat.zero_le _, Nat.zero_le _⟩ dX8_member_17 rfl (fun H locs hG => ?_)
  rw [show (wthF (nI v) 0 9 : Int32) = 1 from wth_1 (nI_pos (by omega)) (nI_nlt (a := 9) (b := v) (by omega) (by omega))]
  refine lv_if_eq (tgt := 32) hx hb dX8_member_20 (by decide) (fun h20 => absurd h20 (by decide)) (fun h20 => ?_)
  refine lv_aload_n hx hb dX8_member_23 rfl (lv_at hl 0 rfl) ?_
  refine lv_iload_n hx hb dX8_member_24 rfl (lv_at hl 1 rfl) ?_
  refine lv_iload_n hx hb dX8_member_25 rfl (lv_at hl 2 rfl) ?_
  refine gg_callV F hG (ci := 8) (As := [.int (nI i), .int (nI v)]) (rest := []) (c_X8_memberTold Z l AD (mu M 1 0 0 0) _ hn ns nm i hN hX hi v hv) kY_X8_memberTold kV_X8_memberTold (gR_model hn) rfl rfl w4_187 rfl ⟨rfl, rfl⟩ ⟨(Nat.le_of_ble_eq_true rfl), (Nat.le_of_ble_eq_true rfl)⟩ rfl (Nat.le_of_ble_eq_true rfl) hl.1 ⟨Nat.zero_le _, Nat.zero_le _⟩ dX8_member_26 rfl (fun H locs hG => ?_)
  refine lv_goto (tgt := 37) hx hb dX8_member_29 (by decide) ?_
  exact gg_iret F hG rfl rfl rfl dX8_member_37
set_option maxRecDepth 100000 in
set_option maxHeartbeats 4000000 in
theorem c_X8_member_m (Z : gZ) (l : Launch) (AD : Nat → Nat) (M : St) (n : Nat) (hn : 16 ≤ n) (ns nm : Nat) (hN : okN M ns nm) (x y : Int32) (hxo : x < 0 ∨ nI nm ≤ x) : gM Z l yX8_member cX8_member 3 (some .int) ({ frames := 2, cells := 0, slots := 0, locals := 43 } : Room) [.ref (AD 0), .int x, .int y] (wR Z AD M n) (some (.int 0)) (wR Z AD (mu (mu M 1 0 0 0) 1 0 0 1) n) 0 0 := by
  refine gM_of (by decide +kernel) (Nat.le_of_ble_eq_true rfl) ?_
  intro pP eE sS mI aA bB mE cC A F hname hG ls hl
  have hx := F.1
  have hb := F.2.1
  have hl : lv_has ls 3 [(0, .ref (AD 0)), (1, .int x), (2, .int y)] := hl
  refine lv_aload_n hx hb dX8_member_0 rfl (lv_at hl 0 rfl) ?_
  refine lv_iconst (v := 0) hx hb dX8_member_1 (by decide) ?_
  refine gg_put F hG (ci := 8) 0 gcX8 rfl (gR_model hn) (by decide) w4_75 rfl rfl rfl (Nat.le_of_ble_eq_true rfl) (pR_1) dX8_member_2 (fun H locs hG => ?_)
  have hG : gG Z A sS (wR Z AD (mu M 1 0 0 0) n) H locs := hG
  refine lv_aload_n hx hb dX8_member_5 rfl (lv_at hl 0 rfl) ?_
  refine lv_iload_n hx hb dX8_member_6 rfl (lv_at hl 1 rfl) ?_
  refine gg_callV F hG (ci := 8) (As := [.int x]) (rest := []) (c_X8_isMember_no Z l AD (mu M 1 0 0 0) _ hn _ _ hN x hxo) kY_X8_isMember kV_X8_isMember (gR_model hn) rfl rfl w4_136 rfl ⟨rfl, rfl⟩ ⟨(Nat.le_of_ble_eq_true rfl), (Nat.le_of_ble_eq_true rfl)⟩ rfl (Nat.le_of_ble_eq_true rfl) hl.1 ⟨Nat.zero_le _, Nat.zero_le _⟩ dX8_member_7 rfl (fun H locs hG => ?_)
  refine lv_if_eq (tgt := 32) hx hb dX8_member_10 (by decide) (fun h10 => ?_) (fun h10 => absurd rfl h10)
  refine lv_aload_n hx hb dX8_member_32 rfl (lv_at hl 0 rfl) ?_
  refine lv_iconst (v := 1) hx hb dX8_member_33 (by decide) ?_
  refine gg_callV F hG (ci := 8) (As := [.int 1]) (rest := []) (c_X8_no Z l AD (mu M 1 0 0 0) _ hn 1) kY_X8_no kV_X8_no (gR_model hn) rfl rfl w4_121 rfl ⟨rfl, rfl⟩ ⟨(Nat.le_of_ble_eq_true rfl), (Nat.le_of_ble_eq_true rfl)⟩ rfl (Nat.le_of_ble_eq_true rfl) hl.1 ⟨Nat.zero_le _, Nat.zero_le _⟩ dX8_member_34 rfl (fun H locs hG => ?_)
  exact gg_iret F hG rfl rfl rfl dX8_member_37
set_option maxRecDepth 100000 in
set_option maxHeartbeats 4000000 in
theorem c_X8_member_w (Z : gZ) (l : Launch) (AD : Nat → Nat) (M : St) (n : Nat) (hn : 16 ≤ n) (ns nm i : Nat) (hN : okN M ns nm) (hi : i < nm) (y : Int32) (hyo : wthF y 0 9 = 0) : gM Z l yX8_member cX8_member 3 (some .int) ({ frames := 2, cells := 0, slots := 0, locals := 43 } : Room) [.ref (AD 0), .int (nI i), .int y] (wR Z AD M n) (some (.int 0)) (wR Z AD (mu (mu M 1 0 0 0) 1 0 0 1) n) 0 0 := by
  refine gM_of (by decide +kernel) (Nat.le_of_ble_eq_true rfl) ?_
  intro pP eE sS mI aA bB mE cC A F hname hG ls hl
  have hx := F.1
  have hb := F.2.1
  have hl : lv_has ls 3 [(0, .ref (AD 0)), (1, .int (nI i)), (2, .int y)] := hl
  refine lv_aload_n hx hb dX8_member_0 rfl (lv_at hl 0 rfl) ?_
  refine lv_iconst (v := 0) hx hb dX8_member_1 (by decide) ?_
  refine gg_put F hG (ci := 8) 0 gcX8 rfl (gR_model hn) (by decide) w4_75 rfl rfl rfl (Nat.le_of_ble_eq_true rfl) (pR_1) dX8_member_2 (fun H locs hG => ?_)
  have hG : gG Z A sS (wR Z AD (mu M 1 0 0 0) n) H locs := hG
  refine lv_aload_n hx hb dX8_member_5 rfl (lv_at hl 0 rfl) ?_
  refine lv_iload_n hx hb dX8_member_6 rfl (lv_at hl 1 rfl) ?_
  refine gg_callV F hG (ci := 8) (As := [.int (nI i)]) (rest := []) (c_X8_isMember Z l AD (mu M 1 0 0 0) _ hn _ _ i hN hi) kY_X8_isMember kV_X8_isMember (gR_model hn) rfl rfl w4_136 rfl ⟨rfl, rfl⟩ ⟨(Nat.le_of_ble_eq_true rfl), (Nat.le_of_ble_eq_true rfl)⟩ rfl (Nat.le_of_ble_eq_true rfl) hl.1 ⟨Nat.zero_le _, Nat.zero_le _⟩ dX8_member_7 rfl (fun H locs hG => ?_)
  refine lv_if_eq (tgt := 32) hx hb dX8_member_10 (by decide) (fun h10 => absurd h10 (by decide)) (fun h10 => ?_)
  refine lv_iload_n hx hb dX8_member_13 rfl (lv_at hl 2 rfl) ?_
  refine lv_iconst (v := 0) hx hb dX8_member_14 (by decide) ?_
  refine lv_bipush (v := 9) hx hb dX8_member_15 (by decide) ?_
  refine gg_callS F hG (As := [.int y, .int 0, .int 9]) (rest := []) (c_X8_isIn Z l y 0 9 _) kY_X8_isIn kV_X8_isIn w4_118 rfl ⟨rfl, rfl⟩ ⟨(Nat.le_of_ble_eq_true rfl), (Nat.le_of_ble_eq_true rfl)⟩ rfl (Nat.le_of_ble_eq_true rfl) hl.1 ⟨Nat.zero_le _, Nat.zero_le _⟩ dX8_member_17 rfl (fun H locs hG => ?_)
  rw [show (wthF y 0 9 : Int32) = 0 from hyo]
  refine lv_if_eq (tgt := 32) hx hb dX8_member_20 (by decide) (fun h20 => ?_) (fun h20 => absurd rfl h20)
  refine lv_aload_n hx hb dX8_member_32 rfl (lv_at hl 0 rfl) ?_
  refine lv_iconst (v := 1) hx hb dX8_member_33 (by decide) ?_
  refine gg_callV F hG (ci := 8) (As := [.int 1]) (rest := []) (c_X8_no Z l AD (mu M 1 0 0 0) _ hn 1) kY_X8_no kV_X8_no (gR_model hn) rfl rfl w4_121 rfl ⟨rfl, rfl⟩ ⟨(Nat.le_of_ble_eq_true rfl), (Nat.le_of_ble_eq_true rfl)⟩ rfl (Nat.le_of_ble_eq_true rfl) hl.1 ⟨Nat.zero_le _, Nat.zero_le _⟩ dX8_member_34 rfl (fun H locs hG => ?_)
  exact gg_iret F hG rfl rfl rfl dX8_member_37
set_option maxRecDepth 100000 in
set_option maxHeartbeats 4000000 in
theorem c_X8_strength (Z : gZ) (l : Launch) (AD : Nat → Nat) (M : St) (n : Nat) (hn : 16 ≤ n) (ns nm i k : Nat) (hN : okN M ns nm) (hi : i < nm) (hk : k < ns) : gM Z l yX8_strength cX8_strength 3 (some .int) ({ frames := 3, cells := 0, slots := 0, locals := 75 } : Room) [.ref (AD 0), .int (nI i), .int (nI k)] (wR Z AD M n) (some (.int (sgR (mu M 1 0 0 0) ns i k))) (wR Z AD (mu M 1 0 0 0) n) 0 0 := by
  refine gM_of (by decide +kernel) (Nat.le_of_ble_eq_true rfl) ?_
  intro pP eE sS mI aA bB mE cC A F hname hG ls hl
  have hx := F.1
  have hb := F.2.1
  have hl : lv_has ls 3 [(0, .ref (AD 0)), (1, .int (nI i)), (2, .int (nI k))] := hl
  have hns2 := hN.2.1
  have hnm2 := hN.2.2.2.1
  refine lv_aload_n hx hb dX8_strength_0 rfl (lv_at hl 0 rfl) ?_
  refine lv_iconst (v := 0) hx hb dX8_strength_1 (by decide) ?_
  refine gg_put F hG (ci := 8) 0 gcX8 rfl (gR_model hn) (by decide) w4_75 rfl rfl rfl (Nat.le_of_ble_eq_true rfl) (pR_1) dX8_strength_2 (fun H locs hG => ?_)
  have hG : gG Z A sS (wR Z AD (mu M 1 0 0 0) n) H locs := hG
  refine lv_aload_n hx hb dX8_strength_5 rfl (lv_at hl 0 rfl) ?_
  refine lv_iload_n hx hb dX8_strength_6 rfl (lv_at hl 1 rfl) ?_
  refine gg_callV F hG (ci := 8) (As := [.int (nI i)]) (rest := []) (c_X8_isMember Z l AD (mu M 1 0 0 0) _ hn _ _ i hN hi) kY_X8_isMember kV_X8_isMember (gR_model hn) rfl rfl w4_136 rfl ⟨rfl, rfl⟩ ⟨(Nat.le_of_ble_eq_true rfl), (Nat.le_of_ble_eq_true rfl)⟩ rfl (Nat.le_of_ble_eq_true rfl) hl.1 ⟨Nat.zero_le _, Nat.zero_le _⟩ dX8_strength_7 rfl (fun H locs hG => ?_)
  refine lv_if_eq (tgt := 21) hx hb dX8_strength_10 (by decide) (fun h10 => absurd h10 (by decide)) (fun h10 => ?_)
  refine lv_aload_n hx hb dX8_strength_13 rfl (lv_at hl 0 rfl) ?_
  refine lv_iload_n hx hb dX8_strength_14 rfl (lv_at hl 2 rfl) ?_
  refine gg_callV F hG (ci := 8) (As := [.int (nI k)]) (rest := []) (c_X8_isStation Z l AD (mu M 1 0 0 0) _ hn _ _ k hN hk) kY_X8_isStation kV_X8_isStation (gR_model hn) rfl rfl w4_156 rfl ⟨rfl, rfl⟩ ⟨(Nat.le_of_ble_eq_true rfl), (Nat.le_of_ble_eq_true rfl)⟩ rfl (Nat.le_of_ble_eq_true rfl) hl.1 ⟨Nat.zero_le _, Nat.zero_le _⟩ dX8_strength_15 rfl (fun H locs hG => ?_)
  refine lv_if_ne (tgt := 27) hx hb dX8_strength_18 (by decide) (fun h18 => ?_) (fun h18 => absurd h18 (by decide))
  refine lv_aload_n hx hb dX8_strength_27 rfl (lv_at hl 0 rfl) ?_
  refine lv_aload_n hx hb dX8_strength_28 rfl (lv_at hl 0 rfl) ?_
  refine gg_get F hG (ci := 8) (v := .ref (AD (6 + 0))) 8 gcX8 rfl (gR_model hn) (by decide) w4_87 rfl dX8_strength_29 ?_
  refine gg_getN F hG (ci := 7) (v := .int (M 8 0 0)) 0 gcX7 rfl (gR_state (by omega) hn) (by decide) wn_38 rfl dX8_strength_32 ?_
  refine gg_callV F hG (ci := 8) (As := [.int (M 8 0 0)]) (rest := []) (c_X8_onAir Z l AD (mu M 1 0 0 0) _ hn _ _ hN (M 8 0 0)) kY_X8_onAir kV_X8_onAir (gR_model hn) rfl rfl w4_164 rfl ⟨rfl, rfl⟩ ⟨(Nat.le_of_ble_eq_true rfl), (Nat.le_of_ble_eq_true rfl)⟩ rfl (Nat.le_of_ble_eq_true rfl) hl.1 ⟨Nat.zero_le _, Nat.zero_le _⟩ dX8_strength_35 rfl (fun H locs hG => ?_)
  refine lv_iload_n hx hb dX8_strength_38 rfl (lv_at hl 2 rfl) ?_
  refine lv_ishr hx hb dX8_strength_39 ?_
  refine lv_iconst (v := 1) hx hb dX8_strength_40 (by decide) ?_
  refine lv_iand hx hb dX8_strength_41 ?_
  rw [show (((onR (mu M 1 0 0 0) (M 8 0 0) ns) >>> ((nI k) &&& 31)) &&& 1 : Int32) = bitR (onR (mu M 1 0 0 0) (M 8 0 0) ns) k from rfl]
  refine lv_if_ne (tgt := 49) hx hb dX8_strength_42 (by decide) (fun h42 => ?_) (fun h42 => ?_)
  · refine lv_aload_n hx hb dX8_strength_49 rfl (lv_at hl 0 rfl) ?_
    refine lv_iload_n hx hb dX8_strength_50 rfl (lv_at hl 1 rfl) ?_
    refine lv_iload_n hx hb dX8_strength_51 rfl (lv_at hl 2 rfl) ?_
    refine lv_aload_n hx hb dX8_strength_52 rfl (lv_at hl 0 rfl) ?_
    refine gg_get F hG (ci := 8) (v := .ref (AD (6 + 0))) 8 gcX8 rfl (gR_model hn) (by decide) w4_87 rfl dX8_strength_53 ?_
    refine gg_getN F hG (ci := 7) (v := .int (M 8 0 0)) 0 gcX7 rfl (gR_state (by omega) hn) (by decide) wn_38 rfl dX8_strength_56 ?_
    refine lv_aload_n hx hb dX8_strength_59 rfl (lv_at hl 0 rfl) ?_
    refine gg_get F hG (ci := 8) (v := .ref (AD 2)) 4 gcX8 rfl (gR_model hn) (by decide) w4_80 rfl dX8_strength_60 ?_
    refine lv_iload_n hx hb dX8_strength_63 rfl (lv_at hl 1 rfl) ?_
    refine gg_ialdN F hG i (gR_turns hn) rfl (by omega) (by omega) dX8_strength_64 ?_
    refine lv_aload_n hx hb dX8_strength_65 rfl (lv_at hl 0 rfl) ?_
    refine gg_get F hG (ci := 8) (v := .ref (AD 3)) 5 gcX8 rfl (gR_model hn) (by decide) w4_82 rfl dX8_strength_66 ?_
    refine lv_iload_n hx hb dX8_strength_69 rfl (lv_at hl 1 rfl) ?_
    refine gg_ialdN F hG i (gR_stand hn) rfl (by omega) (by omega) dX8_strength_70 ?_
    refine lv_aload_n hx hb dX8_strength_71 rfl (lv_at hl 0 rfl) ?_
    refine gg_get F hG (ci := 8) (v := .ref (AD (6 + 0))) 8 gcX8 rfl (gR_model hn) (by decide) w4_87 rfl dX8_strength_72 ?_
    refine gg_getN F hG (ci := 7) (v := .ref (AD (8 + 0))) 4 gcX7 rfl (gR_state (by omega) hn) (by decide) wn_42 rfl dX8_strength_75 ?_
    refine lv_iload_n hx hb dX8_strength_78 rfl (lv_at hl 1 rfl) ?_
    refine gg_ialdN F hG i (gR_crys (by omega) hn) rfl (by omega) (by omega) dX8_strength_79 ?_
    refine gg_callV F hG (ci := 8) (As := [.int (nI i), .int (nI k), .int (M 8 0 0), .int (M 4 0 i), .int (M 5 0 i), .int (M 12 0 i)]) (rest := []) (c_X8_reach Z l AD (mu M 1 0 0 0) _ hn i k (by omega) (by omega) (hN.2.2.2.2.1 k hk) (M 8 0 0) (M 4 0 i) (M 5 0 i) (M 12 0 i) (hN.2.2.2.2.2 i hi)) kY_X8_reach kV_X8_reach (gR_model hn) rfl rfl w4_207 rfl ⟨rfl, rfl⟩ ⟨(Nat.le_of_ble_eq_true rfl), (Nat.le_of_ble_eq_true rfl)⟩ rfl (Nat.le_of_ble_eq_true rfl) hl.1 ⟨Nat.zero_le _, Nat.zero_le _⟩ dX8_strength_80 rfl (fun H locs hG => ?_)
    exact gg_iret F hG rfl (Eq.symm (if_neg h42)) rfl dX8_strength_83
  · refine lv_iconst (v := 0) hx hb dX8_strength_45 (by decide) ?_
    refine lv_goto (tgt := 83) hx hb dX8_strength_46 (by decide) ?_
    exact gg_iret F hG rfl (Eq.symm (if_pos h42)) rfl dX8_strength_83
set_option maxRecDepth 100000 in
set_option maxHeartbeats 4000000 in
theorem c_X8_strength_m (Z : gZ) (l : Launch) (AD : Nat → Nat) (M : St) (n : Nat) (hn : 16 ≤ n) (ns nm : Nat) (hN : okN M ns nm) (x y : Int32) (hxo : x < 0 ∨ nI nm ≤ x) : gM Z l yX8_strength cX8_strength 3 (some .int) ({ frames := 2, cells := 0, slots := 0, locals := 43 } : Room) [.ref (AD 0), .int x, .int y] (wR Z AD M n) (some (.int 0)) (wR Z AD (mu (mu M 1 0 0 0) 1 0 0 1) n) 0 0 := by
  refine gM_of (by decide +kernel) (Nat.le_of_ble_eq_true rfl) ?_
  intro pP eE sS mI aA bB mE cC A F hname hG ls hl
  have hx := F.1
  have hb := F.2.1
  have hl : lv_has ls 3 [(0, .ref (AD 0)), (1, .int x), (2, .int y)] := hl
  refine lv_aload_n hx hb dX8_strength_0 rfl (lv_at hl 0 rfl) ?_
  refine lv_iconst (v := 0) hx hb dX8_strength_1 (by decide) ?_
  refine gg_put F hG (ci := 8) 0 gcX8 rfl (gR_model hn) (by decide) w4_75 rfl rfl rfl (Nat.le_of_ble_eq_true rfl) (pR_1) dX8_strength_2 (fun H locs hG => ?_)
  have hG : gG Z A sS (wR Z AD (mu M 1 0 0 0) n) H locs := hG
  refine lv_aload_n hx hb dX8_strength_5 rfl (lv_at hl 0 rfl) ?_
  refine lv_iload_n hx hb dX8_strength_6 rfl (lv_at hl 1 rfl) ?_
  refine gg_callV F hG (ci := 8) (As := [.int x]) (rest := []) (c_X8_isMember_no Z l AD (mu M 1 0 0 0) _ hn _ _ hN x hxo) kY_X8_isMember kV_X8_isMember (gR_model hn) rfl rfl w4_136 rfl ⟨rfl, rfl⟩ ⟨(Nat.le_of_ble_eq_true rfl), (Nat.le_of_ble_eq_true rfl)⟩ rfl (Nat.le_of_ble_eq_true rfl) hl.1 ⟨Nat.zero_le _, Nat.zero_le _⟩ dX8_strength_7 rfl (fun H locs hG => ?_)
  refine lv_if_eq (tgt := 21) hx hb dX8_strength_10 (by decide) (fun h10 => ?_) (fun h10 => absurd rfl h10)
  refine lv_aload_n hx hb dX8_strength_21 rfl (lv_at hl 0 rfl) ?_
  refine lv_iconst (v := 1) hx hb dX8_strength_22 (by decide) ?_
  refine gg_callV F hG (ci := 8) (As := [.int 1]) (rest := []) (c_X8_no Z l AD (mu M 1 0 0 0) _ hn 1) kY_X8_no kV_X8_no (gR_model hn) rfl rfl w4_121 rfl ⟨rfl, rfl⟩ ⟨(Nat.le_of_ble_eq_true rfl), (Nat.le_of_ble_eq_true rfl)⟩ rfl (Nat.le_of_ble_eq_true rfl) hl.1 ⟨Nat.zero_le _, Nat.zero_le _⟩ dX8_strength_23 rfl (fun H locs hG => ?_)
  exact gg_iret F hG rfl rfl rfl dX8_strength_26
set_option maxRecDepth 100000 in
set_option maxHeartbeats 4000000 in
theorem c_X8_strength_s (Z : gZ) (l : Launch) (AD : Nat → Nat) (M : St) (n : Nat) (hn : 16 ≤ n) (ns nm i : Nat) (hN : okN M ns nm) (hi : i < nm) (y : Int32) (hxo : y < 0 ∨ nI ns ≤ y) : gM Z l yX8_strength cX8_strength 3 (some .int) ({ frames := 2, cells := 0, slots := 0, locals := 43 } : Room) [.ref (AD 0), .int (nI i), .int y] (wR Z AD M n) (some (.int 0)) (wR Z AD (mu (mu M 1 0 0 0) 1 0 0 1) n) 0 0 := by
  refine gM_of (by decide +kernel) (Nat.le_of_ble_eq_true rfl) ?_
  intro pP eE sS mI aA bB mE cC A F hname hG ls hl
  have hx := F.1
  have hb := F.2.1
  have hl : lv_has ls 3 [(0, .ref (AD 0)), (1, .int (nI i)), (2, .int y)] := hl
  refine lv_aload_n hx hb dX8_strength_0 rfl (lv_at hl 0 rfl) ?_
  refine lv_iconst (v := 0) hx hb dX8_strength_1 (by decide) ?_
  refine gg_put F hG (ci := 8) 0 gcX8 rfl (gR_model hn) (by decide) w4_75 rfl rfl rfl (Nat.le_of_ble_eq_true rfl) (pR_1) dX8_strength_2 (fun H locs hG => ?_)
  have hG : gG Z A sS (wR Z AD (mu M 1 0 0 0) n) H locs := hG
  refine lv_aload_n hx hb dX8_strength_5 rfl (lv_at hl 0 rfl) ?_
  refine lv_iload_n hx hb dX8_strength_6 rfl (lv_at hl 1 rfl) ?_
  refine gg_callV F hG (ci := 8) (As := [.int (nI i)]) (rest := []) (c_X8_isMember Z l AD (mu M 1 0 0 0) _ hn _ _ i hN hi) kY_X8_isMember kV_X8_isMember (gR_model hn) rfl rfl w4_136 rfl ⟨rfl, rfl⟩ ⟨(Nat.le_of_ble_eq_true rfl), (Nat.le_of_ble_eq_true rfl)⟩ rfl (Nat.le_of_ble_eq_true rfl) hl.1 ⟨Nat.zero_le _, Nat.zero_le _⟩ dX8_strength_7 rfl (fun H locs hG => ?_)
  refine lv_if_eq (tgt := 21) hx hb dX8_strength_10 (by decide) (fun h10 => absurd h10 (by decide)) (fun h10 => ?_)
  refine lv_aload_n hx hb dX8_strength_13 rfl (lv_at hl 0 rfl) ?_
  refine lv_iload_n hx hb dX8_strength_14 rfl (lv_at hl 2 rfl) ?_
  refine gg_callV F hG (ci := 8) (As := [.int y]) (rest := []) (c_X8_isStation_no Z l AD (mu M 1 0 0 0) _ hn _ _ hN y hxo) kY_X8_isStation kV_X8_isStation (gR_model hn) rfl rfl w4_156 rfl ⟨rfl, rfl⟩ ⟨(Nat.le_of_ble_eq_true rfl), (Nat.le_of_ble_eq_true rfl)⟩ rfl (Nat.le_of_ble_eq_true rfl) hl.1 ⟨Nat.zero_le _, Nat.zero_le _⟩ dX8_strength_15 rfl (fun H locs hG => ?_)
  refine lv_if_ne (tgt := 27) hx hb dX8_strength_18 (by decide) (fun h18 => absurd rfl h18) (fun h18 => ?_)
  refine lv_aload_n hx hb dX8_strength_21 rfl (lv_at hl 0 rfl) ?_
  refine lv_iconst (v := 1) hx hb dX8_strength_22 (by decide) ?_
  refine gg_callV F hG (ci := 8) (As := [.int 1]) (rest := []) (c_X8_no Z l AD (mu M 1 0 0 0) _ hn 1) kY_X8_no kV_X8_no (gR_model hn) rfl rfl w4_121 rfl ⟨rfl, rfl⟩ ⟨(Nat.le_of_ble_eq_true rfl), (Nat.le_of_ble_eq_true rfl)⟩ rfl (Nat.le_of_ble_eq_true rfl) hl.1 ⟨Nat.zero_le _, Nat.zero_le _⟩ dX8_strength_23 rfl (fun H locs hG => ?_)
  exact gg_iret F hG rfl rfl rfl dX8_strength_26
set_option maxRecDepth 100000 in
set_option maxHeartbeats 4000000 in
theorem c_X8_dial_m (Z : gZ) (l : Launch) (AD : Nat → Nat) (M : St) (n : Nat) (hn : 16 ≤ n) (ns nm : Nat) (hN : okN M ns nm) (x y : Int32) (hxo : x < 0 ∨ nI nm ≤ x) : gM Z l yX8_dial cX8_dial 8 (some .int) ({ frames := 2, cells := 0, slots := 0, locals := 43 } : Room) [.ref (AD 0), .int x, .int y] (wR Z AD M n) (some (.int 0)) (wR Z AD (mu (mu M 1 0 0 0) 1 0 0 1) n) 0 0 := by
  refine gM_of (by decide +kernel) (Nat.le_of_ble_eq_true rfl) ?_
  intro pP eE sS mI aA bB mE cC A F hname hG ls hl
  have hx := F.1
  have hb := F.2.1
  have hl : lv_has ls 8 [(0, .ref (AD 0)), (1, .int x), (2, .int y)] := hl
  refine lv_aload_n hx hb dX8_dial_0 rfl (lv_at hl 0 rfl) ?_
  refine lv_iconst (v := 0) hx hb dX8_dial_1 (by decide) ?_
  refine gg_put F hG (ci := 8) 0 gcX8 rfl (gR_model hn) (by decide) w4_75 rfl rfl rfl (Nat.le_of_ble_eq_true rfl) (pR_1) dX8_dial_2 (fun H locs hG => ?_)
  have hG : gG Z A sS (wR Z AD (mu M 1 0 0 0) n) H locs := hG
  refine lv_aload_n hx hb dX8_dial_5 rfl (lv_at hl 0 rfl) ?_
  refine lv_iload_n hx hb dX8_dial_6 rfl (lv_at hl 1 rfl) ?_
  refine gg_callV F hG (ci := 8) (As := [.int x]) (rest := []) (c_X8_isMember_no Z l AD (mu M 1 0 0 0) _ hn _ _ hN x hxo) kY_X8_isMember kV_X8_isMember (gR_model hn) rfl rfl w4_136 rfl ⟨rfl, rfl⟩ ⟨(Nat.le_of_ble_eq_true rfl), (Nat.le_of_ble_eq_true rfl)⟩ rfl (Nat.le_of_ble_eq_true rfl) hl.1 ⟨Nat.zero_le _, Nat.zero_le _⟩ dX8_dial_7 rfl (fun H locs hG => ?_)
  refine lv_if_eq (tgt := 21) hx hb dX8_dial_10 (by decide) (fun h10 => ?_) (fun h10 => absurd rfl h10)
  refine lv_aload_n hx hb dX8_dial_21 rfl (lv_at hl 0 rfl) ?_
  refine lv_iconst (v := 1) hx hb dX8_dial_22 (by decide) ?_
  refine gg_callV F hG (ci := 8) (As := [.int 1]) (rest := []) (c_X8_no Z l AD (mu M 1 0 0 0) _ hn 1) kY_X8_no kV_X8_no (gR_model hn) rfl rfl w4_121 rfl ⟨rfl, rfl⟩ ⟨(Nat.le_of_ble_eq_true rfl), (Nat.le_of_ble_eq_true rfl)⟩ rfl (Nat.le_of_ble_eq_true rfl) hl.1 ⟨Nat.zero_le _, Nat.zero_le _⟩ dX8_dial_23 rfl (fun H locs hG => ?_)
  exact gg_iret F hG rfl rfl rfl dX8_dial_26
set_option maxRecDepth 100000 in
set_option maxHeartbeats 4000000 in
theorem c_X8_dial_s (Z : gZ) (l : Launch) (AD : Nat → Nat) (M : St) (n : Nat) (hn : 16 ≤ n) (ns nm i : Nat) (hN : okN M ns nm) (hi : i < nm) (y : Int32) (hxo : y < 0 ∨ nI ns ≤ y) : gM Z l yX8_dial cX8_dial 8 (some .int) ({ frames := 2, cells := 0, slots := 0, locals := 43 } : Room) [.ref (AD 0), .int (nI i), .int y] (wR Z AD M n) (some (.int 0)) (wR Z AD (mu (mu M 1 0 0 0) 1 0 0 1) n) 0 0 := by
  refine gM_of (by decide +kernel) (Nat.le_of_ble_eq_true rfl) ?_
  intro pP eE sS mI aA bB mE cC A F hname hG ls hl
  have hx := F.1
  have hb := F.2.1
  have hl : lv_has ls 8 [(0, .ref (AD 0)), (1, .int (nI i)), (2, .int y)] := hl
  refine lv_aload_n hx hb dX8_dial_0 rfl (lv_at hl 0 rfl) ?_
  refine lv_iconst (v := 0) hx hb dX8_dial_1 (by decide) ?_
  refine gg_put F hG (ci := 8) 0 gcX8 rfl (gR_model hn) (by decide) w4_75 rfl rfl rfl (Nat.le_of_ble_eq_true rfl) (pR_1) dX8_dial_2 (fun H locs hG => ?_)
  have hG : gG Z A sS (wR Z AD (mu M 1 0 0 0) n) H locs := hG
  refine lv_aload_n hx hb dX8_dial_5 rfl (lv_at hl 0 rfl) ?_
  refine lv_iload_n hx hb dX8_dial_6 rfl (lv_at hl 1 rfl) ?_
  refine gg_callV F hG (ci := 8) (As := [.int (nI i)]) (rest := []) (c_X8_isMember Z l AD (mu M 1 0 0 0) _ hn _ _ i hN hi) kY_X8_isMember kV_X8_isMember (gR_model hn) rfl rfl w4_136 rfl ⟨rfl, rfl⟩ ⟨(Nat.le_of_ble_eq_true rfl), (Nat.le_of_ble_eq_true rfl)⟩ rfl (Nat.le_of_ble_eq_true rfl) hl.1 ⟨Nat.zero_le _, Nat.zero_le _⟩ dX8_dial_7 rfl (fun H locs hG => ?_)
  refine lv_if_eq (tgt := 21) hx hb dX8_dial_10 (by decide) (fun h10 => absurd h10 (by decide)) (fun h10 => ?_)
  refine lv_aload_n hx hb dX8_dial_13 rfl (lv_at hl 0 rfl) ?_
  refine lv_iload_n hx hb dX8_dial_14 rfl (lv_at hl 2 rfl) ?_
  refine gg_callV F hG (ci := 8) (As := [.int y]) (rest := []) (c_X8_isStation_no Z l AD (mu M 1 0 0 0) _ hn _ _ hN y hxo) kY_X8_isStation kV_X8_isStation (gR_model hn) rfl rfl w4_156 rfl ⟨rfl, rfl⟩ ⟨(Nat.le_of_ble_eq_true rfl), (Nat.le_of_ble_eq_true rfl)⟩ rfl (Nat.le_of_ble_eq_true rfl) hl.1 ⟨Nat.zero_le _, Nat.zero_le _⟩ dX8_dial_15 rfl (fun H locs hG => ?_)
  refine lv_if_ne (tgt := 27) hx hb dX8_dial_18 (by decide) (fun h18 => absurd rfl h18) (fun h18 => ?_)
  refine lv_aload_n hx hb dX8_dial_21 rfl (lv_at hl 0 rfl) ?_
  refine lv_iconst (v := 1) hx hb dX8_dial_22 (by decide) ?_
  refine gg_callV F hG (ci := 8) (As := [.int 1]) (rest := []) (c_X8_no Z l AD (mu M 1 0 0 0) _ hn 1) kY_X8_no kV_X8_no (gR_model hn) rfl rfl w4_121 rfl ⟨rfl, rfl⟩ ⟨(Nat.le_of_ble_eq_true rfl), (Nat.le_of_ble_eq_true rfl)⟩ rfl (Nat.le_of_ble_eq_true rfl) hl.1 ⟨Nat.zero_le _, Nat.zero_le _⟩ dX8_dial_23 rfl (fun H locs hG => ?_)
  exact gg_iret F hG rfl rfl rfl dX8_dial_26
set_option maxRecDepth 100000 in
set_option maxHeartbeats 4000000 in
theorem c_X8_next_m (Z : gZ) (l : Launch) (AD : Nat → Nat) (M : St) (n : Nat) (hn : 16 ≤ n) (ns nm : Nat) (hN : okN M ns nm) (x y : Int32) (hxo : x < 0 ∨ nI nm ≤ x) : gM Z l yX8_next cX8_next 5 (some .int) ({ frames := 2, cells := 0, slots := 0, locals := 43 } : Room) [.ref (AD 0), .int x, .int y] (wR Z AD M n) (some (.int 0)) (wR Z AD (mu (mu M 1 0 0 0) 1 0 0 1) n) 0 0 := by
  refine gM_of (by decide +kernel) (Nat.le_of_ble_eq_true rfl) ?_
  intro pP eE sS mI aA bB mE cC A F hname hG ls hl
  have hx := F.1
  have hb := F.2.1
  have hl : lv_has ls 5 [(0, .ref (AD 0)), (1, .int x), (2, .int y)] := hl
  refine lv_aload_n hx hb dX8_next_0 rfl (lv_at hl 0 rfl) ?_
  refine lv_iconst (v := 0) hx hb dX8_next_1 (by decide) ?_
  refine gg_put F hG (ci := 8) 0 gcX8 rfl (gR_model hn) (by decide) w4_75 rfl rfl rfl (Nat.le_of_ble_eq_true rfl) (pR_1) dX8_next_2 (fun H locs hG => ?_)
  have hG : gG Z A sS (wR Z AD (mu M 1 0 0 0) n) H locs := hG
  refine lv_aload_n hx hb dX8_next_5 rfl (lv_at hl 0 rfl) ?_
  refine lv_iload_n hx hb dX8_next_6 rfl (lv_at hl 1 rfl) ?_
  refine gg_callV F hG (ci := 8) (As := [.int x]) (rest := []) (c_X8_isMember_no Z l AD (mu M 1 0 0 0) _ hn _ _ hN x hxo) kY_X8_isMember kV_X8_isMember (gR_model hn) rfl rfl w4_136 rfl ⟨rfl, rfl⟩ ⟨(Nat.le_of_ble_eq_true rfl), (Nat.le_of_ble_eq_true rfl)⟩ rfl (Nat.le_of_ble_eq_true rfl) hl.1 ⟨Nat.zero_le _, Nat.zero_le _⟩ dX8_next_7 rfl (fun H locs hG => ?_)
  refine lv_if_eq (tgt := 21) hx hb dX8_next_10 (by decide) (fun h10 => ?_) (fun h10 => absurd rfl h10)
  refine lv_aload_n hx hb dX8_next_21 rfl (lv_at hl 0 rfl) ?_
  refine lv_iconst (v := 1) hx hb dX8_next_22 (by decide) ?_
  refine gg_callV F hG (ci := 8) (As := [.int 1]) (rest := []) (c_X8_no Z l AD (mu M 1 0 0 0) _ hn 1) kY_X8_no kV_X8_no (gR_model hn) rfl rfl w4_121 rfl ⟨rfl, rfl⟩ ⟨(Nat.le_of_ble_eq_true rfl), (Nat.le_of_ble_eq_true rfl)⟩ rfl (Nat.le_of_ble_eq_true rfl) hl.1 ⟨Nat.zero_le _, Nat.zero_le _⟩ dX8_next_23 rfl (fun H locs hG => ?_)
  exact gg_iret F hG rfl rfl rfl dX8_next_26
set_option maxRecDepth 100000 in
set_option maxHeartbeats 4000000 in
theorem c_X8_next_s (Z : gZ) (l : Launch) (AD : Nat → Nat) (M : St) (n : Nat) (hn : 16 ≤ n) (ns nm i : Nat) (hN : okN M ns nm) (hi : i < nm) (y : Int32) (hxo : y < 0 ∨ nI ns ≤ y) : gM Z l yX8_next cX8_next 5 (some .int) ({ frames := 2, cells := 0, slots := 0, locals := 43 } : Room) [.ref (AD 0), .int (nI i), .int y] (wR Z AD M n) (some (.int 0)) (wR Z AD (mu (mu M 1 0 0 0) 1 0 0 1) n) 0 0 := by
  refine gM_of (by decide +kernel) (Nat.le_of_ble_eq_true rfl) ?_
  intro pP eE sS mI aA bB mE cC A F hname hG ls hl
  have hx := F.1
  have hb := F.2.1
  have hl : lv_has ls 5 [(0, .ref (AD 0)), (1, .int (nI i)), (2, .int y)] := hl
  refine lv_aload_n hx hb dX8_next_0 rfl (lv_at hl 0 rfl) ?_
  refine lv_iconst (v := 0) hx hb dX8_next_1 (by decide) ?_
  refine gg_put F hG (ci := 8) 0 gcX8 rfl (gR_model hn) (by decide) w4_75 rfl rfl rfl (Nat.le_of_ble_eq_true rfl) (pR_1) dX8_next_2 (fun H locs hG => ?_)
  have hG : gG Z A sS (wR Z AD (mu M 1 0 0 0) n) H locs := hG
  refine lv_aload_n hx hb dX8_next_5 rfl (lv_at hl 0 rfl) ?_
  refine lv_iload_n hx hb dX8_next_6 rfl (lv_at hl 1 rfl) ?_
  refine gg_callV F hG (ci := 8) (As := [.int (nI i)]) (rest := []) (c_X8_isMember Z l AD (mu M 1 0 0 0) _ hn _ _ i hN hi) kY_X8_isMember kV_X8_isMember (gR_model hn) rfl rfl w4_136 rfl ⟨rfl, rfl⟩ ⟨(Nat.le_of_ble_eq_true rfl), (Nat.le_of_ble_eq_true rfl)⟩ rfl (Nat.le_of_ble_eq_true rfl) hl.1 ⟨Nat.zero_le _, Nat.zero_le _⟩ dX8_next_7 rfl (fun H locs hG => ?_)
  refine lv_if_eq (tgt := 21) hx hb dX8_next_10 (by decide) (fun h10 => absurd h10 (by decide)) (fun h10 => ?_)
  refine lv_aload_n hx hb dX8_next_13 rfl (lv_at hl 0 rfl) ?_
  refine lv_iload_n hx hb dX8_next_14 rfl (lv_at hl 2 rfl) ?_
  refine gg_callV F hG (ci := 8) (As := [.int y]) (rest := []) (c_X8_isStation_no Z l AD (mu M 1 0 0 0) _ hn _ _ hN y hxo) kY_X8_isStation kV_X8_isStation (gR_model hn) rfl rfl w4_156 rfl ⟨rfl, rfl⟩ ⟨(Nat.le_of_ble_eq_true rfl), (Nat.le_of_ble_eq_true rfl)⟩ rfl (Nat.le_of_ble_eq_true rfl) hl.1 ⟨Nat.zero_le _, Nat.zero_le _⟩ dX8_next_15 rfl (fun H locs hG => ?_)
  refine lv_if_ne (tgt := 27) hx hb dX8_next_18 (by decide) (fun h18 => absurd rfl h18) (fun h18 => ?_)
  refine lv_aload_n hx hb dX8_next_21 rfl (lv_at hl 0 rfl) ?_
  refine lv_iconst (v := 1) hx hb dX8_next_22 (by decide) ?_
  refine gg_callV F hG (ci := 8) (As := [.int 1]) (rest := []) (c_X8_no Z l AD (mu M 1 0 0 0) _ hn 1) kY_X8_no kV_X8_no (gR_model hn) rfl rfl w4_121 rfl ⟨rfl, rfl⟩ ⟨(Nat.le_of_ble_eq_true rfl), (Nat.le_of_ble_eq_true rfl)⟩ rfl (Nat.le_of_ble_eq_true rfl) hl.1 ⟨Nat.zero_le _, Nat.zero_le _⟩ dX8_next_23 rfl (fun H locs hG => ?_)
  exact gg_iret F hG rfl rfl rfl dX8_next_26
set_option maxRecDepth 100000 in
set_option maxHeartbeats 4000000 in
theorem c_X8_hears (Z : gZ) (l : Launch) (AD : Nat → Nat) (M : St) (n : Nat) (hn : 16 ≤ n) (ns nm i : Nat) (hN : okN M ns nm) (hi : i < nm) : gM Z l yX8_hears cX8_hears 2 (some .int) ({ frames := 4, cells := 0, slots := 0, locals := 107 } : Room) [.ref (AD 0), .int (nI i)] (wR Z AD M n) (some (.int (heR (mu M 1 0 0 0) i (M 8 0 0) (M 4 0 i) (M 5 0 i) (M 12 0 i) (onR (mu M 1 0 0 0) (M 8 0 0) ns) ns))) (wR Z AD (mu M 1 0 0 0) n) 0 0 := by
  refine gM_of (by decide +kernel) (Nat.le_of_ble_eq_true rfl) ?_
  intro pP eE sS mI aA bB mE cC A F hname hG ls hl
  have hx := F.1
  have hb := F.2.1
  have hl : lv_has ls 2 [(0, .ref (AD 0)), (1, .int (nI i))] := hl
  have hns2 := hN.2.1
  have hnm2 := hN.2.2.2.1
  refine lv_aload_n hx hb dX8_hears_0 rfl (lv_at hl 0 rfl) ?_
  refine lv_iconst (v := 0) hx hb dX8_hears_1 (by decide) ?_
  refine gg_put F hG (ci := 8) 0 gcX8 rfl (gR_model hn) (by decide) w4_75 rfl rfl rfl (Nat.le_of_ble_eq_true rfl) (pR_1) dX8_hears_2 (fun H locs hG => ?_)
  have hG : gG Z A sS (wR Z AD (mu M 1 0 0 0) n) H locs := hG
  refine lv_aload_n hx hb dX8_hears_5 rfl (lv_at hl 0 rfl) ?_
  refine lv_iload_n hx hb dX8_hears_6 rfl (lv_at hl 1 rfl) ?_
  refine gg_callV F hG (ci := 8) (As := [.int (nI i)]) (rest := []) (c_X8_isMember Z l AD (mu M 1 0 0 0) _ hn _ _ i hN hi) kY_X8_isMember kV_X8_isMember (gR_model hn) rfl rfl w4_136 rfl ⟨rfl, rfl⟩ ⟨(Nat.le_of_ble_eq_true rfl), (Nat.le_of_ble_eq_true rfl)⟩ rfl (Nat.le_of_ble_eq_true rfl) hl.1 ⟨Nat.zero_le _, Nat.zero_le _⟩ dX8_hears_7 rfl (fun H locs hG => ?_)
  refine lv_if_eq (tgt := 60) hx hb dX8_hears_10 (by decide) (fun h10 => absurd h10 (by decide)) (fun h10 => ?_)
  refine lv_aload_n hx hb dX8_hears_13 rfl (lv_at hl 0 rfl) ?_
  refine lv_iload_n hx hb dX8_hears_14 rfl (lv_at hl 1 rfl) ?_
  refine lv_aload_n hx hb dX8_hears_15 rfl (lv_at hl 0 rfl) ?_
  refine gg_get F hG (ci := 8) (v := .ref (AD (6 + 0))) 8 gcX8 rfl (gR_model hn) (by decide) w4_87 rfl dX8_hears_16 ?_
  refine gg_getN F hG (ci := 7) (v := .int (M 8 0 0)) 0 gcX7 rfl (gR_state (by omega) hn) (by decide) wn_38 rfl dX8_hears_19 ?_
  refine lv_aload_n hx hb dX8_hears_22 rfl (lv_at hl 0 rfl) ?_
  refine gg_get F hG (ci := 8) (v := .ref (AD 2)) 4 gcX8 rfl (gR_model hn) (by decide) w4_80 rfl dX8_hears_23 ?_
  refine lv_iload_n hx hb dX8_hears_26 rfl (lv_at hl 1 rfl) ?_
  refine gg_ialdN F hG i (gR_turns hn) rfl (by omega) (by omega) dX8_hears_27 ?_
  refine lv_aload_n hx hb dX8_hears_28 rfl (lv_at hl 0 rfl) ?_
  refine gg_get F hG (ci := 8) (v := .ref (AD 3)) 5 gcX8 rfl (gR_model hn) (by decide) w4_82 rfl dX8_hears_29 ?_
  refine lv_iload_n hx hb dX8_hears_32 rfl (lv_at hl 1 rfl) ?_
  refine gg_ialdN F hG i (gR_stand hn) rfl (by omega) (by omega) dX8_hears_33 ?_
  refine lv_aload_n hx hb dX8_hears_34 rfl (lv_at hl 0 rfl) ?_
  refine gg_get F hG (ci := 8) (v := .ref (AD (6 + 0))) 8 gcX8 rfl (gR_model hn) (by decide) w4_87 rfl dX8_hears_35 ?_
  refine gg_getN F hG (ci := 7) (v := .ref (AD (8 + 0))) 4 gcX7 rfl (gR_state (by omega) hn) (by decide) wn_42 rfl dX8_hears_38 ?_
  refine lv_iload_n hx hb dX8_hears_41 rfl (lv_at hl 1 rfl) ?_
  refine gg_ialdN F hG i (gR_crys (by omega) hn) rfl (by omega) (by omega) dX8_hears_42 ?_
  refine lv_aload_n hx hb dX8_hears_43 rfl (lv_at hl 0 rfl) ?_
  refine lv_aload_n hx hb dX8_hears_44 rfl (lv_at hl 0 rfl) ?_
  refine gg_get F hG (ci := 8) (v := .ref (AD (6 + 0))) 8 gcX8 rfl (gR_model hn) (by decide) w4_87 rfl dX8_hears_45 ?_
  refine gg_getN F hG (ci := 7) (v := .int (M 8 0 0)) 0 gcX7 rfl (gR_state (by omega) hn) (by decide) wn_38 rfl dX8_hears_48 ?_
  refine gg_callV F hG (ci := 8) (As := [.int (M 8 0 0)]) (rest := [.int (M 12 0 i), .int (M 5 0 i), .int (M 4 0 i), .int (M 8 0 0), .int (nI i), .ref (AD 0)]) (c_X8_onAir Z l AD (mu M 1 0 0 0) _ hn _ _ hN (M 8 0 0)) kY_X8_onAir kV_X8_onAir (gR_model hn) rfl rfl w4_164 rfl ⟨rfl, rfl⟩ ⟨(Nat.le_of_ble_eq_true rfl), (Nat.le_of_ble_eq_true rfl)⟩ rfl (Nat.le_of_ble_eq_true rfl) hl.1 ⟨Nat.zero_le _, Nat.zero_le _⟩ dX8_hears_51 rfl (fun H locs hG => ?_)
  refine gg_callV F hG (ci := 8) (As := [.int (nI i), .int (M 8 0 0), .int (M 4 0 i), .int (M 5 0 i), .int (M 12 0 i), .int (onR (mu M 1 0 0 0) (M 8 0 0) ns)]) (rest := []) (c_X8_heard Z l AD (mu M 1 0 0 0) _ hn _ _ i hN (by omega) (M 8 0 0) (M 4 0 i) (M 5 0 i) (M 12 0 i) (onR (mu M 1 0 0 0) (M 8 0 0) ns) (hN.2.2.2.2.2 i hi)) kY_X8_heard kV_X8_heard (gR_model hn) rfl rfl w4_215 rfl ⟨rfl, rfl⟩ ⟨(Nat.le_of_ble_eq_true rfl), (Nat.le_of_ble_eq_true rfl)⟩ rfl (Nat.le_of_ble_eq_true rfl) hl.1 ⟨Nat.zero_le _, Nat.zero_le _⟩ dX8_hears_54 rfl (fun H locs hG => ?_)
  refine lv_goto (tgt := 65) hx hb dX8_hears_57 (by decide) ?_
  exact gg_iret F hG rfl rfl rfl dX8_hears_65
set_option maxRecDepth 100000 in
set_option maxHeartbeats 4000000 in
theorem c_X8_hears_m (Z : gZ) (l : Launch) (AD : Nat → Nat) (M : St) (n : Nat) (hn : 16 ≤ n) (ns nm : Nat) (hN : okN M ns nm) (x : Int32) (hxo : x < 0 ∨ nI nm ≤ x) : gM Z l yX8_hears cX8_hears 2 (some .int) ({ frames := 2, cells := 0, slots := 0, locals := 43 } : Room) [.ref (AD 0), .int x] (wR Z AD M n) (some (.int 0)) (wR Z AD (mu (mu M 1 0 0 0) 1 0 0 1) n) 0 0 := by
  refine gM_of (by decide +kernel) (Nat.le_of_ble_eq_true rfl) ?_
  intro pP eE sS mI aA bB mE cC A F hname hG ls hl
  have hx := F.1
  have hb := F.2.1
  have hl : lv_has ls 2 [(0, .ref (AD 0)), (1, .int x)] := hl
  refine lv_aload_n hx hb dX8_hears_0 rfl (lv_at hl 0 rfl) ?_
  refine lv_iconst (v := 0) hx hb dX8_hears_1 (by decide) ?_
  refine gg_put F hG (ci := 8) 0 gcX8 rfl (gR_model hn) (by decide) w4_75 rfl rfl rfl (Nat.le_of_ble_eq_true rfl) (pR_1) dX8_hears_2 (fun H locs hG => ?_)
  have hG : gG Z A sS (wR Z AD (mu M 1 0 0 0) n) H locs := hG
  refine lv_aload_n hx hb dX8_hears_5 rfl (lv_at hl 0 rfl) ?_
  refine lv_iload_n hx hb dX8_hears_6 rfl (lv_at hl 1 rfl) ?_
  refine gg_callV F hG (ci := 8) (As := [.int x]) (rest := []) (c_X8_isMember_no Z l AD (mu M 1 0 0 0) _ hn _ _ hN x hxo) kY_X8_isMember kV_X8_isMember (gR_model hn) rfl rfl w4_136 rfl ⟨rfl, rfl⟩ ⟨(Nat.le_of_ble_eq_true rfl), (Nat.le_of_ble_eq_true rfl)⟩ rfl (Nat.le_of_ble_eq_true rfl) hl.1 ⟨Nat.zero_le _, Nat.zero_le _⟩ dX8_hears_7 rfl (fun H locs hG => ?_)
  refine lv_if_eq (tgt := 60) hx hb dX8_hears_10 (by decide) (fun h10 => ?_) (fun h10 => absurd rfl h10)
  refine lv_aload_n hx hb dX8_hears_60 rfl (lv_at hl 0 rfl) ?_
  refine lv_iconst (v := 1) hx hb dX8_hears_61 (by decide) ?_
  refine gg_callV F hG (ci := 8) (As := [.int 1]) (rest := []) (c_X8_no Z l AD (mu M 1 0 0 0) _ hn 1) kY_X8_no kV_X8_no (gR_model hn) rfl rfl w4_121 rfl ⟨rfl, rfl⟩ ⟨(Nat.le_of_ble_eq_true rfl), (Nat.le_of_ble_eq_true rfl)⟩ rfl (Nat.le_of_ble_eq_true rfl) hl.1 ⟨Nat.zero_le _, Nat.zero_le _⟩ dX8_hears_62 rfl (fun H locs hG => ?_)
  exact gg_iret F hG rfl rfl rfl dX8_hears_65
set_option maxRecDepth 100000 in
set_option maxHeartbeats 4000000 in
theorem c_X8_isLine (Z : gZ) (l : Launch) (AD : Nat → Nat) (M : St) (n : Nat) (hn : 16 ≤ n) (ns nm i ln L : Nat) (hN : okN M ns nm) (hi : i < nm) (hL : M 13 0 i = nI L) (hL2 : L ≤ 40) (hln : ln < L) : gM Z l yX8_isLine cX8_isLine 3 (some .boolean) ({ frames := 2, cells := 0, slots := 0, locals := 43 } : Room) [.ref (AD 0), .int (nI i), .int (nI ln)] (wR Z AD M n) (some (.int 1)) (wR Z AD M n) 0 0 := by
  refine gM_of (by decide +kernel) (Nat.le_of_ble_eq_true rfl) ?_
  intro pP eE sS mI aA bB mE cC A F hname hG ls hl
  have hx := F.1
  have hb := F.2.1
  have hl : lv_has ls 3 [(0, .ref (AD 0)), (1, .int (nI i)), (2, .int (nI ln))] := hl
  have hns2 := hN.2.1
  have hnm2 := hN.2.2.2.1
  refine lv_aload_n hx hb dX8_isLine_0 rfl (lv_at hl 0 rfl) ?_
  refine lv_iload_n hx hb dX8_isLine_1 rfl (lv_at hl 1 rfl) ?_
  refine gg_callV F hG (ci := 8) (As := [.int (nI i)]) (rest := []) (c_X8_isMember Z l AD M _ hn _ _ i hN hi) kY_X8_isMember kV_X8_isMember (gR_model hn) rfl rfl w4_136 rfl ⟨rfl, rfl⟩ ⟨(Nat.le_of_ble_eq_true rfl), (Nat.le_of_ble_eq_true rfl)⟩ rfl (Nat.le_of_ble_eq_true rfl) hl.1 ⟨Nat.zero_le _, Nat.zero_le _⟩ dX8_isLine_2 rfl (fun H locs hG => ?_)
  refine lv_if_eq (tgt := 31) hx hb dX8_isLine_5 (by decide) (fun h5 => absurd h5 (by decide)) (fun h5 => ?_)
  refine lv_iload_n hx hb dX8_isLine_8 rfl (lv_at hl 2 rfl) ?_
  refine lv_iconst (v := 0) hx hb dX8_isLine_9 (by decide) ?_
  refine lv_aload_n hx hb dX8_isLine_10 rfl (lv_at hl 0 rfl) ?_
  refine gg_get F hG (ci := 8) (v := .ref (AD (6 + 0))) 8 gcX8 rfl (gR_model hn) (by decide) w4_87 rfl dX8_isLine_11 ?_
  refine gg_getN F hG (ci := 7) (v := .ref (AD (10 + 0))) 5 gcX7 rfl (gR_state (by omega) hn) (by decide) wn_43 rfl dX8_isLine_14 ?_
  refine lv_iload_n hx hb dX8_isLine_17 rfl (lv_at hl 1 rfl) ?_
  refine gg_ialdN F hG i (gR_lines (by omega) hn) rfl (by omega) (by omega) dX8_isLine_18 ?_
  rw [show M 13 0 i = nI L from hL]
  refine lv_iconst (v := 1) hx hb dX8_isLine_19 (by decide) ?_
  refine lv_isub hx hb dX8_isLine_20 ?_
  refine gg_callS F hG (As := [.int (nI ln), .int 0, .int ((nI L) - 1)]) (rest := []) (c_X8_isIn Z l (nI ln) 0 ((nI L) - 1) _) kY_X8_isIn kV_X8_isIn w4_118 rfl ⟨rfl, rfl⟩ ⟨(Nat.le_of_ble_eq_true rfl), (Nat.le_of_ble_eq_true rfl)⟩ rfl (Nat.le_of_ble_eq_true rfl) hl.1 ⟨Nat.zero_le _, Nat.zero_le _⟩ dX8_isLine_21 rfl (fun H locs hG => ?_)
  rw [show (wthF (nI ln) 0 ((nI L) - 1) : Int32) = 1 from isG_1 hln (by omega)]
  refine lv_if_eq (tgt := 31) hx hb dX8_isLine_24 (by decide) (fun h24 => absurd h24 (by decide)) (fun h24 => ?_)
  refine lv_iconst (v := 1) hx hb dX8_isLine_27 (by decide) ?_
  refine lv_goto (tgt := 32) hx hb dX8_isLine_28 (by decide) ?_
  exact gg_iret F hG rfl rfl rfl dX8_isLine_32
set_option maxRecDepth 100000 in
set_option maxHeartbeats 4000000 in
theorem c_X8_isLine_m (Z : gZ) (l : Launch) (AD : Nat → Nat) (M : St) (n : Nat) (hn : 16 ≤ n) (ns nm : Nat) (hN : okN M ns nm) (x y : Int32) (hxo : x < 0 ∨ nI nm ≤ x) : gM Z l yX8_isLine cX8_isLine 3 (some .boolean) ({ frames := 2, cells := 0, slots := 0, locals := 43 } : Room) [.ref (AD 0), .int x, .int y] (wR Z AD M n) (some (.int 0)) (wR Z AD M n) 0 0 := by
  refine gM_of (by decide +kernel) (Nat.le_of_ble_eq_true rfl) ?_
  intro pP eE sS mI aA bB mE cC A F hname hG ls hl
  have hx := F.1
  have hb := F.2.1
  have hl : lv_has ls 3 [(0, .ref (AD 0)), (1, .int x), (2, .int y)] := hl
  refine lv_aload_n hx hb dX8_isLine_0 rfl (lv_at hl 0 rfl) ?_
  refine lv_iload_n hx hb dX8_isLine_1 rfl (lv_at hl 1 rfl) ?_
  refine gg_callV F hG (ci := 8) (As := [.int x]) (rest := []) (c_X8_isMember_no Z l AD M _ hn _ _ hN x hxo) kY_X8_isMember kV_X8_isMember (gR_model hn) rfl rfl w4_136 rfl ⟨rfl, rfl⟩ ⟨(Nat.le_of_ble_eq_true rfl), (Nat.le_of_ble_eq_true rfl)⟩ rfl (Nat.le_of_ble_eq_true rfl) hl.1 ⟨Nat.zero_le _, Nat.zero_le _⟩ dX8_isLine_2 rfl (fun H locs hG => ?_)
  refine lv_if_eq (tgt := 31) hx hb dX8_isLine_5 (by decide) (fun h5 => ?_) (fun h5 => absurd rfl h5)
  refine lv_iconst (v := 0) hx hb dX8_isLine_31 (by decide) ?_
  exact gg_iret F hG rfl rfl rfl dX8_isLine_32
set_option maxRecDepth 100000 in
set_option maxHeartbeats 4000000 in
theorem c_X8_isLine_l (Z : gZ) (l : Launch) (AD : Nat → Nat) (M : St) (n : Nat) (hn : 16 ≤ n) (ns nm i L : Nat) (hN : okN M ns nm) (hi : i < nm) (hL : M 13 0 i = nI L) (y : Int32) (hyo : wthF y 0 (nI L - 1) = 0) : gM Z l yX8_isLine cX8_isLine 3 (some .boolean) ({ frames := 2, cells := 0, slots := 0, locals := 43 } : Room) [.ref (AD 0), .int (nI i), .int y] (wR Z AD M n) (some (.int 0)) (wR Z AD M n) 0 0 := by
  refine gM_of (by decide +kernel) (Nat.le_of_ble_eq_true rfl) ?_
  intro pP eE sS mI aA bB mE cC A F hname hG ls hl
  have hx := F.1
  have hb := F.2.1
  have hl : lv_has ls 3 [(0, .ref (AD 0)), (1, .int (nI i)), (2, .int y)] := hl
  have hns2 := hN.2.1
  have hnm2 := hN.2.2.2.1
  refine lv_aload_n hx hb dX8_isLine_0 rfl (lv_at hl 0 rfl) ?_
  refine lv_iload_n hx hb dX8_isLine_1 rfl (lv_at hl 1 rfl) ?_
  refine gg_callV F hG (ci := 8) (As := [.int (nI i)]) (rest := []) (c_X8_isMember Z l AD M _ hn _ _ i hN hi) kY_X8_isMember kV_X8_isMember (gR_model hn) rfl rfl w4_136 rfl ⟨rfl, rfl⟩ ⟨(Nat.le_of_ble_eq_true rfl), (Nat.le_of_ble_eq_true rfl)⟩ rfl (Nat.le_of_ble_eq_true rfl) hl.1 ⟨Nat.zero_le _, Nat.zero_le _⟩ dX8_isLine_2 rfl (fun H locs hG => ?_)
  refine lv_if_eq (tgt := 31) hx hb dX8_isLine_5 (by decide) (fun h5 => absurd h5 (by decide)) (fun h5 => ?_)
  refine lv_iload_n hx hb dX8_isLine_8 rfl (lv_at hl 2 rfl) ?_
  refine lv_iconst (v := 0) hx hb dX8_isLine_9 (by decide) ?_
  refine lv_aload_n hx hb dX8_isLine_10 rfl (lv_at hl 0 rfl) ?_
  refine gg_get F hG (ci := 8) (v := .ref (AD (6 + 0))) 8 gcX8 rfl (gR_model hn) (by decide) w4_87 rfl dX8_isLine_11 ?_
  refine gg_getN F hG (ci := 7) (v := .ref (AD (10 + 0))) 5 gcX7 rfl (gR_state (by omega) hn) (by decide) wn_43 rfl dX8_isLine_14 ?_
  refine lv_iload_n hx hb dX8_isLine_17 rfl (lv_at hl 1 rfl) ?_
  refine gg_ialdN F hG i (gR_lines (by omega) hn) rfl (by omega) (by omega) dX8_isLine_18 ?_
  rw [show M 13 0 i = nI L from hL]
  refine lv_iconst (v := 1) hx hb dX8_isLine_19 (by decide) ?_
  refine lv_isub hx hb dX8_isLine_20 ?_
  refine gg_callS F hG (As := [.int y, .int 0, .int ((nI L) - 1)]) (rest := []) (c_X8_isIn Z l y 0 ((nI L) - 1) _) kY_X8_isIn kV_X8_isIn w4_118 rfl ⟨rfl, rfl⟩ ⟨(Nat.le_of_ble_eq_true rfl), (Nat.le_of_ble_eq_true rfl)⟩ rfl (Nat.le_of_ble_eq_true rfl) hl.1 ⟨Nat.zero_le _, Nat.zero_le _⟩ dX8_isLine_21 rfl (fun H locs hG => ?_)
  rw [show (wthF y 0 ((nI L) - 1) : Int32) = 0 from hyo]
  refine lv_if_eq (tgt := 31) hx hb dX8_isLine_24 (by decide) (fun h24 => ?_) (fun h24 => absurd rfl h24)
  refine lv_iconst (v := 0) hx hb dX8_isLine_31 (by decide) ?_
  exact gg_iret F hG rfl rfl rfl dX8_isLine_32
set_option maxRecDepth 100000 in
set_option maxHeartbeats 4000000 in
theorem c_X8_log (Z : gZ) (l : Launch) (AD : Nat → Nat) (M : St) (n : Nat) (hn : 16 ≤ n) (ns nm i ln L : Nat) (hN : okN M ns nm) (hi : i < nm) (hL : M 13 0 i = nI L) (hL2 : L ≤ 40) (hln : ln < L) (v : Nat) (hv : v < 4) : gM Z l yX8_log cX8_log 4 (some .int) ({ frames := 3, cells := 0, slots := 0, locals := 65 } : Room) [.ref (AD 0), .int (nI i), .int (nI ln), .int (nI v)] (wR Z AD M n) (some (.int (M 14 0 (4 * (40 * i + ln) + v)))) (wR Z AD (mu M 1 0 0 0) n) 0 0 := by
  refine gM_of (by decide +kernel) (Nat.le_of_ble_eq_true rfl) ?_
  intro pP eE sS mI aA bB mE cC A F hname hG ls hl
  have hx := F.1
  have hb := F.2.1
  have hl : lv_has ls 4 [(0, .ref (AD 0)), (1, .int (nI i)), (2, .int (nI ln)), (3, .int (nI v))] := hl
  have hns2 := hN.2.1
  have hnm2 := hN.2.2.2.1
  refine lv_aload_n hx hb dX8_log_0 rfl (lv_at hl 0 rfl) ?_
  refine lv_iconst (v := 0) hx hb dX8_log_1 (by decide) ?_
  refine gg_put F hG (ci := 8) 0 gcX8 rfl (gR_model hn) (by decide) w4_75 rfl rfl rfl (Nat.le_of_ble_eq_true rfl) (pR_1) dX8_log_2 (fun H locs hG => ?_)
  have hG : gG Z A sS (wR Z AD (mu M 1 0 0 0) n) H locs := hG
  refine lv_aload_n hx hb dX8_log_5 rfl (lv_at hl 0 rfl) ?_
  refine lv_iload_n hx hb dX8_log_6 rfl (lv_at hl 1 rfl) ?_
  refine lv_iload_n hx hb dX8_log_7 rfl (lv_at hl 2 rfl) ?_
  refine gg_callV F hG (ci := 8) (As := [.int (nI i), .int (nI ln)]) (rest := []) (c_X8_isLine Z l AD (mu M 1 0 0 0) _ hn ns nm i ln L hN hi hL hL2 hln) kY_X8_isLine kV_X8_isLine (gR_model hn) rfl rfl w4_223 rfl ⟨rfl, rfl⟩ ⟨(Nat.le_of_ble_eq_true rfl), (Nat.le_of_ble_eq_true rfl)⟩ rfl (Nat.le_of_ble_eq_true rfl) hl.1 ⟨Nat.zero_le _, Nat.zero_le _⟩ dX8_log_8 rfl (fun H locs hG => ?_)
  refine lv_if_eq (tgt := 44) hx hb dX8_log_11 (by decide) (fun h11 => absurd h11 (by decide)) (fun h11 => ?_)
  refine lv_iload_n hx hb dX8_log_14 rfl (lv_at hl 3 rfl) ?_
  refine lv_iconst (v := 0) hx hb dX8_log_15 (by decide) ?_
  refine lv_iconst (v := 3) hx hb dX8_log_16 (by decide) ?_
  refine gg_callS F hG (As := [.int (nI v), .int 0, .int 3]) (rest := []) (c_X8_isIn Z l (nI v) 0 3 _) kY_X8_isIn kV_X8_isIn w4_118 rfl ⟨rfl, rfl⟩ ⟨(Nat.le_of_ble_eq_true rfl), (Nat.le_of_ble_eq_true rfl)⟩ rfl (Nat.le_of_ble_eq_true rfl) hl.1 ⟨Nat.zero_le _, Nat.zero_le _⟩ dX8_log_17 rfl (fun H locs hG => ?_)
  rw [show (wthF (nI v) 0 3 : Int32) = 1 from wth_1 (nI_pos (by omega)) (nI_nlt (a := 3) (b := v) (by omega) (by omega))]
  refine lv_if_eq (tgt := 44) hx hb dX8_log_20 (by decide) (fun h20 => absurd h20 (by decide)) (fun h20 => ?_)
  refine lv_aload_n hx hb dX8_log_23 rfl (lv_at hl 0 rfl) ?_
  refine gg_get F hG (ci := 8) (v := .ref (AD (6 + 0))) 8 gcX8 rfl (gR_model hn) (by decide) w4_87 rfl dX8_log_24 ?_
  refine gg_getN F hG (ci := 7) (v := .ref (AD (12 + 0))) 6 gcX7 rfl (gR_state (by omega) hn) (by decide) wn_44 rfl dX8_log_27 ?_
  refine lv_iconst (v := 4) hx hb dX8_log_30 (by decide) ?_
  refine lv_bipush (v := 40) hx hb dX8_log_31 (by decide) ?_
  refine lv_iload_n hx hb dX8_log_33 rfl (lv_at hl 1 rfl) ?_
  refine lv_imul hx hb dX8_log_34 ?_
  rw [show (40 * (nI i) : Int32) = nI (40 * i) from pk_mul 40 i]
  refine lv_iload_n hx hb dX8_log_35 rfl (lv_at hl 2 rfl) ?_
  refine lv_iadd hx hb dX8_log_36 ?_
  rw [show ((nI (40 * i)) + (nI ln) : Int32) = nI (40 * i + ln) from nI_add _ _]
  refine lv_imul hx hb dX8_log_37 ?_
  rw [show (4 * (nI (40 * i + ln)) : Int32) = nI (4 * (40 * i + ln)) from pk_mul 4 _]
  refine lv_iload_n hx hb dX8_log_38 rfl (lv_at hl 3 rfl) ?_
  refine lv_iadd hx hb dX8_log_39 ?_
  rw [show ((nI (4 * (40 * i + ln))) + (nI v) : Int32) = nI (4 * (40 * i + ln) + v) from nI_add _ _]
  refine gg_ialdN F hG (4 * (40 * i + ln) + v) (gR_log (by omega) hn) rfl (by omega) (by omega) dX8_log_40 ?_
  refine lv_goto (tgt := 49) hx hb dX8_log_41 (by decide) ?_
  exact gg_iret F hG rfl rfl rfl dX8_log_49
set_option maxRecDepth 100000 in
set_option maxHeartbeats 4000000 in
theorem c_X8_log_m (Z : gZ) (l : Launch) (AD : Nat → Nat) (M : St) (n : Nat) (hn : 16 ≤ n) (ns nm : Nat) (hN : okN M ns nm) (x y z : Int32) (hxo : x < 0 ∨ nI nm ≤ x) : gM Z l yX8_log cX8_log 4 (some .int) ({ frames := 3, cells := 0, slots := 0, locals := 65 } : Room) [.ref (AD 0), .int x, .int y, .int z] (wR Z AD M n) (some (.int 0)) (wR Z AD (mu (mu M 1 0 0 0) 1 0 0 1) n) 0 0 := by
  refine gM_of (by decide +kernel) (Nat.le_of_ble_eq_true rfl) ?_
  intro pP eE sS mI aA bB mE cC A F hname hG ls hl
  have hx := F.1
  have hb := F.2.1
  have hl : lv_has ls 4 [(0, .ref (AD 0)), (1, .int x), (2, .int y), (3, .int z)] := hl
  refine lv_aload_n hx hb dX8_log_0 rfl (lv_at hl 0 rfl) ?_
  refine lv_iconst (v := 0) hx hb dX8_log_1 (by decide) ?_
  refine gg_put F hG (ci := 8) 0 gcX8 rfl (gR_model hn) (by decide) w4_75 rfl rfl rfl (Nat.le_of_ble_eq_true rfl) (pR_1) dX8_log_2 (fun H locs hG => ?_)
  have hG : gG Z A sS (wR Z AD (mu M 1 0 0 0) n) H locs := hG
  refine lv_aload_n hx hb dX8_log_5 rfl (lv_at hl 0 rfl) ?_
  refine lv_iload_n hx hb dX8_log_6 rfl (lv_at hl 1 rfl) ?_
  refine lv_iload_n hx hb dX8_log_7 rfl (lv_at hl 2 rfl) ?_
  refine gg_callV F hG (ci := 8) (As := [.int x, .int y]) (rest := []) (c_X8_isLine_m Z l AD (mu M 1 0 0 0) _ hn ns nm hN x y hxo) kY_X8_isLine kV_X8_isLine (gR_model hn) rfl rfl w4_223 rfl ⟨rfl, rfl⟩ ⟨(Nat.le_of_ble_eq_true rfl), (Nat.le_of_ble_eq_true rfl)⟩ rfl (Nat.le_of_ble_eq_true rfl) hl.1 ⟨Nat.zero_le _, Nat.zero_le _⟩ dX8_log_8 rfl (fun H locs hG => ?_)
  refine lv_if_eq (tgt := 44) hx hb dX8_log_11 (by decide) (fun h11 => ?_) (fun h11 => absurd rfl h11)
  refine lv_aload_n hx hb dX8_log_44 rfl (lv_at hl 0 rfl) ?_
  refine lv_iconst (v := 1) hx hb dX8_log_45 (by decide) ?_
  refine gg_callV F hG (ci := 8) (As := [.int 1]) (rest := []) (c_X8_no Z l AD (mu M 1 0 0 0) _ hn 1) kY_X8_no kV_X8_no (gR_model hn) rfl rfl w4_121 rfl ⟨rfl, rfl⟩ ⟨(Nat.le_of_ble_eq_true rfl), (Nat.le_of_ble_eq_true rfl)⟩ rfl (Nat.le_of_ble_eq_true rfl) hl.1 ⟨Nat.zero_le _, Nat.zero_le _⟩ dX8_log_46 rfl (fun H locs hG => ?_)
  exact gg_iret F hG rfl rfl rfl dX8_log_49
set_option maxRecDepth 100000 in
set_option maxHeartbeats 4000000 in
theorem c_X8_log_l (Z : gZ) (l : Launch) (AD : Nat → Nat) (M : St) (n : Nat) (hn : 16 ≤ n) (ns nm i L : Nat) (hN : okN M ns nm) (hi : i < nm) (hL : M 13 0 i = nI L) (y z : Int32) (hyo : wthF y 0 (nI L - 1) = 0) : gM Z l yX8_log cX8_log 4 (some .int) ({ frames := 3, cells := 0, slots := 0, locals := 65 } : Room) [.ref (AD 0), .int (nI i), .int y, .int z] (wR Z AD M n) (some (.int 0)) (wR Z AD (mu (mu M 1 0 0 0) 1 0 0 1) n) 0 0 := by
  refine gM_of (by decide +kernel) (Nat.le_of_ble_eq_true rfl) ?_
  intro pP eE sS mI aA bB mE cC A F hname hG ls hl
  have hx := F.1
  have hb := F.2.1
  have hl : lv_has ls 4 [(0, .ref (AD 0)), (1, .int (nI i)), (2, .int y), (3, .int z)] := hl
  refine lv_aload_n hx hb dX8_log_0 rfl (lv_at hl 0 rfl) ?_
  refine lv_iconst (v := 0) hx hb dX8_log_1 (by decide) ?_
  refine gg_put F hG (ci := 8) 0 gcX8 rfl (gR_model hn) (by decide) w4_75 rfl rfl rfl (Nat.le_of_ble_eq_true rfl) (pR_1) dX8_log_2 (fun H locs hG => ?_)
  have hG : gG Z A sS (wR Z AD (mu M 1 0 0 0) n) H locs := hG
  refine lv_aload_n hx hb dX8_log_5 rfl (lv_at hl 0 rfl) ?_
  refine lv_iload_n hx hb dX8_log_6 rfl (lv_at hl 1 rfl) ?_
  refine lv_iload_n hx hb dX8_log_7 rfl (lv_at hl 2 rfl) ?_
  refine gg_callV F hG (ci := 8) (As := [.int (nI i), .int y]) (rest := []) (c_X8_isLine_l Z l AD (mu M 1 0 0 0) _ hn ns nm i L hN hi hL y hyo) kY_X8_isLine kV_X8_isLine (gR_model hn) rfl rfl w4_223 rfl ⟨rfl, rfl⟩ ⟨(Nat.le_of_ble_eq_true rfl), (Nat.le_of_ble_eq_true rfl)⟩ rfl (Nat.le_of_ble_eq_true rfl) hl.1 ⟨Nat.zero_le _, Nat.zero_le _⟩ dX8_log_8 rfl (fun H locs hG => ?_)
  refine lv_if_eq (tgt := 44) hx hb dX8_log_11 (by decide) (fun h11 => ?_) (fun h11 => absurd rfl h11)
  refine lv_aload_n hx hb dX8_log_44 rfl (lv_at hl 0 rfl) ?_
  refine lv_iconst (v := 1) hx hb dX8_log_45 (by decide) ?_
  refine gg_callV F hG (ci := 8) (As := [.int 1]) (rest := []) (c_X8_no Z l AD (mu M 1 0 0 0) _ hn 1) kY_X8_no kV_X8_no (gR_model hn) rfl rfl w4_121 rfl ⟨rfl, rfl⟩ ⟨(Nat.le_of_ble_eq_true rfl), (Nat.le_of_ble_eq_true rfl)⟩ rfl (Nat.le_of_ble_eq_true rfl) hl.1 ⟨Nat.zero_le _, Nat.zero_le _⟩ dX8_log_46 rfl (fun H locs hG => ?_)
  exact gg_iret F hG rfl rfl rfl dX8_log_49
set_option maxRecDepth 100000 in
set_option maxHeartbeats 4000000 in
theorem c_X8_log_w (Z : gZ) (l : Launch) (AD : Nat → Nat) (M : St) (n : Nat) (hn : 16 ≤ n) (ns nm i ln L : Nat) (hN : okN M ns nm) (hi : i < nm) (hL : M 13 0 i = nI L) (hL2 : L ≤ 40) (hln : ln < L) (z : Int32) (hzo : wthF z 0 3 = 0) : gM Z l yX8_log cX8_log 4 (some .int) ({ frames := 3, cells := 0, slots := 0, locals := 65 } : Room) [.ref (AD 0), .int (nI i), .int (nI ln), .int z] (wR Z AD M n) (some (.int 0)) (wR Z AD (mu (mu M 1 0 0 0) 1 0 0 1) n) 0 0 := by
  refine gM_of (by decide +kernel) (Nat.le_of_ble_eq_true rfl) ?_
  intro pP eE sS mI aA bB mE cC A F hname hG ls hl
  have hx := F.1
  have hb := F.2.1
  have hl : lv_has ls 4 [(0, .ref (AD 0)), (1, .int (nI i)), (2, .int (nI ln)), (3, .int z)] := hl
  refine lv_aload_n hx hb dX8_log_0 rfl (lv_at hl 0 rfl) ?_
  refine lv_iconst (v := 0) hx hb dX8_log_1 (by decide) ?_
  refine gg_put F hG (ci := 8) 0 gcX8 rfl (gR_model hn) (by decide) w4_75 rfl rfl rfl (Nat.le_of_ble_eq_true rfl) (pR_1) dX8_log_2 (fun H locs hG => ?_)
  have hG : gG Z A sS (wR Z AD (mu M 1 0 0 0) n) H locs := hG
  refine lv_aload_n hx hb dX8_log_5 rfl (lv_at hl 0 rfl) ?_
  refine lv_iload_n hx hb dX8_log_6 rfl (lv_at hl 1 rfl) ?_
  refine lv_iload_n hx hb dX8_log_7 rfl (lv_at hl 2 rfl) ?_
  refine gg_callV F hG (ci := 8) (As := [.int (nI i), .int (nI ln)]) (rest := []) (c_X8_isLine Z l AD (mu M 1 0 0 0) _ hn ns nm i ln L hN hi hL hL2 hln) kY_X8_isLine kV_X8_isLine (gR_model hn) rfl rfl w4_223 rfl ⟨rfl, rfl⟩ ⟨(Nat.le_of_ble_eq_true rfl), (Nat.le_of_ble_eq_true rfl)⟩ rfl (Nat.le_of_ble_eq_true rfl) hl.1 ⟨Nat.zero_le _, Nat.zero_le _⟩ dX8_log_8 rfl (fun H locs hG => ?_)
  refine lv_if_eq (tgt := 44) hx hb dX8_log_11 (by decide) (fun h11 => absurd h11 (by decide)) (fun h11 => ?_)
  refine lv_iload_n hx hb dX8_log_14 rfl (lv_at hl 3 rfl) ?_
  refine lv_iconst (v := 0) hx hb dX8_log_15 (by decide) ?_
  refine lv_iconst (v := 3) hx hb dX8_log_16 (by decide) ?_
  refine gg_callS F hG (As := [.int z, .int 0, .int 3]) (rest := []) (c_X8_isIn Z l z 0 3 _) kY_X8_isIn kV_X8_isIn w4_118 rfl ⟨rfl, rfl⟩ ⟨(Nat.le_of_ble_eq_true rfl), (Nat.le_of_ble_eq_true rfl)⟩ rfl (Nat.le_of_ble_eq_true rfl) hl.1 ⟨Nat.zero_le _, Nat.zero_le _⟩ dX8_log_17 rfl (fun H locs hG => ?_)
  rw [show (wthF z 0 3 : Int32) = 0 from hzo]
  refine lv_if_eq (tgt := 44) hx hb dX8_log_20 (by decide) (fun h20 => ?_) (fun h20 => absurd rfl h20)
  refine lv_aload_n hx hb dX8_log_44 rfl (lv_at hl 0 rfl) ?_
  refine lv_iconst (v := 1) hx hb dX8_log_45 (by decide) ?_
  refine gg_callV F hG (ci := 8) (As := [.int 1]) (rest := []) (c_X8_no Z l AD (mu M 1 0 0 0) _ hn 1) kY_X8_no kV_X8_no (gR_model hn) rfl rfl w4_121 rfl ⟨rfl, rfl⟩ ⟨(Nat.le_of_ble_eq_true rfl), (Nat.le_of_ble_eq_true rfl)⟩ rfl (Nat.le_of_ble_eq_true rfl) hl.1 ⟨Nat.zero_le _, Nat.zero_le _⟩ dX8_log_46 rfl (fun H locs hG => ?_)
  exact gg_iret F hG rfl rfl rfl dX8_log_49
set_option maxRecDepth 100000 in
set_option maxHeartbeats 4000000 in
theorem c_X8_write (Z : gZ) (l : Launch) (AD : Nat → Nat) (M : St) (n : Nat) (hn : 16 ≤ n) (ns nm i ln L : Nat) (hN : okN M ns nm) (hi : i < nm) (hL : M 13 0 i = nI L) (hL2 : L ≤ 40) (hln : ln < L) (q : Nat) (hq : M 9 0 0 = nI q) (hq2 : q ≤ 30) (k : Nat) (hk : k < ns) (hst2 : M 14 0 (4 * (40 * i + ln) + 1) = nI k) (hcf : ¬ M 14 0 (4 * (40 * i + ln) + 3) = 1) (how : owL (mu M 1 0 0 0) (nI (40 * i + ln)) q = 0) (hq3 : q < 30) : gM Z l yX8_write cX8_write 6 (some .int) ({ frames := 3, cells := 0, slots := 0, locals := 65 } : Room) [.ref (AD 0), .int (nI i), .int (nI ln)] (wR Z AD M n) (some (.int (duR M k))) (wR Z AD (wtR M i ln k q) n) 0 0 := by
  refine gM_of (by decide +kernel) (Nat.le_of_ble_eq_true rfl) ?_
  intro pP eE sS mI aA bB mE cC A F hname hG ls hl
  have hx := F.1
  have hb := F.2.1
  have hl : lv_has ls 6 [(0, .ref (AD 0)), (1, .int (nI i)), (2, .int (nI ln))] := hl
  have hns2 := hN.2.1
  have hnm2 := hN.2.2.2.1
  refine lv_aload_n hx hb dX8_write_0 rfl (lv_at hl 0 rfl) ?_
  refine lv_iconst (v := 0) hx hb dX8_write_1 (by decide) ?_
  refine gg_put F hG (ci := 8) 0 gcX8 rfl (gR_model hn) (by decide) w4_75 rfl rfl rfl (Nat.le_of_ble_eq_true rfl) (pR_1) dX8_write_2 (fun H locs hG => ?_)
  have hG : gG Z A sS (wR Z AD (mu M 1 0 0 0) n) H locs := hG
  refine lv_aload_n hx hb dX8_write_5 rfl (lv_at hl 0 rfl) ?_
  refine lv_iload_n hx hb dX8_write_6 rfl (lv_at hl 1 rfl) ?_
  refine lv_iload_n hx hb dX8_write_7 rfl (lv_at hl 2 rfl) ?_
  refine gg_callV F hG (ci := 8) (As := [.int (nI i), .int (nI ln)]) (rest := []) (c_X8_isLine Z l AD (mu M 1 0 0 0) _ hn ns nm i ln L hN hi hL hL2 hln) kY_X8_isLine kV_X8_isLine (gR_model hn) rfl rfl w4_223 rfl ⟨rfl, rfl⟩ ⟨(Nat.le_of_ble_eq_true rfl), (Nat.le_of_ble_eq_true rfl)⟩ rfl (Nat.le_of_ble_eq_true rfl) hl.1 ⟨Nat.zero_le _, Nat.zero_le _⟩ dX8_write_8 rfl (fun H locs hG => ?_)
  refine lv_if_ne (tgt := 20) hx hb dX8_write_11 (by decide) (fun h11 => ?_) (fun h11 => absurd h11 (by decide))
  refine lv_bipush (v := 40) hx hb dX8_write_20 (by decide) ?_
  refine lv_iload_n hx hb dX8_write_22 rfl (lv_at hl 1 rfl) ?_
  refine lv_imul hx hb dX8_write_23 ?_
  rw [show (40 * (nI i) : Int32) = nI (40 * i) from pk_mul 40 i]
  refine lv_iload_n hx hb dX8_write_24 rfl (lv_at hl 2 rfl) ?_
  refine lv_iadd hx hb dX8_write_25 ?_
  rw [show ((nI (40 * i)) + (nI ln) : Int32) = nI (40 * i + ln) from nI_add _ _]
  refine lv_istore_n (lv' := [(3, .int (nI (40 * i + ln))), (0, .ref (AD 0)), (1, .int (nI i)), (2, .int (nI ln))]) hx hb dX8_write_26 rfl hl (by decide) rfl (fun ls hl => ?_)
  refine lv_iconst (v := 0) hx hb dX8_write_27 (by decide) ?_
  refine lv_istore (lv' := [(4, .int 0), (3, .int (nI (40 * i + ln))), (0, .ref (AD 0)), (1, .int (nI i)), (2, .int (nI ln))]) hx hb dX8_write_28 hl (by decide) rfl (fun ls hl => ?_)
  refine lv_iconst (v := nI 0) hx hb dX8_write_30 rfl ?_
  refine lv_istore (lv' := [(5, .int (nI 0)), (4, .int 0), (3, .int (nI (40 * i + ln))), (0, .ref (AD 0)), (1, .int (nI i)), (2, .int (nI ln))]) hx hb dX8_write_31 hl (by decide) rfl (fun ls hl => ?_)
  have loop33 : ∀ (fuQ k0 : Nat), k0 ≤ q → q + 1 ≤ k0 + fuQ → ∀ (H : Heap) (locs : List Loc), gG Z A sS (wR Z AD (mu M 1 0 0 0) n) H locs → ∀ ls : Array Slot, lv_has ls 6 [(0, .ref (AD 0)), (1, .int (nI i)), (2, .int (nI ln)), (3, .int (nI (40 * i + ln))), (4, .int (owL (mu M 1 0 0 0) (nI (40 * i + ln)) k0)), (5, .int (nI k0))] → W pP l eE ({ frames := 3, cells := 0, slots := 0, locals := 65 } : Room) sS mI aA bB mE cC H locs 0 0 (MQ bB (gQ Z A (some (.int (duR M k))) (wR Z AD (wtR M i ln k q) n)) aA sS 0 0 A) (F0 mI 33 ls []) := by
    intro fuQ
    induction fuQ with
    | zero =>
      intro k0 h1 h2
      exact absurd h2 (by omega)
    | succ fuQ ih33 =>
      intro k0 hleQ hfuQ H locs hG ls hl
      by_cases hlt : k0 < q
      · refine lv_iload hx hb dX8_write_33 (lv_at hl 5 rfl) ?_
        refine lv_aload_n hx hb dX8_write_35 rfl (lv_at hl 0 rfl) ?_
        refine gg_get F hG (ci := 8) (v := .ref (AD (6 + 0))) 8 gcX8 rfl (gR_model hn) (by decide) w4_87 rfl dX8_write_36 ?_
        refine gg_getN F hG (ci := 7) (v := .int (nI q)) 1 gcX7 rfl (gR_state (by omega) hn) (by decide) wn_39 (congrArg (fun z => some (Value.int z)) hq) dX8_write_39 ?_
        refine lv_icmp_ge (tgt := 77) hx hb dX8_write_42 (by decide) (fun h42 => absurd h42 (nI_ge hlt (by omega))) (fun h42 => ?_)
        refine lv_iload hx hb dX8_write_45 (lv_at hl 4 rfl) ?_
        refine lv_aload_n hx hb dX8_write_47 rfl (lv_at hl 0 rfl) ?_
        refine gg_get F hG (ci := 8) (v := .ref (AD (6 + 0))) 8 gcX8 rfl (gR_model hn) (by decide) w4_87 rfl dX8_write_48 ?_
        refine gg_getN F hG (ci := 7) (v := .ref (AD (14 + 0))) 7 gcX7 rfl (gR_state (by omega) hn) (by decide) wn_45 rfl dX8_write_51 ?_
        refine lv_iconst (v := 2) hx hb dX8_write_54 (by decide) ?_
        refine lv_iload hx hb dX8_write_55 (lv_at hl 5 rfl) ?_
        refine lv_imul hx hb dX8_write_57 ?_
        rw [show (2 * (nI k0) : Int32) = nI (2 * k0) from pk_mul 2 k0]
        refine gg_ialdN F hG (2 * k0) (gR_mail (by omega) hn) rfl (by omega) (by omega) dX8_write_58 ?_
        refine lv_iload_n hx hb dX8_write_59 rfl (lv_at hl 3 rfl) ?_
        refine lv_icmp_ne (tgt := 67) hx hb dX8_write_60 (by decide) (fun h60 => ?_) (fun h60 => ?_)
        · refine lv_iconst (v := 0) hx hb dX8_write_67 (by decide) ?_
          refine lv_ior hx hb dX8_write_68 ?_
          refine lv_istore (lv' := [(4, .int ((owL (mu M 1 0 0 0) (nI (40 * i + ln)) k0) ||| 0)), (0, .ref (AD 0)), (1, .int (nI i)), (2, .int (nI ln)), (3, .int (nI (40 * i + ln))), (5, .int (nI k0))]) hx hb dX8_write_69 hl (by decide) rfl (fun ls hl => ?_)
          refine lv_iinc (v := nI (k0 + 1)) (lv' := [(5, .int (nI (k0 + 1))), (4, .int ((owL (mu M 1 0 0 0) (nI (40 * i + ln)) k0) ||| 0)), (0, .ref (AD 0)), (1, .int (nI i)), (2, .int (nI ln)), (3, .int (nI (40 * i + ln)))]) hx hb dX8_write_71 hl (k := 5) rfl (nI_1 _) (by decide) rfl (fun ls hl => ?_)
          refine lv_goto (tgt := 33) hx hb dX8_write_74 (by decide) ?_
          have e9 : owL (mu M 1 0 0 0) (nI (40 * i + ln)) (k0 + 1) = owL (mu M 1 0 0 0) (nI (40 * i + ln)) k0 ||| 0 := congrArg (owL (mu M 1 0 0 0) (nI (40 * i + ln)) k0 ||| ·) (if_neg h60)
          exact ih33 (k0 + 1) (by omega) (by omega) _ _ hG ls (by rw [e9]; exact lv_sub hl [2, 3, 4, 5, 1, 0] rfl)
        · refine lv_iconst (v := 1) hx hb dX8_write_63 (by decide) ?_
          refine lv_goto (tgt := 68) hx hb dX8_write_64 (by decide) ?_
          refine lv_ior hx hb dX8_write_68 ?_
          refine lv_istore (lv' := [(4, .int ((owL (mu M 1 0 0 0) (nI (40 * i + ln)) k0) ||| 1)), (0, .ref (AD 0)), (1, .int (nI i)), (2, .int (nI ln)), (3, .int (nI (40 * i + ln))), (5, .int (nI k0))]) hx hb dX8_write_69 hl (by decide) rfl (fun ls hl => ?_)
          refine lv_iinc (v := nI (k0 + 1)) (lv' := [(5, .int (nI (k0 + 1))), (4, .int ((owL (mu M 1 0 0 0) (nI (40 * i + ln)) k0) ||| 1)), (0, .ref (AD 0)), (1, .int (nI i)), (2, .int (nI ln)), (3, .int (nI (40 * i + ln)))]) hx hb dX8_write_71 hl (k := 5) rfl (nI_1 _) (by decide) rfl (fun ls hl => ?_)
          refine lv_goto (tgt := 33) hx hb dX8_write_74 (by decide) ?_
          have e9 : owL (mu M 1 0 0 0) (nI (40 * i + ln)) (k0 + 1) = owL (mu M 1 0 0 0) (nI (40 * i + ln)) k0 ||| 1 := congrArg (owL (mu M 1 0 0 0) (nI (40 * i + ln)) k0 ||| ·) (if_pos h60)
          exact ih33 (k0 + 1) (by omega) (by omega) _ _ hG ls (by rw [e9]; exact lv_sub hl [2, 3, 4, 5, 1, 0] rfl)
      · have hN : q = k0 := by omega
        subst hN
        refine lv_iload hx hb dX8_write_33 (lv_at hl 5 rfl) ?_
        refine lv_aload_n hx hb dX8_write_35 rfl (lv_at hl 0 rfl) ?_
        refine gg_get F hG (ci := 8) (v := .ref (AD (6 + 0))) 8 gcX8 rfl (gR_model hn) (by decide) w4_87 rfl dX8_write_36 ?_
        refine gg_getN F hG (ci := 7) (v := .int (nI q)) 1 gcX7 rfl (gR_state (by omega) hn) (by decide) wn_39 (congrArg (fun z => some (Value.int z)) hq) dX8_write_39 ?_
        refine lv_icmp_ge (tgt := 77) hx hb dX8_write_42 (by decide) (fun h42 => ?_) (fun h42 => absurd (nI_le (Nat.le_refl _) (by omega)) h42)
        refine lv_aload_n hx hb dX8_write_77 rfl (lv_at hl 0 rfl) ?_
        refine gg_get F hG (ci := 8) (v := .ref (AD (6 + 0))) 8 gcX8 rfl (gR_model hn) (by decide) w4_87 rfl dX8_write_78 ?_
        refine gg_getN F hG (ci := 7) (v := .ref (AD (12 + 0))) 6 gcX7 rfl (gR_state (by omega) hn) (by decide) wn_44 rfl dX8_write_81 ?_
        refine lv_iconst (v := 4) hx hb dX8_write_84 (by decide) ?_
        refine lv_iload_n hx hb dX8_write_85 rfl (lv_at hl 3 rfl) ?_
        refine lv_imul hx hb dX8_write_86 ?_
        rw [show (4 * (nI (40 * i + ln)) : Int32) = nI (4 * (40 * i + ln)) from pk_mul 4 _]
        refine lv_iconst (v := 3) hx hb dX8_write_87 (by decide) ?_
        refine lv_iadd hx hb dX8_write_88 ?_
        rw [show ((nI (4 * (40 * i + ln))) + 3 : Int32) = nI (4 * (40 * i + ln) + 3) from nI_add _ _]
        refine gg_ialdN F hG (4 * (40 * i + ln) + 3) (gR_log (by omega) hn) rfl (by omega) (by omega) dX8_write_89 ?_
        refine lv_iconst (v := 1) hx hb dX8_write_90 (by decide) ?_
        refine lv_icmp_eq (tgt := 111) hx hb dX8_write_91 (by decide) (fun h91 => absurd h91 hcf) (fun h91 => ?_)
        refine lv_iload hx hb dX8_write_94 (lv_at hl 4 rfl) ?_
        refine lv_if_ne (tgt := 111) hx hb dX8_write_96 (by decide) (fun h96 => absurd how h96) (fun h96 => ?_)
        refine lv_aload_n hx hb dX8_write_99 rfl (lv_at hl 0 rfl) ?_
        refine gg_get F hG (ci := 8) (v := .ref (AD (6 + 0))) 8 gcX8 rfl (gR_model hn) (by decide) w4_87 rfl dX8_write_100 ?_
        refine gg_getN F hG (ci := 7) (v := .int (nI q)) 1 gcX7 rfl (gR_state (by omega) hn) (by decide) wn_39 (congrArg (fun z => some (Value.int z)) hq) dX8_write_103 ?_
        refine lv_bipush (v := 30) hx hb dX8_write_106 (by decide) ?_
        refine lv_icmp_ne (tgt := 117) hx hb dX8_write_108 (by decide) (fun h108 => ?_) (fun h108 => absurd h108 (fun z => absurd (show q = 30 from nI_inj (by omega) (by omega) z) (by omega)))
        refine lv_aload_n hx hb dX8_write_117 rfl (lv_at hl 0 rfl) ?_
        refine gg_get F hG (ci := 8) (v := .ref (AD (6 + 0))) 8 gcX8 rfl (gR_model hn) (by decide) w4_87 rfl dX8_write_118 ?_
        refine gg_getN F hG (ci := 7) (v := .int ((mu M 1 0 0 0) 8 0 0)) 0 gcX7 rfl (gR_state (by omega) hn) (by decide) wn_38 rfl dX8_write_121 ?_
        refine lv_bipush (v := 24) hx hb dX8_write_124 (by decide) ?_
        refine lv_aload_n hx hb dX8_write_126 rfl (lv_at hl 0 rfl) ?_
        refine gg_get F hG (ci := 8) (v := .ref (AD 1)) 3 gcX8 rfl (gR_model hn) (by decide) w4_79 rfl dX8_write_127 ?_
        refine lv_bipush (v := 6) hx hb dX8_write_130 (by decide) ?_
        refine lv_aload_n hx hb dX8_write_132 rfl (lv_at hl 0 rfl) ?_
        refine gg_get F hG (ci := 8) (v := .ref (AD (6 + 0))) 8 gcX8 rfl (gR_model hn) (by decide) w4_87 rfl dX8_write_133 ?_
        refine gg_getN F hG (ci := 7) (v := .ref (AD (12 + 0))) 6 gcX7 rfl (gR_state (by omega) hn) (by decide) wn_44 rfl dX8_write_136 ?_
        refine lv_iconst (v := 4) hx hb dX8_write_139 (by decide) ?_
        refine lv_iload_n hx hb dX8_write_140 rfl (lv_at hl 3 rfl) ?_
        refine lv_imul hx hb dX8_write_141 ?_
        rw [show (4 * (nI (40 * i + ln)) : Int32) = nI (4 * (40 * i + ln)) from pk_mul 4 _]
        refine lv_iconst (v := 1) hx hb dX8_write_142 (by decide) ?_
        refine lv_iadd hx hb dX8_write_143 ?_
        rw [show ((nI (4 * (40 * i + ln))) + 1 : Int32) = nI (4 * (40 * i + ln) + 1) from nI_add _ _]
        refine gg_ialdN F hG (4 * (40 * i + ln) + 1) (gR_log (by omega) hn) rfl (by omega) (by omega) dX8_write_144 ?_
        rw [show (mu M 1 0 0 0) 14 0 (4 * (40 * i + ln) + 1) = nI k from hst2]
        refine lv_imul hx hb dX8_write_145 ?_
        rw [show (6 * (nI k) : Int32) = nI (6 * k) from pk_mul 6 k]
        refine lv_iconst (v := 2) hx hb dX8_write_146 (by decide) ?_
        refine lv_iadd hx hb dX8_write_147 ?_
        rw [show ((nI (6 * k)) + 2 : Int32) = nI (6 * k + 2) from nI_add _ _]
        refine gg_ialdN F hG (6 * k + 2) (gR_air hn) rfl (by omega) (by omega) dX8_write_148 ?_
        refine lv_bipush (v := 10) hx hb dX8_write_149 (by decide) ?_
        refine lv_idiv hx hb dX8_write_151 (by decide) ?_
        refine lv_iconst (v := 2) hx hb dX8_write_152 (by decide) ?_
        refine lv_iadd hx hb dX8_write_153 ?_
        refine lv_imul hx hb dX8_write_154 ?_
        refine lv_iadd hx hb dX8_write_155 ?_
        refine lv_istore (lv' := [(5, .int (((mu M 1 0 0 0) 8 0 0) + (24 * ((((mu M 1 0 0 0) 0 0 (6 * k + 2)) / 10) + 2)))), (0, .ref (AD 0)), (1, .int (nI i)), (2, .int (nI ln)), (3, .int (nI (40 * i + ln))), (4, .int (owL (mu M 1 0 0 0) (nI (40 * i + ln)) q))]) hx hb dX8_write_156 hl (by decide) rfl (fun ls hl => ?_)
        refine lv_aload_n hx hb dX8_write_158 rfl (lv_at hl 1 rfl) ?_
        refine gg_get F hG (ci := 8) (v := .ref (AD (6 + 0))) 8 gcX8 rfl (gR_model hn) (by decide) w4_87 rfl dX8_write_159 ?_
        refine gg_getN F hG (ci := 7) (v := .ref (AD (14 + 0))) 7 gcX7 rfl (gR_state (by omega) hn) (by decide) wn_45 rfl dX8_write_162 ?_
        refine lv_iconst (v := 2) hx hb dX8_write_165 (by decide) ?_
        refine lv_aload_n hx hb dX8_write_166 rfl (lv_at hl 1 rfl) ?_
        refine gg_get F hG (ci := 8) (v := .ref (AD (6 + 0))) 8 gcX8 rfl (gR_model hn) (by decide) w4_87 rfl dX8_write_167 ?_
        refine gg_getN F hG (ci := 7) (v := .int (nI q)) 1 gcX7 rfl (gR_state (by omega) hn) (by decide) wn_39 (congrArg (fun z => some (Value.int z)) hq) dX8_write_170 ?_
        refine lv_imul hx hb dX8_write_173 ?_
        rw [show (2 * (nI q) : Int32) = nI (2 * q) from pk_mul 2 q]
        refine lv_iload_n hx hb dX8_write_174 rfl (lv_at hl 4 rfl) ?_
        refine gg_iastN F hG (2 * q) (gR_mail (by omega) hn) rfl (by omega) (by omega) (pR_15 (by omega)) dX8_write_175 (fun H locs hG => ?_)
        have hG : gG Z A sS (wR Z AD (mu (mu M 1 0 0 0) 15 0 (2 * q) (nI (40 * i + ln))) n) H locs := hG
        refine lv_aload_n hx hb dX8_write_176 rfl (lv_at hl 1 rfl) ?_
        refine gg_get F hG (ci := 8) (v := .ref (AD (6 + 0))) 8 gcX8 rfl (gR_model hn) (by decide) w4_87 rfl dX8_write_177 ?_
        refine gg_getN F hG (ci := 7) (v := .ref (AD (14 + 0))) 7 gcX7 rfl (gR_state (by omega) hn) (by decide) wn_45 rfl dX8_write_180 ?_
        refine lv_iconst (v := 2) hx hb dX8_write_183 (by decide) ?_
        refine lv_aload_n hx hb dX8_write_184 rfl (lv_at hl 1 rfl) ?_
        refine gg_get F hG (ci := 8) (v := .ref (AD (6 + 0))) 8 gcX8 rfl (gR_model hn) (by decide) w4_87 rfl dX8_write_185 ?_
        refine gg_getN F hG (ci := 7) (v := .int (nI q)) 1 gcX7 rfl (gR_state (by omega) hn) (by decide) wn_39 (congrArg (fun z => some (Value.int z)) hq) dX8_write_188 ?_
        refine lv_imul hx hb dX8_write_191 ?_
        rw [show (2 * (nI q) : Int32) = nI (2 * q) from pk_mul 2 q]
        refine lv_iconst (v := 1) hx hb dX8_write_192 (by decide) ?_
        refine lv_iadd hx hb dX8_write_193 ?_
        rw [show ((nI (2 * q)) + 1 : Int32) = nI (2 * q + 1) from nI_add _ _]
        refine lv_iload hx hb dX8_write_194 (lv_at hl 0 rfl) ?_
        refine gg_iastN F hG (2 * q + 1) (gR_mail (by omega) hn) rfl (by omega) (by omega) (pR_15 (by omega)) dX8_write_196 (fun H locs hG => ?_)
        have hG : gG Z A sS (wR Z AD (mu (mu (mu M 1 0 0 0) 15 0 (2 * q) (nI (40 * i + ln))) 15 0 (2 * q + 1) (((mu M 1 0 0 0) 8 0 0) + (24 * ((((mu M 1 0 0 0) 0 0 (6 * k + 2)) / 10) + 2)))) n) H locs := hG
        refine lv_aload_n hx hb dX8_write_197 rfl (lv_at hl 1 rfl) ?_
        refine gg_get F hG (ci := 8) (v := .ref (AD (6 + 0))) 8 gcX8 rfl (gR_model hn) (by decide) w4_87 rfl dX8_write_198 ?_
        refine lv_dup hx hb dX8_write_201 rfl ?_
        refine gg_getN F hG (ci := 7) (v := .int (nI q)) 1 gcX7 rfl (gR_state (by omega) hn) (by decide) wn_39 (congrArg (fun z => some (Value.int z)) hq) dX8_write_202 ?_
        refine lv_iconst (v := 1) hx hb dX8_write_205 (by decide) ?_
        refine lv_iadd hx hb dX8_write_206 ?_
        rw [show ((nI q) + 1 : Int32) = nI (q + 1) from nI_1 _]
        refine gg_putN F hG (ci := 7) 1 gcX7 rfl (gR_state (by omega) hn) (by decide) wn_39 rfl rfl rfl (Nat.le_of_ble_eq_true rfl) (pR_9 (by omega)) dX8_write_207 (fun H locs hG => ?_)
        have hG : gG Z A sS (wR Z AD (mu (mu (mu (mu M 1 0 0 0) 15 0 (2 * q) (nI (40 * i + ln))) 15 0 (2 * q + 1) (((mu M 1 0 0 0) 8 0 0) + (24 * ((((mu M 1 0 0 0) 0 0 (6 * k + 2)) / 10) + 2)))) 9 0 0 (nI (q + 1))) n) H locs := hG
        refine lv_iload hx hb dX8_write_210 (lv_at hl 0 rfl) ?_
        exact gg_iret F hG rfl rfl rfl dX8_write_212
  exact loop33 (q + 1) 0 (Nat.zero_le _) (by omega) _ _ hG ls (lv_sub hl [3, 4, 5, 2, 1, 0] rfl)
set_option maxRecDepth 100000 in
set_option maxHeartbeats 4000000 in
theorem c_X8_write_s (Z : gZ) (l : Launch) (AD : Nat → Nat) (M : St) (n : Nat) (hn : 16 ≤ n) (ns nm i ln L : Nat) (hN : okN M ns nm) (hi : i < nm) (hL : M 13 0 i = nI L) (hL2 : L ≤ 40) (hln : ln < L) (q : Nat) (hq : M 9 0 0 = nI q) (hq2 : q ≤ 30) (ho : M 14 0 (4 * (40 * i + ln) + 3) = 1 ∨ ¬ owL (mu M 1 0 0 0) (nI (40 * i + ln)) q = 0 ∨ ¬ q < 30) : gM Z l yX8_write cX8_write 6 (some .int) ({ frames := 3, cells := 0, slots := 0, locals := 65 } : Room) [.ref (AD 0), .int (nI i), .int (nI ln)] (wR Z AD M n) (some (.int 0)) (wR Z AD (mu (mu M 1 0 0 0) 1 0 0 2) n) 0 0 := by
  refine gM_of (by decide +kernel) (Nat.le_of_ble_eq_true rfl) ?_
  intro pP eE sS mI aA bB mE cC A F hname hG ls hl
  have hx := F.1
  have hb := F.2.1
  have hl : lv_has ls 6 [(0, .ref (AD 0)), (1, .int (nI i)), (2, .int (nI ln))] := hl
  have hns2 := hN.2.1
  have hnm2 := hN.2.2.2.1
  refine lv_aload_n hx hb dX8_write_0 rfl (lv_at hl 0 rfl) ?_
  refine lv_iconst (v := 0) hx hb dX8_write_1 (by decide) ?_
  refine gg_put F hG (ci := 8) 0 gcX8 rfl (gR_model hn) (by decide) w4_75 rfl rfl rfl (Nat.le_of_ble_eq_true rfl) (pR_1) dX8_write_2 (fun H locs hG => ?_)
  have hG : gG Z A sS (wR Z AD (mu M 1 0 0 0) n) H locs := hG
  refine lv_aload_n hx hb dX8_write_5 rfl (lv_at hl 0 rfl) ?_
  refine lv_iload_n hx hb dX8_write_6 rfl (lv_at hl 1 rfl) ?_
  refine lv_iload_n hx hb dX8_write_7 rfl (lv_at hl 2 rfl) ?_
  refine gg_callV F hG (ci := 8) (As := [.int (nI i), .int (nI ln)]) (rest := []) (c_X8_isLine Z l AD (mu M 1 0 0 0) _ hn ns nm i ln L hN hi hL hL2 hln) kY_X8_isLine kV_X8_isLine (gR_model hn) rfl rfl w4_223 rfl ⟨rfl, rfl⟩ ⟨(Nat.le_of_ble_eq_true rfl), (Nat.le_of_ble_eq_true rfl)⟩ rfl (Nat.le_of_ble_eq_true rfl) hl.1 ⟨Nat.zero_le _, Nat.zero_le _⟩ dX8_write_8 rfl (fun H locs hG => ?_)
  refine lv_if_ne (tgt := 20) hx hb dX8_write_11 (by decide) (fun h11 => ?_) (fun h11 => absurd h11 (by decide))
  refine lv_bipush (v := 40) hx hb dX8_write_20 (by decide) ?_
  refine lv_iload_n hx hb dX8_write_22 rfl (lv_at hl 1 rfl) ?_
  refine lv_imul hx hb dX8_write_23 ?_
  rw [show (40 * (nI i) : Int32) = nI (40 * i) from pk_mul 40 i]
  refine lv_iload_n hx hb dX8_write_24 rfl (lv_at hl 2 rfl) ?_
  refine lv_iadd hx hb dX8_write_25 ?_
  rw [show ((nI (40 * i)) + (nI ln) : Int32) = nI (40 * i + ln) from nI_add _ _]
  refine lv_istore_n (lv' := [(3, .int (nI (40 * i + ln))), (0, .ref (AD 0)), (1, .int (nI i)), (2, .int (nI ln))]) hx hb dX8_write_26 rfl hl (by decide) rfl (fun ls hl => ?_)
  refine lv_iconst (v := 0) hx hb dX8_write_27 (by decide) ?_
  refine lv_istore (lv' := [(4, .int 0), (3, .int (nI (40 * i + ln))), (0, .ref (AD 0)), (1, .int (nI i)), (2, .int (nI ln))]) hx hb dX8_write_28 hl (by decide) rfl (fun ls hl => ?_)
  refine lv_iconst (v := nI 0) hx hb dX8_write_30 rfl ?_
  refine lv_istore (lv' := [(5, .int (nI 0)), (4, .int 0), (3, .int (nI (40 * i + ln))), (0, .ref (AD 0)), (1, .int (nI i)), (2, .int (nI ln))]) hx hb dX8_write_31 hl (by decide) rfl (fun ls hl => ?_)
  have loop33 : ∀ (fuQ k0 : Nat), k0 ≤ q → q + 1 ≤ k0 + fuQ → ∀ (H : Heap) (locs : List Loc), gG Z A sS (wR Z AD (mu M 1 0 0 0) n) H locs → ∀ ls : Array Slot, lv_has ls 6 [(0, .ref (AD 0)), (1, .int (nI i)), (2, .int (nI ln)), (3, .int (nI (40 * i + ln))), (4, .int (owL (mu M 1 0 0 0) (nI (40 * i + ln)) k0)), (5, .int (nI k0))] → W pP l eE ({ frames := 3, cells := 0, slots := 0, locals := 65 } : Room) sS mI aA bB mE cC H locs 0 0 (MQ bB (gQ Z A (some (.int 0)) (wR Z AD (mu (mu M 1 0 0 0) 1 0 0 2) n)) aA sS 0 0 A) (F0 mI 33 ls []) := by
    intro fuQ
    induction fuQ with
    | zero =>
      intro k0 h1 h2
      exact absurd h2 (by omega)
    | succ fuQ ih33 =>
      intro k0 hleQ hfuQ H locs hG ls hl
      by_cases hlt : k0 < q
      · refine lv_iload hx hb dX8_write_33 (lv_at hl 5 rfl) ?_
        refine lv_aload_n hx hb dX8_write_35 rfl (lv_at hl 0 rfl) ?_
        refine gg_get F hG (ci := 8) (v := .ref (AD (6 + 0))) 8 gcX8 rfl (gR_model hn) (by decide) w4_87 rfl dX8_write_36 ?_
        refine gg_getN F hG (ci := 7) (v := .int (nI q)) 1 gcX7 rfl (gR_state (by omega) hn) (by decide) wn_39 (congrArg (fun z => some (Value.int z)) hq) dX8_write_39 ?_
        refine lv_icmp_ge (tgt := 77) hx hb dX8_write_42 (by decide) (fun h42 => absurd h42 (nI_ge hlt (by omega))) (fun h42 => ?_)
        refine lv_iload hx hb dX8_write_45 (lv_at hl 4 rfl) ?_
        refine lv_aload_n hx hb dX8_write_47 rfl (lv_at hl 0 rfl) ?_
        refine gg_get F hG (ci := 8) (v := .ref (AD (6 + 0))) 8 gcX8 rfl (gR_model hn) (by decide) w4_87 rfl dX8_write_48 ?_
        refine gg_getN F hG (ci := 7) (v := .ref (AD (14 + 0))) 7 gcX7 rfl (gR_state (by omega) hn) (by decide) wn_45 rfl dX8_write_51 ?_
        refine lv_iconst (v := 2) hx hb dX8_write_54 (by decide) ?_
        refine lv_iload hx hb dX8_write_55 (lv_at hl 5 rfl) ?_
        refine lv_imul hx hb dX8_write_57 ?_
        rw [show (2 * (nI k0) : Int32) = nI (2 * k0) from pk_mul 2 k0]
        refine gg_ialdN F hG (2 * k0) (gR_mail (by omega) hn) rfl (by omega) (by omega) dX8_write_58 ?_
        refine lv_iload_n hx hb dX8_write_59 rfl (lv_at hl 3 rfl) ?_
        refine lv_icmp_ne (tgt := 67) hx hb dX8_write_60 (by decide) (fun h60 => ?_) (fun h60 => ?_)
        · refine lv_iconst (v := 0) hx hb dX8_write_67 (by decide) ?_
          refine lv_ior hx hb dX8_write_68 ?_
          refine lv_istore (lv' := [(4, .int ((owL (mu M 1 0 0 0) (nI (40 * i + ln)) k0) ||| 0)), (0, .ref (AD 0)), (1, .int (nI i)), (2, .int (nI ln)), (3, .int (nI (40 * i + ln))), (5, .int (nI k0))]) hx hb dX8_write_69 hl (by decide) rfl (fun ls hl => ?_)
          refine lv_iinc (v := nI (k0 + 1)) (lv' := [(5, .int (nI (k0 + 1))), (4, .int ((owL (mu M 1 0 0 0) (nI (40 * i + ln)) k0) ||| 0)), (0, .ref (AD 0)), (1, .int (nI i)), (2, .int (nI ln)), (3, .int (nI (40 * i + ln)))]) hx hb dX8_write_71 hl (k := 5) rfl (nI_1 _) (by decide) rfl (fun ls hl => ?_)
          refine lv_goto (tgt := 33) hx hb dX8_write_74 (by decide) ?_
          have e9 : owL (mu M 1 0 0 0) (nI (40 * i + ln)) (k0 + 1) = owL (mu M 1 0 0 0) (nI (40 * i + ln)) k0 ||| 0 := congrArg (owL (mu M 1 0 0 0) (nI (40 * i + ln)) k0 ||| ·) (if_neg h60)
          exact ih33 (k0 + 1) (by omega) (by omega) _ _ hG ls (by rw [e9]; exact lv_sub hl [2, 3, 4, 5, 1, 0] rfl)
        · refine lv_iconst (v := 1) hx hb dX8_write_63 (by decide) ?_
          refine lv_goto (tgt := 68) hx hb dX8_write_64 (by decide) ?_
          refine lv_ior hx hb dX8_write_68 ?_
          refine lv_istore (lv' := [(4, .int ((owL (mu M 1 0 0 0) (nI (40 * i + ln)) k0) ||| 1)), (0, .ref (AD 0)), (1, .int (nI i)), (2, .int (nI ln)), (3, .int (nI (40 * i + ln))), (5, .int (nI k0))]) hx hb dX8_write_69 hl (by decide) rfl (fun ls hl => ?_)
          refine lv_iinc (v := nI (k0 + 1)) (lv' := [(5, .int (nI (k0 + 1))), (4, .int ((owL (mu M 1 0 0 0) (nI (40 * i + ln)) k0) ||| 1)), (0, .ref (AD 0)), (1, .int (nI i)), (2, .int (nI ln)), (3, .int (nI (40 * i + ln)))]) hx hb dX8_write_71 hl (k := 5) rfl (nI_1 _) (by decide) rfl (fun ls hl => ?_)
          refine lv_goto (tgt := 33) hx hb dX8_write_74 (by decide) ?_
          have e9 : owL (mu M 1 0 0 0) (nI (40 * i + ln)) (k0 + 1) = owL (mu M 1 0 0 0) (nI (40 * i + ln)) k0 ||| 1 := congrArg (owL (mu M 1 0 0 0) (nI (40 * i + ln)) k0 ||| ·) (if_pos h60)
          exact ih33 (k0 + 1) (by omega) (by omega) _ _ hG ls (by rw [e9]; exact lv_sub hl [2, 3, 4, 5, 1, 0] rfl)
      · have hN : q = k0 := by omega
        subst hN
        refine lv_iload hx hb dX8_write_33 (lv_at hl 5 rfl) ?_
        refine lv_aload_n hx hb dX8_write_35 rfl (lv_at hl 0 rfl) ?_
        refine gg_get F hG (ci := 8) (v := .ref (AD (6 + 0))) 8 gcX8 rfl (gR_model hn) (by decide) w4_87 rfl dX8_write_36 ?_
        refine gg_getN F hG (ci := 7) (v := .int (nI q)) 1 gcX7 rfl (gR_state (by omega) hn) (by decide) wn_39 (congrArg (fun z => some (Value.int z)) hq) dX8_write_39 ?_
        refine lv_icmp_ge (tgt := 77) hx hb dX8_write_42 (by decide) (fun h42 => ?_) (fun h42 => absurd (nI_le (Nat.le_refl _) (by omega)) h42)
        refine lv_aload_n hx hb dX8_write_77 rfl (lv_at hl 0 rfl) ?_
        refine gg_get F hG (ci := 8) (v := .ref (AD (6 + 0))) 8 gcX8 rfl (gR_model hn) (by decide) w4_87 rfl dX8_write_78 ?_
        refine gg_getN F hG (ci := 7) (v := .ref (AD (12 + 0))) 6 gcX7 rfl (gR_state (by omega) hn) (by decide) wn_44 rfl dX8_write_81 ?_
        refine lv_iconst (v := 4) hx hb dX8_write_84 (by decide) ?_
        refine lv_iload_n hx hb dX8_write_85 rfl (lv_at hl 3 rfl) ?_
        refine lv_imul hx hb dX8_write_86 ?_
        rw [show (4 * (nI (40 * i + ln)) : Int32) = nI (4 * (40 * i + ln)) from pk_mul 4 _]
        refine lv_iconst (v := 3) hx hb dX8_write_87 (by decide) ?_
        refine lv_iadd hx hb dX8_write_88 ?_
        rw [show ((nI (4 * (40 * i + ln))) + 3 : Int32) = nI (4 * (40 * i + ln) + 3) from nI_add _ _]
        refine gg_ialdN F hG (4 * (40 * i + ln) + 3) (gR_log (by omega) hn) rfl (by omega) (by omega) dX8_write_89 ?_
        refine lv_iconst (v := 1) hx hb dX8_write_90 (by decide) ?_
        refine lv_icmp_eq (tgt := 111) hx hb dX8_write_91 (by decide) (fun h91 => ?_) (fun h91 => ?_)
        · refine lv_aload_n hx hb dX8_write_111 rfl (lv_at hl 0 rfl) ?_
          refine lv_iconst (v := 2) hx hb dX8_write_112 (by decide) ?_
          refine gg_callV F hG (ci := 8) (As := [.int 2]) (rest := []) (c_X8_no Z l AD (mu M 1 0 0 0) _ hn 2) kY_X8_no kV_X8_no (gR_model hn) rfl rfl w4_121 rfl ⟨rfl, rfl⟩ ⟨(Nat.le_of_ble_eq_true rfl), (Nat.le_of_ble_eq_true rfl)⟩ rfl (Nat.le_of_ble_eq_true rfl) hl.1 ⟨Nat.zero_le _, Nat.zero_le _⟩ dX8_write_113 rfl (fun H locs hG => ?_)
          exact gg_iret F hG rfl rfl rfl dX8_write_116
        · refine lv_iload hx hb dX8_write_94 (lv_at hl 4 rfl) ?_
          refine lv_if_ne (tgt := 111) hx hb dX8_write_96 (by decide) (fun h96 => ?_) (fun h96 => ?_)
          · refine lv_aload_n hx hb dX8_write_111 rfl (lv_at hl 0 rfl) ?_
            refine lv_iconst (v := 2) hx hb dX8_write_112 (by decide) ?_
            refine gg_callV F hG (ci := 8) (As := [.int 2]) (rest := []) (c_X8_no Z l AD (mu M 1 0 0 0) _ hn 2) kY_X8_no kV_X8_no (gR_model hn) rfl rfl w4_121 rfl ⟨rfl, rfl⟩ ⟨(Nat.le_of_ble_eq_true rfl), (Nat.le_of_ble_eq_true rfl)⟩ rfl (Nat.le_of_ble_eq_true rfl) hl.1 ⟨Nat.zero_le _, Nat.zero_le _⟩ dX8_write_113 rfl (fun H locs hG => ?_)
            exact gg_iret F hG rfl rfl rfl dX8_write_116
          · refine lv_aload_n hx hb dX8_write_99 rfl (lv_at hl 0 rfl) ?_
            refine gg_get F hG (ci := 8) (v := .ref (AD (6 + 0))) 8 gcX8 rfl (gR_model hn) (by decide) w4_87 rfl dX8_write_100 ?_
            refine gg_getN F hG (ci := 7) (v := .int (nI q)) 1 gcX7 rfl (gR_state (by omega) hn) (by decide) wn_39 (congrArg (fun z => some (Value.int z)) hq) dX8_write_103 ?_
            refine lv_bipush (v := 30) hx hb dX8_write_106 (by decide) ?_
            refine lv_icmp_ne (tgt := 117) hx hb dX8_write_108 (by decide) (fun h108 => absurd (show nI q = 30 by have z := (ho.resolve_left h91).resolve_left (fun z => z h96); rw [show q = 30 by omega]; rfl) h108) (fun h108 => ?_)
            refine lv_aload_n hx hb dX8_write_111 rfl (lv_at hl 0 rfl) ?_
            refine lv_iconst (v := 2) hx hb dX8_write_112 (by decide) ?_
            refine gg_callV F hG (ci := 8) (As := [.int 2]) (rest := []) (c_X8_no Z l AD (mu M 1 0 0 0) _ hn 2) kY_X8_no kV_X8_no (gR_model hn) rfl rfl w4_121 rfl ⟨rfl, rfl⟩ ⟨(Nat.le_of_ble_eq_true rfl), (Nat.le_of_ble_eq_true rfl)⟩ rfl (Nat.le_of_ble_eq_true rfl) hl.1 ⟨Nat.zero_le _, Nat.zero_le _⟩ dX8_write_113 rfl (fun H locs hG => ?_)
            exact gg_iret F hG rfl rfl rfl dX8_write_116
  exact loop33 (q + 1) 0 (Nat.zero_le _) (by omega) _ _ hG ls (lv_sub hl [3, 4, 5, 2, 1, 0] rfl)
set_option maxRecDepth 100000 in
set_option maxHeartbeats 4000000 in
theorem c_X8_write_m (Z : gZ) (l : Launch) (AD : Nat → Nat) (M : St) (n : Nat) (hn : 16 ≤ n) (ns nm : Nat) (hN : okN M ns nm) (x y : Int32) (hxo : x < 0 ∨ nI nm ≤ x) : gM Z l yX8_write cX8_write 6 (some .int) ({ frames := 3, cells := 0, slots := 0, locals := 65 } : Room) [.ref (AD 0), .int x, .int y] (wR Z AD M n) (some (.int 0)) (wR Z AD (mu (mu M 1 0 0 0) 1 0 0 1) n) 0 0 := by
  refine gM_of (by decide +kernel) (Nat.le_of_ble_eq_true rfl) ?_
  intro pP eE sS mI aA bB mE cC A F hname hG ls hl
  have hx := F.1
  have hb := F.2.1
  have hl : lv_has ls 6 [(0, .ref (AD 0)), (1, .int x), (2, .int y)] := hl
  refine lv_aload_n hx hb dX8_write_0 rfl (lv_at hl 0 rfl) ?_
  refine lv_iconst (v := 0) hx hb dX8_write_1 (by decide) ?_
  refine gg_put F hG (ci := 8) 0 gcX8 rfl (gR_model hn) (by decide) w4_75 rfl rfl rfl (Nat.le_of_ble_eq_true rfl) (pR_1) dX8_write_2 (fun H locs hG => ?_)
  have hG : gG Z A sS (wR Z AD (mu M 1 0 0 0) n) H locs := hG
  refine lv_aload_n hx hb dX8_write_5 rfl (lv_at hl 0 rfl) ?_
  refine lv_iload_n hx hb dX8_write_6 rfl (lv_at hl 1 rfl) ?_
  refine lv_iload_n hx hb dX8_write_7 rfl (lv_at hl 2 rfl) ?_
  refine gg_callV F hG (ci := 8) (As := [.int x, .int y]) (rest := []) (c_X8_isLine_m Z l AD (mu M 1 0 0 0) _ hn ns nm hN x y hxo) kY_X8_isLine kV_X8_isLine (gR_model hn) rfl rfl w4_223 rfl ⟨rfl, rfl⟩ ⟨(Nat.le_of_ble_eq_true rfl), (Nat.le_of_ble_eq_true rfl)⟩ rfl (Nat.le_of_ble_eq_true rfl) hl.1 ⟨Nat.zero_le _, Nat.zero_le _⟩ dX8_write_8 rfl (fun H locs hG => ?_)
  refine lv_if_ne (tgt := 20) hx hb dX8_write_11 (by decide) (fun h11 => absurd rfl h11) (fun h11 => ?_)
  refine lv_aload_n hx hb dX8_write_14 rfl (lv_at hl 0 rfl) ?_
  refine lv_iconst (v := 1) hx hb dX8_write_15 (by decide) ?_
  refine gg_callV F hG (ci := 8) (As := [.int 1]) (rest := []) (c_X8_no Z l AD (mu M 1 0 0 0) _ hn 1) kY_X8_no kV_X8_no (gR_model hn) rfl rfl w4_121 rfl ⟨rfl, rfl⟩ ⟨(Nat.le_of_ble_eq_true rfl), (Nat.le_of_ble_eq_true rfl)⟩ rfl (Nat.le_of_ble_eq_true rfl) hl.1 ⟨Nat.zero_le _, Nat.zero_le _⟩ dX8_write_16 rfl (fun H locs hG => ?_)
  exact gg_iret F hG rfl rfl rfl dX8_write_19
set_option maxRecDepth 100000 in
set_option maxHeartbeats 4000000 in
theorem c_X8_write_l (Z : gZ) (l : Launch) (AD : Nat → Nat) (M : St) (n : Nat) (hn : 16 ≤ n) (ns nm i L : Nat) (hN : okN M ns nm) (hi : i < nm) (hL : M 13 0 i = nI L) (y : Int32) (hyo : wthF y 0 (nI L - 1) = 0) : gM Z l yX8_write cX8_write 6 (some .int) ({ frames := 3, cells := 0, slots := 0, locals := 65 } : Room) [.ref (AD 0), .int (nI i), .int y] (wR Z AD M n) (some (.int 0)) (wR Z AD (mu (mu M 1 0 0 0) 1 0 0 1) n) 0 0 := by
  refine gM_of (by decide +kernel) (Nat.le_of_ble_eq_true rfl) ?_
  intro pP eE sS mI aA bB mE cC A F hname hG ls hl
  have hx := F.1
  have hb := F.2.1
  have hl : lv_has ls 6 [(0, .ref (AD 0)), (1, .int (nI i)), (2, .int y)] := hl
  refine lv_aload_n hx hb dX8_write_0 rfl (lv_at hl 0 rfl) ?_
  refine lv_iconst (v := 0) hx hb dX8_write_1 (by decide) ?_
  refine gg_put F hG (ci := 8) 0 gcX8 rfl (gR_model hn) (by decide) w4_75 rfl rfl rfl (Nat.le_of_ble_eq_true rfl) (pR_1) dX8_write_2 (fun H locs hG => ?_)
  have hG : gG Z A sS (wR Z AD (mu M 1 0 0 0) n) H locs := hG
  refine lv_aload_n hx hb dX8_write_5 rfl (lv_at hl 0 rfl) ?_
  refine lv_iload_n hx hb dX8_write_6 rfl (lv_at hl 1 rfl) ?_
  refine lv_iload_n hx hb dX8_write_7 rfl (lv_at hl 2 rfl) ?_
  refine gg_callV F hG (ci := 8) (As := [.int (nI i), .int y]) (rest := []) (c_X8_isLine_l Z l AD (mu M 1 0 0 0) _ hn ns nm i L hN hi hL y hyo) kY_X8_isLine kV_X8_isLine (gR_model hn) rfl rfl w4_223 rfl ⟨rfl, rfl⟩ ⟨(Nat.le_of_ble_eq_true rfl), (Nat.le_of_ble_eq_true rfl)⟩ rfl (Nat.le_of_ble_eq_true rfl) hl.1 ⟨Nat.zero_le _, Nat.zero_le _⟩ dX8_write_8 rfl (fun H locs hG => ?_)
  refine lv_if_ne (tgt := 20) hx hb dX8_write_11 (by decide) (fun h11 => absurd rfl h11) (fun h11 => ?_)
  refine lv_aload_n hx hb dX8_write_14 rfl (lv_at hl 0 rfl) ?_
  refine lv_iconst (v := 1) hx hb dX8_write_15 (by decide) ?_
  refine gg_callV F hG (ci := 8) (As := [.int 1]) (rest := []) (c_X8_no Z l AD (mu M 1 0 0 0) _ hn 1) kY_X8_no kV_X8_no (gR_model hn) rfl rfl w4_121 rfl ⟨rfl, rfl⟩ ⟨(Nat.le_of_ble_eq_true rfl), (Nat.le_of_ble_eq_true rfl)⟩ rfl (Nat.le_of_ble_eq_true rfl) hl.1 ⟨Nat.zero_le _, Nat.zero_le _⟩ dX8_write_16 rfl (fun H locs hG => ?_)
  exact gg_iret F hG rfl rfl rfl dX8_write_19
set_option maxRecDepth 100000 in
set_option maxHeartbeats 4000000 in
theorem c_X8_pass (Z : gZ) (l : Launch) (AD : Nat → Nat) (M : St) (n : Nat) (hn : 16 ≤ n) (ns nm h : Nat) (hh : h ≤ 240) (h1 : 1 ≤ h) (hI : ∀ i, i < h → okR (paR (mu M 1 0 0 0) 0 ns nm i) 0 ns nm) : gM Z l yX8_pass cX8_pass 3 (some .int) ({ frames := 6, cells := 0, slots := 0, locals := 154 } : Room) [.ref (AD 0), .int (nI h)] (wR Z AD M n) (some (.int (paR (mu M 1 0 0 0) 0 ns nm h 10 0 0 - M 10 0 0))) (wR Z AD (paR (mu M 1 0 0 0) 0 ns nm h) n) 0 0 := by
  refine gM_of (by decide +kernel) (Nat.le_of_ble_eq_true rfl) ?_
  intro pP eE sS mI aA bB mE cC A F hname hG ls hl
  have hx := F.1
  have hb := F.2.1
  have hl : lv_has ls 3 [(0, .ref (AD 0)), (1, .int (nI h))] := hl
  refine lv_aload_n hx hb dX8_pass_0 rfl (lv_at hl 0 rfl) ?_
  refine lv_iconst (v := 0) hx hb dX8_pass_1 (by decide) ?_
  refine gg_put F hG (ci := 8) 0 gcX8 rfl (gR_model hn) (by decide) w4_75 rfl rfl rfl (Nat.le_of_ble_eq_true rfl) (pR_1) dX8_pass_2 (fun H locs hG => ?_)
  have hG : gG Z A sS (wR Z AD (mu M 1 0 0 0) n) H locs := hG
  refine lv_iload_n hx hb dX8_pass_5 rfl (lv_at hl 1 rfl) ?_
  refine lv_iconst (v := 1) hx hb dX8_pass_6 (by decide) ?_
  refine lv_sipush (v := 240) hx hb dX8_pass_7 (by decide) ?_
  refine gg_callS F hG (As := [.int (nI h), .int 1, .int 240]) (rest := []) (c_X8_isIn Z l (nI h) 1 240 _) kY_X8_isIn kV_X8_isIn w4_118 rfl ⟨rfl, rfl⟩ ⟨(Nat.le_of_ble_eq_true rfl), (Nat.le_of_ble_eq_true rfl)⟩ rfl (Nat.le_of_ble_eq_true rfl) hl.1 ⟨Nat.zero_le _, Nat.zero_le _⟩ dX8_pass_10 rfl (fun H locs hG => ?_)
  rw [show (wthF (nI h) 1 240 : Int32) = 1 from wth_1 (nI_nlt (b := 1) h1 (by omega)) (nI_nlt (a := 240) hh (by decide))]
  refine lv_if_ne (tgt := 22) hx hb dX8_pass_13 (by decide) (fun h13 => ?_) (fun h13 => absurd h13 (by decide))
  refine lv_aload_n hx hb dX8_pass_22 rfl (lv_at hl 0 rfl) ?_
  refine gg_get F hG (ci := 8) (v := .ref (AD (6 + 0))) 8 gcX8 rfl (gR_model hn) (by decide) w4_87 rfl dX8_pass_23 ?_
  refine gg_getN F hG (ci := 7) (v := .int (M 10 0 0)) 2 gcX7 rfl (gR_state (by omega) hn) (by decide) wn_40 rfl dX8_pass_26 ?_
  refine lv_istore_n (lv' := [(2, .int (M 10 0 0)), (0, .ref (AD 0)), (1, .int (nI h))]) hx hb dX8_pass_29 rfl hl (by decide) rfl (fun ls hl => ?_)
  refine lv_aload_n hx hb dX8_pass_30 rfl (lv_at hl 1 rfl) ?_
  refine gg_get F hG (ci := 8) (v := .ref (AD (6 + 0))) 8 gcX8 rfl (gR_model hn) (by decide) w4_87 rfl dX8_pass_31 ?_
  refine lv_iload_n hx hb dX8_pass_34 rfl (lv_at hl 2 rfl) ?_
  refine gg_callV F hG (ci := 7) (As := [.int (nI h)]) (rest := []) (c_X7_pass Z l AD (mu M 1 0 0 0) _ hn 0 ns nm h (by omega) hh hI) kY_X7_pass kV_X7_pass (gR_state (by omega) hn) rfl rfl w4_235 rfl ⟨rfl, rfl⟩ ⟨(Nat.le_of_ble_eq_true rfl), (Nat.le_of_ble_eq_true rfl)⟩ rfl (Nat.le_of_ble_eq_true rfl) hl.1 ⟨Nat.zero_le _, Nat.zero_le _⟩ dX8_pass_35 rfl (fun H locs hG => ?_)
  refine lv_aload_n hx hb dX8_pass_38 rfl (lv_at hl 1 rfl) ?_
  refine gg_get F hG (ci := 8) (v := .ref (AD (6 + 0))) 8 gcX8 rfl (gR_model hn) (by decide) w4_87 rfl dX8_pass_39 ?_
  refine gg_getN F hG (ci := 7) (v := .int ((paR (mu M 1 0 0 0) 0 ns nm h) 10 0 0)) 2 gcX7 rfl (gR_state (by omega) hn) (by decide) wn_40 rfl dX8_pass_42 ?_
  refine lv_iload_n hx hb dX8_pass_45 rfl (lv_at hl 0 rfl) ?_
  refine lv_isub hx hb dX8_pass_46 ?_
  exact gg_iret F hG rfl rfl rfl dX8_pass_47
set_option maxRecDepth 100000 in
set_option maxHeartbeats 4000000 in
theorem c_X8_pass_a (Z : gZ) (l : Launch) (AD : Nat → Nat) (M : St) (n : Nat) (hn : 16 ≤ n) (x : Int32) (ho : x < 1 ∨ 240 < x) : gM Z l yX8_pass cX8_pass 3 (some .int) ({ frames := 1, cells := 0, slots := 0, locals := 22 } : Room) [.ref (AD 0), .int x] (wR Z AD M n) (some (.int 0)) (wR Z AD (mu (mu M 1 0 0 0) 1 0 0 1) n) 0 0 := by
  refine gM_of (by decide +kernel) (Nat.le_of_ble_eq_true rfl) ?_
  intro pP eE sS mI aA bB mE cC A F hname hG ls hl
  have hx := F.1
  have hb := F.2.1
  have hl : lv_has ls 3 [(0, .ref (AD 0)), (1, .int x)] := hl
  refine lv_aload_n hx hb dX8_pass_0 rfl (lv_at hl 0 rfl) ?_
  refine lv_iconst (v := 0) hx hb dX8_pass_1 (by decide) ?_
  refine gg_put F hG (ci := 8) 0 gcX8 rfl (gR_model hn) (by decide) w4_75 rfl rfl rfl (Nat.le_of_ble_eq_true rfl) (pR_1) dX8_pass_2 (fun H locs hG => ?_)
  have hG : gG Z A sS (wR Z AD (mu M 1 0 0 0) n) H locs := hG
  refine lv_iload_n hx hb dX8_pass_5 rfl (lv_at hl 1 rfl) ?_
  refine lv_iconst (v := 1) hx hb dX8_pass_6 (by decide) ?_
  refine lv_sipush (v := 240) hx hb dX8_pass_7 (by decide) ?_
  refine gg_callS F hG (As := [.int x, .int 1, .int 240]) (rest := []) (c_X8_isIn Z l x 1 240 _) kY_X8_isIn kV_X8_isIn w4_118 rfl ⟨rfl, rfl⟩ ⟨(Nat.le_of_ble_eq_true rfl), (Nat.le_of_ble_eq_true rfl)⟩ rfl (Nat.le_of_ble_eq_true rfl) hl.1 ⟨Nat.zero_le _, Nat.zero_le _⟩ dX8_pass_10 rfl (fun H locs hG => ?_)
  rw [show (wthF x 1 240 : Int32) = 0 from wth_0 ho]
  refine lv_if_ne (tgt := 22) hx hb dX8_pass_13 (by decide) (fun h13 => absurd rfl h13) (fun h13 => ?_)
  refine lv_aload_n hx hb dX8_pass_16 rfl (lv_at hl 0 rfl) ?_
  refine lv_iconst (v := 1) hx hb dX8_pass_17 (by decide) ?_
  refine gg_callV F hG (ci := 8) (As := [.int 1]) (rest := []) (c_X8_no Z l AD (mu M 1 0 0 0) _ hn 1) kY_X8_no kV_X8_no (gR_model hn) rfl rfl w4_121 rfl ⟨rfl, rfl⟩ ⟨(Nat.le_of_ble_eq_true rfl), (Nat.le_of_ble_eq_true rfl)⟩ rfl (Nat.le_of_ble_eq_true rfl) hl.1 ⟨Nat.zero_le _, Nat.zero_le _⟩ dX8_pass_18 rfl (fun H locs hG => ?_)
  exact gg_iret F hG rfl rfl rfl dX8_pass_21
set_option maxRecDepth 100000 in
set_option maxHeartbeats 4000000 in
theorem c_X8_count (Z : gZ) (l : Launch) (AD : Nat → Nat) (M : St) (n : Nat) (hn : 16 ≤ n) (ns nm v : Nat) (hN : okN M ns nm) (hv : v < 8) : gM Z l yX8_count cX8_count 2 (some .int) ({ frames := 2, cells := 0, slots := 0, locals := 46 } : Room) [.ref (AD 0), .int (nI v)] (wR Z AD M n) (some (.int (tcR (mu M 1 0 0 0) ns nm v))) (wR Z AD (mu M 1 0 0 0) n) 0 0 := by
  refine gM_of (by decide +kernel) (Nat.le_of_ble_eq_true rfl) ?_
  intro pP eE sS mI aA bB mE cC A F hname hG ls hl
  have hx := F.1
  have hb := F.2.1
  have hl : lv_has ls 2 [(0, .ref (AD 0)), (1, .int (nI v))] := hl
  have hns2 := hN.2.1
  have hnm2 := hN.2.2.2.1
  refine lv_aload_n hx hb dX8_count_0 rfl (lv_at hl 0 rfl) ?_
  refine lv_iconst (v := 0) hx hb dX8_count_1 (by decide) ?_
  refine gg_put F hG (ci := 8) 0 gcX8 rfl (gR_model hn) (by decide) w4_75 rfl rfl rfl (Nat.le_of_ble_eq_true rfl) (pR_1) dX8_count_2 (fun H locs hG => ?_)
  have hG : gG Z A sS (wR Z AD (mu M 1 0 0 0) n) H locs := hG
  refine lv_iload_n hx hb dX8_count_5 rfl (lv_at hl 1 rfl) ?_
  refine lv_iconst (v := 0) hx hb dX8_count_6 (by decide) ?_
  refine lv_bipush (v := 7) hx hb dX8_count_7 (by decide) ?_
  refine gg_callS F hG (As := [.int (nI v), .int 0, .int 7]) (rest := []) (c_X8_isIn Z l (nI v) 0 7 _) kY_X8_isIn kV_X8_isIn w4_118 rfl ⟨rfl, rfl⟩ ⟨(Nat.le_of_ble_eq_true rfl), (Nat.le_of_ble_eq_true rfl)⟩ rfl (Nat.le_of_ble_eq_true rfl) hl.1 ⟨Nat.zero_le _, Nat.zero_le _⟩ dX8_count_9 rfl (fun H locs hG => ?_)
  rw [show (wthF (nI v) 0 7 : Int32) = 1 from wth_1 (nI_pos (by omega)) (nI_nlt (a := 7) (b := v) (by omega) (by omega))]
  refine lv_if_eq (tgt := 23) hx hb dX8_count_12 (by decide) (fun h12 => absurd h12 (by decide)) (fun h12 => ?_)
  refine lv_aload_n hx hb dX8_count_15 rfl (lv_at hl 0 rfl) ?_
  refine lv_iload_n hx hb dX8_count_16 rfl (lv_at hl 1 rfl) ?_
  refine gg_callV F hG (ci := 8) (As := [.int (nI v)]) (rest := []) (c_X8_counted Z l AD (mu M 1 0 0 0) _ hn ns nm hN v hv) kY_X8_counted kV_X8_counted (gR_model hn) rfl rfl w5_19 rfl ⟨rfl, rfl⟩ ⟨(Nat.le_of_ble_eq_true rfl), (Nat.le_of_ble_eq_true rfl)⟩ rfl (Nat.le_of_ble_eq_true rfl) hl.1 ⟨Nat.zero_le _, Nat.zero_le _⟩ dX8_count_17 rfl (fun H locs hG => ?_)
  refine lv_goto (tgt := 28) hx hb dX8_count_20 (by decide) ?_
  exact gg_iret F hG rfl rfl rfl dX8_count_28
set_option maxRecDepth 100000 in
set_option maxHeartbeats 4000000 in
theorem c_X8_count_w (Z : gZ) (l : Launch) (AD : Nat → Nat) (M : St) (n : Nat) (hn : 16 ≤ n) (y : Int32) (hyo : wthF y 0 7 = 0) : gM Z l yX8_count cX8_count 2 (some .int) ({ frames := 1, cells := 0, slots := 0, locals := 22 } : Room) [.ref (AD 0), .int y] (wR Z AD M n) (some (.int 0)) (wR Z AD (mu (mu M 1 0 0 0) 1 0 0 1) n) 0 0 := by
  refine gM_of (by decide +kernel) (Nat.le_of_ble_eq_true rfl) ?_
  intro pP eE sS mI aA bB mE cC A F hname hG ls hl
  have hx := F.1
  have hb := F.2.1
  have hl : lv_has ls 2 [(0, .ref (AD 0)), (1, .int y)] := hl
  refine lv_aload_n hx hb dX8_count_0 rfl (lv_at hl 0 rfl) ?_
  refine lv_iconst (v := 0) hx hb dX8_count_1 (by decide) ?_
  refine gg_put F hG (ci := 8) 0 gcX8 rfl (gR_model hn) (by decide) w4_75 rfl rfl rfl (Nat.le_of_ble_eq_true rfl) (pR_1) dX8_count_2 (fun H locs hG => ?_)
  have hG : gG Z A sS (wR Z AD (mu M 1 0 0 0) n) H locs := hG
  refine lv_iload_n hx hb dX8_count_5 rfl (lv_at hl 1 rfl) ?_
  refine lv_iconst (v := 0) hx hb dX8_count_6 (by decide) ?_
  refine lv_bipush (v := 7) hx hb dX8_count_7 (by decide) ?_
  refine gg_callS F hG (As := [.int y, .int 0, .int 7]) (rest := []) (c_X8_isIn Z l y 0 7 _) kY_X8_isIn kV_X8_isIn w4_118 rfl ⟨rfl, rfl⟩ ⟨(Nat.le_of_ble_eq_true rfl), (Nat.le_of_ble_eq_true rfl)⟩ rfl (Nat.le_of_ble_eq_true rfl) hl.1 ⟨Nat.zero_le _, Nat.zero_le _⟩ dX8_count_9 rfl (fun H locs hG => ?_)
  rw [show (wthF y 0 7 : Int32) = 0 from hyo]
  refine lv_if_eq (tgt := 23) hx hb dX8_count_12 (by decide) (fun h12 => ?_) (fun h12 => absurd rfl h12)
  refine lv_aload_n hx hb dX8_count_23 rfl (lv_at hl 0 rfl) ?_
  refine lv_iconst (v := 1) hx hb dX8_count_24 (by decide) ?_
  refine gg_callV F hG (ci := 8) (As := [.int 1]) (rest := []) (c_X8_no Z l AD (mu M 1 0 0 0) _ hn 1) kY_X8_no kV_X8_no (gR_model hn) rfl rfl w4_121 rfl ⟨rfl, rfl⟩ ⟨(Nat.le_of_ble_eq_true rfl), (Nat.le_of_ble_eq_true rfl)⟩ rfl (Nat.le_of_ble_eq_true rfl) hl.1 ⟨Nat.zero_le _, Nat.zero_le _⟩ dX8_count_25 rfl (fun H locs hG => ?_)
  exact gg_iret F hG rfl rfl rfl dX8_count_28
set_option maxRecDepth 100000 in
set_option maxHeartbeats 4000000 in
theorem c_X8_leads (Z : gZ) (l : Launch) (AD : Nat → Nat) (M : St) (n : Nat) (hn : 16 ≤ n) (ns nm a b : Nat) (hN : okN M ns nm) (hX : okX M 0 nm) (ha : a < nm) (hbb : b < nm) : gM Z l yX8_leads cX8_leads 4 (some .boolean) ({ frames := 2, cells := 0, slots := 0, locals := 48 } : Room) [.ref (AD 0), .int (nI a), .int (nI b)] (wR Z AD M n) (some (.int (ldR M ns a b))) (wR Z AD M n) 0 0 := by
  refine gM_of (by decide +kernel) (Nat.le_of_ble_eq_true rfl) ?_
  intro pP eE sS mI aA bB mE cC A F hname hG ls hl
  have hx := F.1
  have hb := F.2.1
  have hl : lv_has ls 4 [(0, .ref (AD 0)), (1, .int (nI a)), (2, .int (nI b))] := hl
  have hns2 := hN.2.1
  have hnm2 := hN.2.2.2.1
  refine lv_aload_n hx hb dX8_leads_0 rfl (lv_at hl 0 rfl) ?_
  refine lv_iload_n hx hb dX8_leads_1 rfl (lv_at hl 1 rfl) ?_
  refine lv_iconst (v := 1) hx hb dX8_leads_2 (by decide) ?_
  refine gg_callV F hG (ci := 8) (As := [.int (nI a), .int 1]) (rest := []) (c_X8_held Z l AD M _ hn _ _ a hN hX ha 1) kY_X8_held kV_X8_held (gR_model hn) rfl rfl w4_199 rfl ⟨rfl, rfl⟩ ⟨(Nat.le_of_ble_eq_true rfl), (Nat.le_of_ble_eq_true rfl)⟩ rfl (Nat.le_of_ble_eq_true rfl) hl.1 ⟨Nat.zero_le _, Nat.zero_le _⟩ dX8_leads_3 rfl (fun H locs hG => ?_)
  refine lv_aload_n hx hb dX8_leads_6 rfl (lv_at hl 0 rfl) ?_
  refine lv_iload_n hx hb dX8_leads_7 rfl (lv_at hl 2 rfl) ?_
  refine lv_iconst (v := 1) hx hb dX8_leads_8 (by decide) ?_
  refine gg_callV F hG (ci := 8) (As := [.int (nI b), .int 1]) (rest := [.int (hdR M a 1 ns)]) (c_X8_held Z l AD M _ hn _ _ b hN hX hbb 1) kY_X8_held kV_X8_held (gR_model hn) rfl rfl w4_199 rfl ⟨rfl, rfl⟩ ⟨(Nat.le_of_ble_eq_true rfl), (Nat.le_of_ble_eq_true rfl)⟩ rfl (Nat.le_of_ble_eq_true rfl) hl.1 ⟨Nat.zero_le _, Nat.zero_le _⟩ dX8_leads_9 rfl (fun H locs hG => ?_)
  refine lv_isub hx hb dX8_leads_12 ?_
  refine lv_istore_n (lv' := [(3, .int ((hdR M a 1 ns) - (hdR M b 1 ns))), (0, .ref (AD 0)), (1, .int (nI a)), (2, .int (nI b))]) hx hb dX8_leads_13 rfl hl (by decide) rfl (fun ls hl => ?_)
  refine lv_iload_n hx hb dX8_leads_14 rfl (lv_at hl 0 rfl) ?_
  refine lv_if_eq (tgt := 28) hx hb dX8_leads_15 (by decide) (fun h15 => ?_) (fun h15 => ?_)
  · refine lv_aload_n hx hb dX8_leads_28 rfl (lv_at hl 1 rfl) ?_
    refine gg_get F hG (ci := 8) (v := .ref (AD (6 + 0))) 8 gcX8 rfl (gR_model hn) (by decide) w4_87 rfl dX8_leads_29 ?_
    refine gg_getN F hG (ci := 7) (v := .ref (AD (10 + 0))) 5 gcX7 rfl (gR_state (by omega) hn) (by decide) wn_43 rfl dX8_leads_32 ?_
    refine lv_iload_n hx hb dX8_leads_35 rfl (lv_at hl 2 rfl) ?_
    refine gg_ialdN F hG a (gR_lines (by omega) hn) rfl (by omega) (by omega) dX8_leads_36 ?_
    refine lv_aload_n hx hb dX8_leads_37 rfl (lv_at hl 1 rfl) ?_
    refine gg_get F hG (ci := 8) (v := .ref (AD (6 + 0))) 8 gcX8 rfl (gR_model hn) (by decide) w4_87 rfl dX8_leads_38 ?_
    refine gg_getN F hG (ci := 7) (v := .ref (AD (10 + 0))) 5 gcX7 rfl (gR_state (by omega) hn) (by decide) wn_43 rfl dX8_leads_41 ?_
    refine lv_iload_n hx hb dX8_leads_44 rfl (lv_at hl 3 rfl) ?_
    refine gg_ialdN F hG b (gR_lines (by omega) hn) rfl (by omega) (by omega) dX8_leads_45 ?_
    refine lv_icmp_eq (tgt := 78) hx hb dX8_leads_46 (by decide) (fun h46 => ?_) (fun h46 => ?_)
    · refine lv_iload_n hx hb dX8_leads_78 rfl (lv_at hl 2 rfl) ?_
      refine lv_iload_n hx hb dX8_leads_79 rfl (lv_at hl 3 rfl) ?_
      refine lv_icmp_ge (tgt := 87) hx hb dX8_leads_80 (by decide) (fun h80 => ?_) (fun h80 => ?_)
      · refine lv_iconst (v := 0) hx hb dX8_leads_87 (by decide) ?_
        exact gg_iret F hG rfl (Eq.symm ((if_pos h15).trans ((if_pos h46).trans (if_pos h80)))) rfl dX8_leads_88
      · refine lv_iconst (v := 1) hx hb dX8_leads_83 (by decide) ?_
        refine lv_goto (tgt := 88) hx hb dX8_leads_84 (by decide) ?_
        exact gg_iret F hG rfl (Eq.symm ((if_pos h15).trans ((if_pos h46).trans (if_neg h80)))) rfl dX8_leads_88
    · refine lv_aload_n hx hb dX8_leads_49 rfl (lv_at hl 1 rfl) ?_
      refine gg_get F hG (ci := 8) (v := .ref (AD (6 + 0))) 8 gcX8 rfl (gR_model hn) (by decide) w4_87 rfl dX8_leads_50 ?_
      refine gg_getN F hG (ci := 7) (v := .ref (AD (10 + 0))) 5 gcX7 rfl (gR_state (by omega) hn) (by decide) wn_43 rfl dX8_leads_53 ?_
      refine lv_iload_n hx hb dX8_leads_56 rfl (lv_at hl 2 rfl) ?_
      refine gg_ialdN F hG a (gR_lines (by omega) hn) rfl (by omega) (by omega) dX8_leads_57 ?_
      refine lv_aload_n hx hb dX8_leads_58 rfl (lv_at hl 1 rfl) ?_
      refine gg_get F hG (ci := 8) (v := .ref (AD (6 + 0))) 8 gcX8 rfl (gR_model hn) (by decide) w4_87 rfl dX8_leads_59 ?_
      refine gg_getN F hG (ci := 7) (v := .ref (AD (10 + 0))) 5 gcX7 rfl (gR_state (by omega) hn) (by decide) wn_43 rfl dX8_leads_62 ?_
      refine lv_iload_n hx hb dX8_leads_65 rfl (lv_at hl 3 rfl) ?_
      refine gg_ialdN F hG b (gR_lines (by omega) hn) rfl (by omega) (by omega) dX8_leads_66 ?_
      refine lv_icmp_le (tgt := 74) hx hb dX8_leads_67 (by decide) (fun h67 => ?_) (fun h67 => ?_)
      · refine lv_iconst (v := 0) hx hb dX8_leads_74 (by decide) ?_
        refine lv_goto (tgt := 88) hx hb dX8_leads_75 (by decide) ?_
        exact gg_iret F hG rfl (Eq.symm ((if_pos h15).trans ((if_neg h46).trans (if_pos h67)))) rfl dX8_leads_88
      · refine lv_iconst (v := 1) hx hb dX8_leads_70 (by decide) ?_
        refine lv_goto (tgt := 88) hx hb dX8_leads_71 (by decide) ?_
        exact gg_iret F hG rfl (Eq.symm ((if_pos h15).trans ((if_neg h46).trans (if_neg h67)))) rfl dX8_leads_88
  · refine lv_iload_n hx hb dX8_leads_18 rfl (lv_at hl 0 rfl) ?_
    refine lv_if_le (tgt := 26) hx hb dX8_leads_19 (by decide) (fun h19 => ?_) (fun h19 => ?_)
    · refine lv_iconst (v := 0) hx hb dX8_leads_26 (by decide) ?_
      exact gg_iret F hG rfl (Eq.symm ((if_neg h15).trans (if_pos h19))) rfl dX8_leads_27
    · refine lv_iconst (v := 1) hx hb dX8_leads_22 (by decide) ?_
      refine lv_goto (tgt := 27) hx hb dX8_leads_23 (by decide) ?_
      exact gg_iret F hG rfl (Eq.symm ((if_neg h15).trans (if_neg h19))) rfl dX8_leads_27
set_option maxRecDepth 100000 in
set_option maxHeartbeats 4000000 in
theorem c_X8_rank (Z : gZ) (l : Launch) (AD : Nat → Nat) (M : St) (n : Nat) (hn : 16 ≤ n) (ns nm : Nat) (hN : okN M ns nm) (hX : okX M 0 nm) (p : Nat) (hp : p < nm) : gM Z l yX8_rank cX8_rank 5 (some .int) ({ frames := 3, cells := 0, slots := 0, locals := 71 } : Room) [.ref (AD 0), .int (nI p)] (wR Z AD M n) (some (.int (rkR (mu M 1 0 0 0) ns nm (nI p) nm 0))) (wR Z AD (mu M 1 0 0 0) n) 0 0 := by
  refine gM_of (by decide +kernel) (Nat.le_of_ble_eq_true rfl) ?_
  intro pP eE sS mI aA bB mE cC A F hname hG ls hl
  have hx := F.1
  have hb := F.2.1
  have hl : lv_has ls 5 [(0, .ref (AD 0)), (1, .int (nI p))] := hl
  have hns2 := hN.2.1
  have hnm2 := hN.2.2.2.1
  refine lv_aload_n hx hb dX8_rank_0 rfl (lv_at hl 0 rfl) ?_
  refine lv_iconst (v := 0) hx hb dX8_rank_1 (by decide) ?_
  refine gg_put F hG (ci := 8) 0 gcX8 rfl (gR_model hn) (by decide) w4_75 rfl rfl rfl (Nat.le_of_ble_eq_true rfl) (pR_1) dX8_rank_2 (fun H locs hG => ?_)
  have hG : gG Z A sS (wR Z AD (mu M 1 0 0 0) n) H locs := hG
  refine lv_aload_n hx hb dX8_rank_5 rfl (lv_at hl 0 rfl) ?_
  refine lv_iload_n hx hb dX8_rank_6 rfl (lv_at hl 1 rfl) ?_
  refine gg_callV F hG (ci := 8) (As := [.int (nI p)]) (rest := []) (c_X8_isMember Z l AD (mu M 1 0 0 0) _ hn _ _ p hN hp) kY_X8_isMember kV_X8_isMember (gR_model hn) rfl rfl w4_136 rfl ⟨rfl, rfl⟩ ⟨(Nat.le_of_ble_eq_true rfl), (Nat.le_of_ble_eq_true rfl)⟩ rfl (Nat.le_of_ble_eq_true rfl) hl.1 ⟨Nat.zero_le _, Nat.zero_le _⟩ dX8_rank_7 rfl (fun H locs hG => ?_)
  refine lv_if_ne (tgt := 19) hx hb dX8_rank_10 (by decide) (fun h10 => ?_) (fun h10 => absurd h10 (by decide))
  refine lv_iconst (v := nI 0) hx hb dX8_rank_19 rfl ?_
  refine lv_istore_n (lv' := [(2, .int (nI 0)), (0, .ref (AD 0)), (1, .int (nI p))]) hx hb dX8_rank_20 rfl hl (by decide) rfl (fun ls hl => ?_)
  have loop21 : ∀ (fuQ b : Nat), b ≤ nm → nm + 1 ≤ b + fuQ → rkR (mu M 1 0 0 0) ns nm (nI p) nm 0 = rkR (mu M 1 0 0 0) ns nm (nI p) (nm - b) b → ∀ (H : Heap) (locs : List Loc), gG Z A sS (wR Z AD (mu M 1 0 0 0) n) H locs → ∀ ls : Array Slot, lv_has ls 5 [(0, .ref (AD 0)), (1, .int (nI p)), (2, .int (nI b))] → W pP l eE ({ frames := 3, cells := 0, slots := 0, locals := 71 } : Room) sS mI aA bB mE cC H locs 0 0 (MQ bB (gQ Z A (some (.int (rkR (mu M 1 0 0 0) ns nm (nI p) nm 0))) (wR Z AD (mu M 1 0 0 0) n)) aA sS 0 0 A) (F0 mI 21 ls []) := by
    intro fuQ
    induction fuQ with
    | zero =>
      intro b h1 h2
      exact absurd h2 (by omega)
    | succ fuQ ih21 =>
      intro b hleQ hfuQ hE H locs hG ls hl
      by_cases hltb : b < nm
      · refine lv_iload_n hx hb dX8_rank_21 rfl (lv_at hl 2 rfl) ?_
        refine lv_aload_n hx hb dX8_rank_22 rfl (lv_at hl 0 rfl) ?_
        refine gg_get F hG (ci := 8) (v := .int (nI nm)) 2 gcX8 rfl (gR_model hn) (by decide) w4_78 (congrArg (fun z => some (Value.int z)) hN.2.2.1) dX8_rank_23 ?_
        refine lv_icmp_ge (tgt := 86) hx hb dX8_rank_26 (by decide) (fun h26 => absurd h26 (nI_ge hltb (by omega))) (fun h26 => ?_)
        refine lv_iconst (v := 0) hx hb dX8_rank_29 (by decide) ?_
        refine lv_istore_n (lv' := [(3, .int 0), (0, .ref (AD 0)), (1, .int (nI p)), (2, .int (nI b))]) hx hb dX8_rank_30 rfl hl (by decide) rfl (fun ls hl => ?_)
        refine lv_iconst (v := nI 0) hx hb dX8_rank_31 rfl ?_
        refine lv_istore (lv' := [(4, .int (nI 0)), (3, .int 0), (0, .ref (AD 0)), (1, .int (nI p)), (2, .int (nI b))]) hx hb dX8_rank_32 hl (by decide) rfl (fun ls hl => ?_)
        have loop34 : ∀ (fuQ i : Nat), i ≤ nm → nm + 1 ≤ i + fuQ → ∀ (H : Heap) (locs : List Loc), gG Z A sS (wR Z AD (mu M 1 0 0 0) n) H locs → ∀ ls : Array Slot, lv_has ls 5 [(0, .ref (AD 0)), (1, .int (nI p)), (2, .int (nI b)), (3, .int (lcR (mu M 1 0 0 0) ns b i)), (4, .int (nI i))] → W pP l eE ({ frames := 3, cells := 0, slots := 0, locals := 71 } : Room) sS mI aA bB mE cC H locs 0 0 (MQ bB (gQ Z A (some (.int (rkR (mu M 1 0 0 0) ns nm (nI p) nm 0))) (wR Z AD (mu M 1 0 0 0) n)) aA sS 0 0 A) (F0 mI 34 ls []) := by
          intro fuQ
          induction fuQ with
          | zero =>
            intro i h1 h2
            exact absurd h2 (by omega)
          | succ fuQ ih34 =>
            intro i hleQ hfuQ H locs hG ls hl
            by_cases hlti : i < nm
            · refine lv_iload hx hb dX8_rank_34 (lv_at hl 4 rfl) ?_
              refine lv_aload_n hx hb dX8_rank_36 rfl (lv_at hl 0 rfl) ?_
              refine gg_get F hG (ci := 8) (v := .int (nI nm)) 2 gcX8 rfl (gR_model hn) (by decide) w4_78 (congrArg (fun z => some (Value.int z)) hN.2.2.1) dX8_rank_37 ?_
              refine lv_icmp_ge (tgt := 73) hx hb dX8_rank_40 (by decide) (fun h40 => absurd h40 (nI_ge hlti (by omega))) (fun h40 => ?_)
              refine lv_iload_n hx hb dX8_rank_43 rfl (lv_at hl 3 rfl) ?_
              refine lv_iload hx hb dX8_rank_44 (lv_at hl 4 rfl) ?_
              refine lv_iload_n hx hb dX8_rank_46 rfl (lv_at hl 2 rfl) ?_
              refine lv_icmp_eq (tgt := 64) hx hb dX8_rank_47 (by decide) (fun h47 => ?_) (fun h47 => ?_)
              · refine lv_iconst (v := 0) hx hb dX8_rank_64 (by decide) ?_
                refine lv_iadd hx hb dX8_rank_65 ?_
                refine lv_istore_n (lv' := [(3, .int ((lcR (mu M 1 0 0 0) ns b i) + 0)), (0, .ref (AD 0)), (1, .int (nI p)), (2, .int (nI b)), (4, .int (nI i))]) hx hb dX8_rank_66 rfl hl (by decide) rfl (fun ls hl => ?_)
                refine lv_iinc (v := nI (i + 1)) (lv' := [(4, .int (nI (i + 1))), (3, .int ((lcR (mu M 1 0 0 0) ns b i) + 0)), (0, .ref (AD 0)), (1, .int (nI p)), (2, .int (nI b))]) hx hb dX8_rank_67 hl (k := 4) rfl (nI_1 _) (by decide) rfl (fun ls hl => ?_)
                refine lv_goto (tgt := 34) hx hb dX8_rank_70 (by decide) ?_
                have e9 : lcR (mu M 1 0 0 0) ns b (i + 1) = lcR (mu M 1 0 0 0) ns b i + 0 := congrArg (lcR (mu M 1 0 0 0) ns b i + ·) (if_pos h47)
                exact ih34 (i + 1) (by omega) (by omega) _ _ hG ls (by rw [e9]; exact lv_sub hl [2, 3, 4, 1, 0] rfl)
              · refine lv_aload_n hx hb dX8_rank_50 rfl (lv_at hl 0 rfl) ?_
                refine lv_iload hx hb dX8_rank_51 (lv_at hl 4 rfl) ?_
                refine lv_iload_n hx hb dX8_rank_53 rfl (lv_at hl 2 rfl) ?_
                refine gg_callV F hG (ci := 8) (As := [.int (nI i), .int (nI b)]) (rest := [.int (lcR (mu M 1 0 0 0) ns b i)]) (c_X8_leads Z l AD (mu M 1 0 0 0) _ hn ns nm i b hN hX hlti hltb) kY_X8_leads kV_X8_leads (gR_model hn) rfl rfl w5_28 rfl ⟨rfl, rfl⟩ ⟨(Nat.le_of_ble_eq_true rfl), (Nat.le_of_ble_eq_true rfl)⟩ rfl (Nat.le_of_ble_eq_true rfl) hl.1 ⟨Nat.zero_le _, Nat.zero_le _⟩ dX8_rank_54 rfl (fun H locs hG => ?_)
                refine lv_if_eq (tgt := 64) hx hb dX8_rank_57 (by decide) (fun h57 => ?_) (fun h57 => ?_)
                · refine lv_iconst (v := 0) hx hb dX8_rank_64 (by decide) ?_
                  refine lv_iadd hx hb dX8_rank_65 ?_
                  refine lv_istore_n (lv' := [(3, .int ((lcR (mu M 1 0 0 0) ns b i) + 0)), (0, .ref (AD 0)), (1, .int (nI p)), (2, .int (nI b)), (4, .int (nI i))]) hx hb dX8_rank_66 rfl hl (by decide) rfl (fun ls hl => ?_)
                  refine lv_iinc (v := nI (i + 1)) (lv' := [(4, .int (nI (i + 1))), (3, .int ((lcR (mu M 1 0 0 0) ns b i) + 0)), (0, .ref (AD 0)), (1, .int (nI p)), (2, .int (nI b))]) hx hb dX8_rank_67 hl (k := 4) rfl (nI_1 _) (by decide) rfl (fun ls hl => ?_)
                  refine lv_goto (tgt := 34) hx hb dX8_rank_70 (by decide) ?_
                  have e9 : lcR (mu M 1 0 0 0) ns b (i + 1) = lcR (mu M 1 0 0 0) ns b i + 0 := congrArg (lcR (mu M 1 0 0 0) ns b i + ·) ((if_neg h47).trans (if_pos h57))
                  exact ih34 (i + 1) (by omega) (by omega) _ _ hG ls (by rw [e9]; exact lv_sub hl [2, 3, 4, 1, 0] rfl)
                · refine lv_iconst (v := 1) hx hb dX8_rank_60 (by decide) ?_
                  refine lv_goto (tgt := 65) hx hb dX8_rank_61 (by decide) ?_
                  refine lv_iadd hx hb dX8_rank_65 ?_
                  refine lv_istore_n (lv' := [(3, .int ((lcR (mu M 1 0 0 0) ns b i) + 1)), (0, .ref (AD 0)), (1, .int (nI p)), (2, .int (nI b)), (4, .int (nI i))]) hx hb dX8_rank_66 rfl hl (by decide) rfl (fun ls hl => ?_)
                  refine lv_iinc (v := nI (i + 1)) (lv' := [(4, .int (nI (i + 1))), (3, .int ((lcR (mu M 1 0 0 0) ns b i) + 1)), (0, .ref (AD 0)), (1, .int (nI p)), (2, .int (nI b))]) hx hb dX8_rank_67 hl (k := 4) rfl (nI_1 _) (by decide) rfl (fun ls hl => ?_)
                  refine lv_goto (tgt := 34) hx hb dX8_rank_70 (by decide) ?_
                  have e9 : lcR (mu M 1 0 0 0) ns b (i + 1) = lcR (mu M 1 0 0 0) ns b i + 1 := congrArg (lcR (mu M 1 0 0 0) ns b i + ·) ((if_neg h47).trans (if_neg h57))
                  exact ih34 (i + 1) (by omega) (by omega) _ _ hG ls (by rw [e9]; exact lv_sub hl [2, 3, 4, 1, 0] rfl)
            · have hN : nm = i := by omega
              subst hN
              refine lv_iload hx hb dX8_rank_34 (lv_at hl 4 rfl) ?_
              refine lv_aload_n hx hb dX8_rank_36 rfl (lv_at hl 0 rfl) ?_
              refine gg_get F hG (ci := 8) (v := .int (nI nm)) 2 gcX8 rfl (gR_model hn) (by decide) w4_78 (congrArg (fun z => some (Value.int z)) hN.2.2.1) dX8_rank_37 ?_
              refine lv_icmp_ge (tgt := 73) hx hb dX8_rank_40 (by decide) (fun h40 => ?_) (fun h40 => absurd (nI_le (Nat.le_refl _) (by omega)) h40)
              refine lv_iload_n hx hb dX8_rank_73 rfl (lv_at hl 3 rfl) ?_
              refine lv_iload_n hx hb dX8_rank_74 rfl (lv_at hl 1 rfl) ?_
              refine lv_icmp_ne (tgt := 80) hx hb dX8_rank_75 (by decide) (fun h75 => ?_) (fun h75 => ?_)
              · refine lv_iinc (v := nI (b + 1)) (lv' := [(2, .int (nI (b + 1))), (0, .ref (AD 0)), (1, .int (nI p)), (3, .int (lcR (mu M 1 0 0 0) ns b nm)), (4, .int (nI nm))]) hx hb dX8_rank_80 hl (k := 2) rfl (nI_1 _) (by decide) rfl (fun ls hl => ?_)
                refine lv_goto (tgt := 21) hx hb dX8_rank_83 (by decide) ?_
                exact ih21 (b + 1) (by omega) (by omega) (hE.trans (by rw [show nm - b = (nm - (b + 1)) + 1 by omega]; exact if_neg h75)) _ _ hG ls (lv_sub hl [1, 2, 0] rfl)
              · refine lv_iload_n hx hb dX8_rank_78 rfl (lv_at hl 2 rfl) ?_
                exact gg_iret F hG rfl (Eq.symm (hE.trans (by rw [show nm - b = (nm - (b + 1)) + 1 by omega]; exact if_pos h75))) rfl dX8_rank_79
        exact loop34 (nm + 1) 0 (Nat.zero_le _) (by omega) _ _ hG ls (lv_sub hl [2, 3, 4, 1, 0] rfl)
      · have hN : nm = b := by omega
        subst hN
        refine lv_iload_n hx hb dX8_rank_21 rfl (lv_at hl 2 rfl) ?_
        refine lv_aload_n hx hb dX8_rank_22 rfl (lv_at hl 0 rfl) ?_
        refine gg_get F hG (ci := 8) (v := .int (nI nm)) 2 gcX8 rfl (gR_model hn) (by decide) w4_78 (congrArg (fun z => some (Value.int z)) hN.2.2.1) dX8_rank_23 ?_
        refine lv_icmp_ge (tgt := 86) hx hb dX8_rank_26 (by decide) (fun h26 => ?_) (fun h26 => absurd (nI_le (Nat.le_refl _) (by omega)) h26)
        refine lv_iconst (v := (-1)) hx hb dX8_rank_86 (by decide) ?_
        exact gg_iret F hG rfl (Eq.symm (hE.trans (by rw [Nat.sub_self]; rfl))) rfl dX8_rank_87
  exact loop21 (nm + 1) 0 (Nat.zero_le _) (by omega) rfl _ _ hG ls (lv_sub hl [1, 2, 0] rfl)
set_option maxRecDepth 100000 in
set_option maxHeartbeats 4000000 in
theorem c_X8_rank_w (Z : gZ) (l : Launch) (AD : Nat → Nat) (M : St) (n : Nat) (hn : 16 ≤ n) (ns nm : Nat) (hN : okN M ns nm) (x : Int32) (hxo : x < 0 ∨ nI nm ≤ x) : gM Z l yX8_rank cX8_rank 5 (some .int) ({ frames := 2, cells := 0, slots := 0, locals := 43 } : Room) [.ref (AD 0), .int x] (wR Z AD M n) (some (.int 0)) (wR Z AD (mu (mu M 1 0 0 0) 1 0 0 1) n) 0 0 := by
  refine gM_of (by decide +kernel) (Nat.le_of_ble_eq_true rfl) ?_
  intro pP eE sS mI aA bB mE cC A F hname hG ls hl
  have hx := F.1
  have hb := F.2.1
  have hl : lv_has ls 5 [(0, .ref (AD 0)), (1, .int x)] := hl
  refine lv_aload_n hx hb dX8_rank_0 rfl (lv_at hl 0 rfl) ?_
  refine lv_iconst (v := 0) hx hb dX8_rank_1 (by decide) ?_
  refine gg_put F hG (ci := 8) 0 gcX8 rfl (gR_model hn) (by decide) w4_75 rfl rfl rfl (Nat.le_of_ble_eq_true rfl) (pR_1) dX8_rank_2 (fun H locs hG => ?_)
  have hG : gG Z A sS (wR Z AD (mu M 1 0 0 0) n) H locs := hG
  refine lv_aload_n hx hb dX8_rank_5 rfl (lv_at hl 0 rfl) ?_
  refine lv_iload_n hx hb dX8_rank_6 rfl (lv_at hl 1 rfl) ?_
  refine gg_callV F hG (ci := 8) (As := [.int x]) (rest := []) (c_X8_isMember_no Z l AD (mu M 1 0 0 0) _ hn _ _ hN x hxo) kY_X8_isMember kV_X8_isMember (gR_model hn) rfl rfl w4_136 rfl ⟨rfl, rfl⟩ ⟨(Nat.le_of_ble_eq_true rfl), (Nat.le_of_ble_eq_true rfl)⟩ rfl (Nat.le_of_ble_eq_true rfl) hl.1 ⟨Nat.zero_le _, Nat.zero_le _⟩ dX8_rank_7 rfl (fun H locs hG => ?_)
  refine lv_if_ne (tgt := 19) hx hb dX8_rank_10 (by decide) (fun h10 => absurd rfl h10) (fun h10 => ?_)
  refine lv_aload_n hx hb dX8_rank_13 rfl (lv_at hl 0 rfl) ?_
  refine lv_iconst (v := 1) hx hb dX8_rank_14 (by decide) ?_
  refine gg_callV F hG (ci := 8) (As := [.int 1]) (rest := []) (c_X8_no Z l AD (mu M 1 0 0 0) _ hn 1) kY_X8_no kV_X8_no (gR_model hn) rfl rfl w4_121 rfl ⟨rfl, rfl⟩ ⟨(Nat.le_of_ble_eq_true rfl), (Nat.le_of_ble_eq_true rfl)⟩ rfl (Nat.le_of_ble_eq_true rfl) hl.1 ⟨Nat.zero_le _, Nat.zero_le _⟩ dX8_rank_15 rfl (fun H locs hG => ?_)
  exact gg_iret F hG rfl rfl rfl dX8_rank_18
