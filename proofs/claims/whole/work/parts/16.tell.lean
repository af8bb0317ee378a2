/-! what the club tells -/
def cmpF (a b : Int32) : Int32 := if b ≤ a then (if a = b then 0 else 1) else -1
abbrev ush (x y : Int32) : Int32 := (x.toUInt32 >>> (y.toUInt32 &&& Int32.toUInt32 31)).toInt32
def bc1 (x : Int32) : Int32 := x - (ush x 1 &&& 1431655765)
def bc2 (x : Int32) : Int32 := (bc1 x &&& 858993459) + (ush (bc1 x) 2 &&& 858993459)
def bc3 (x : Int32) : Int32 := (bc2 x + ush (bc2 x) 4) &&& 252645135
def bc4 (x : Int32) : Int32 := bc3 x + ush (bc3 x) 8
def bc5 (x : Int32) : Int32 := bc4 x + ush (bc4 x) 16
def bcF (x : Int32) : Int32 := bc5 x &&& 63
def scoF (M : St) (crd : Int32) : Nat → Int32
  | 0 => 0
  | i + 1 => if crd &&& (1 <<< (nI i &&& 31)) = 0 then scoF M crd i else scoF M crd i + M 0 i 2
def scoJ (M : St) (j ns : Nat) : Int32 := scoF M (crdF M j (szN M j)) ns
def ldsF (M : St) (c ns a b : Nat) : Int32 :=
  if cmpF (scoJ M (8 * c + a) ns) (scoJ M (8 * c + b) ns) = 0 then
    (if cmpF (M 15 (8 * c + a) 0) (M 15 (8 * c + b) 0) = 0 then (if nI b ≤ nI a then 0 else 1) else (if cmpF (M 15 (8 * c + a) 0) (M 15 (8 * c + b) 0) ≤ 0 then 0 else 1))
  else (if cmpF (scoJ M (8 * c + a) ns) (scoJ M (8 * c + b) ns) ≤ 0 then 0 else 1)
def ldrF (M : St) (c ns b : Nat) : Nat → Int32
  | 0 => 0
  | i + 1 => if nI i = nI b then ldrF M c ns b i else if ldsF M c ns i b = 0 then ldrF M c ns b i else ldrF M c ns b i + 1
def mapF (M : St) (c ns nm : Nat) (x : Int32) : Nat → Nat → Int32
  | 0, _ => -1
  | q + 1, i => if ldrF M c ns i nm = x then nI i else mapF M c ns nm x q (i + 1)
def mwcF (M : St) (c k : Nat) : Nat → Int32
  | 0 => 0
  | i + 1 => if crdF M (8 * c + i) (szN M (8 * c + i)) &&& (1 <<< (nI k &&& 31)) = 0 then mwcF M c k i else mwcF M c k i + 1
def soaF (M : St) (c : Nat) : Nat → Int32
  | 0 => 0
  | i + 1 => if airN (M 0 i 3) (M 0 i 4) (M 3 c 0) = 0 then soaF M c i else soaF M c i + 1
def lisF (M : St) (c : Nat) : Nat → Int32
  | 0 => 0
  | i + 1 => if M 14 (8 * c + i) 0 = 0 then lisF M c i else lisF M c i + 1
def allF (M : St) (c : Nat) : Nat → Int32
  | 0 => 0
  | i + 1 => allF M c i + M 15 (8 * c + i) 0
def solF (M : St) (c k : Nat) : Nat → Int32
  | 0 => 0
  | i + 1 => solF M c k i + sumF M (8 * c + i) k (szN M (8 * c + i))
def tesF (M : St) (c nm k : Nat) : Nat → Int32
  | 0 => M 0 k 0
  | 1 => M 0 k 1
  | 2 => M 0 k 2
  | 3 => if airN (M 0 k 3) (M 0 k 4) (M 3 c 0) = 0 then 0 else 1
  | 4 => fadF (M 0 k 5) (M 3 c 0)
  | _ => mwcF M c k nm
def temF (M : St) (ns j : Nat) : Nat → Int32
  | 0 => M 8 j 0
  | 1 => M 9 j 0
  | 2 => M 10 j 0
  | 3 => M 11 j 0
  | 4 => if M 14 j 0 = 0 then 0 else 1
  | 5 => M 12 j 0
  | 6 => M 13 j 0
  | 7 => M 15 j 0
  | 8 => bcF (crdF M j (szN M j))
  | _ => scoJ M j ns
def tecF (M : St) (c ns nm : Nat) : Nat → Int32
  | 0 => M 3 c 0
  | 1 => M 1 c 0
  | 2 => soaF M c ns
  | 3 => M 2 c 0
  | 4 => lisF M c nm
  | 5 => allF M c nm
  | 6 => solF M c 3 nm
  | _ => M 15 (16 + c) 0
/-- the checksum -/
def dgN (f : Nat → Int32) (d : Int64) : Nat → Int64
  | 0 => d
  | i + 1 => dgN f d i * 31 + (f i).toInt64
def dgT (M : St) (t q : Nat) (d : Int64) : Nat → Int64
  | 0 => d
  | r + 1 => dgN (fun k => M 16 t (r * q + k)) (dgT M t q d r) q
def dgM (M : St) (ns j : Nat) (d : Int64) : Int64 := dgT M j 4 (dgN (temF M ns j) d 10) (szN M j)
def dgS (M : St) (c nm : Nat) (d : Int64) : Nat → Int64
  | 0 => d
  | k + 1 => dgN (tesF M c nm k) (dgS M c nm d k) 6
def dgA (M : St) (c ns : Nat) (d : Int64) : Nat → Int64
  | 0 => d
  | i + 1 => dgM M ns (8 * c + i) (dgA M c ns d i)
def digF (M : St) (c ns nm : Nat) : Int64 := dgT M (16 + c) 3 (dgA M c ns (dgS M c nm (dgN (tecF M c ns nm) 701 8) ns) nm) (szN M (16 + c))
set_option maxRecDepth 100000 in
set_option maxHeartbeats 4000000 in
theorem c_J6_compare_7cf53 (Z : gZ) (l : Launch) (a b : Int32) (ws : va_W) : gM Z l yJ6_compare_7cf53 cJ6_compare_7cf53 2 (some .int) ({ frames := 0, cells := 0, slots := 0, locals := 0 } : Room) [.int a, .int b] ws (some (.int (cmpF a b))) ws 0 0 := by
  refine gM_of (by decide +kernel) (Nat.le_of_ble_eq_true rfl) ?_
  intro pP eE sS mI aA bB mE cC A F hname hG ls hl
  have hx := F.1
  have hb := F.2.1
  have hl : lv_has ls 2 [(0, .int a), (1, .int b)] := hl
  refine lv_iload_n hx hb dJ6_compare_7cf53_0 rfl (lv_at hl 0 rfl) ?_
  refine lv_iload_n hx hb dJ6_compare_7cf53_1 rfl (lv_at hl 1 rfl) ?_
  refine lv_icmp_ge (tgt := 9) hx hb dJ6_compare_7cf53_2 (by decide) (fun h2 => ?_) (fun h2 => ?_)
  · refine lv_iload_n hx hb dJ6_compare_7cf53_9 rfl (lv_at hl 0 rfl) ?_
    refine lv_iload_n hx hb dJ6_compare_7cf53_10 rfl (lv_at hl 1 rfl) ?_
    refine lv_icmp_ne (tgt := 18) hx hb dJ6_compare_7cf53_11 (by decide) (fun h11 => ?_) (fun h11 => ?_)
    · refine lv_iconst (v := 1) hx hb dJ6_compare_7cf53_18 (by decide) ?_
      exact gg_iret F hG rfl (Eq.symm ((if_pos h2).trans (if_neg h11))) rfl dJ6_compare_7cf53_19
    · refine lv_iconst (v := 0) hx hb dJ6_compare_7cf53_14 (by decide) ?_
      refine lv_goto (tgt := 19) hx hb dJ6_compare_7cf53_15 (by decide) ?_
      exact gg_iret F hG rfl (Eq.symm ((if_pos h2).trans (if_pos h11))) rfl dJ6_compare_7cf53_19
  · refine lv_iconst (v := (-1)) hx hb dJ6_compare_7cf53_5 (by decide) ?_
    refine lv_goto (tgt := 19) hx hb dJ6_compare_7cf53_6 (by decide) ?_
    exact gg_iret F hG rfl (Eq.symm (if_neg h2)) rfl dJ6_compare_7cf53_19
set_option maxRecDepth 100000 in
set_option maxHeartbeats 4000000 in
theorem c_J6_bitCount_0f7a4 (Z : gZ) (l : Launch) (x : Int32) (ws : va_W) : gM Z l yJ6_bitCount_0f7a4 cJ6_bitCount_0f7a4 1 (some .int) ({ frames := 0, cells := 0, slots := 0, locals := 0 } : Room) [.int x] ws (some (.int (bcF x))) ws 0 0 := by
  refine gM_of (by decide +kernel) (Nat.le_of_ble_eq_true rfl) ?_
  intro pP eE sS mI aA bB mE cC A F hname hG ls hl
  have hx := F.1
  have hb := F.2.1
  have hl : lv_has ls 1 [(0, .int x)] := hl
  refine lv_iload_n hx hb dJ6_bitCount_0f7a4_0 rfl (lv_at hl 0 rfl) ?_
  refine lv_iload_n hx hb dJ6_bitCount_0f7a4_1 rfl (lv_at hl 0 rfl) ?_
  refine lv_iconst (v := 1) hx hb dJ6_bitCount_0f7a4_2 (by decide) ?_
  refine lv_iushr (v := ush x 1) hx hb dJ6_bitCount_0f7a4_3 rfl ?_
  refine lv_ldcw hx hb F.2.2.2.1 (F.2.2.2.2.1 _ w2_29) dJ6_bitCount_0f7a4_4 ?_
  refine lv_iand hx hb dJ6_bitCount_0f7a4_7 ?_
  refine lv_isub hx hb dJ6_bitCount_0f7a4_8 ?_
  rw [show (x - ((ush x 1) &&& 1431655765) : Int32) = bc1 x from rfl]
  refine lv_istore_n (lv' := [(0, .int (bc1 x))]) hx hb dJ6_bitCount_0f7a4_9 rfl hl (by decide) rfl (fun ls hl => ?_)
  refine lv_iload_n hx hb dJ6_bitCount_0f7a4_10 rfl (lv_at hl 0 rfl) ?_
  refine lv_ldcw hx hb F.2.2.2.1 (F.2.2.2.2.1 _ w2_30) dJ6_bitCount_0f7a4_11 ?_
  refine lv_iand hx hb dJ6_bitCount_0f7a4_14 ?_
  refine lv_iload_n hx hb dJ6_bitCount_0f7a4_15 rfl (lv_at hl 0 rfl) ?_
  refine lv_iconst (v := 2) hx hb dJ6_bitCount_0f7a4_16 (by decide) ?_
  refine lv_iushr (v := ush (bc1 x) 2) hx hb dJ6_bitCount_0f7a4_17 rfl ?_
  refine lv_ldcw hx hb F.2.2.2.1 (F.2.2.2.2.1 _ w2_30) dJ6_bitCount_0f7a4_18 ?_
  refine lv_iand hx hb dJ6_bitCount_0f7a4_21 ?_
  refine lv_iadd hx hb dJ6_bitCount_0f7a4_22 ?_
  rw [show (((bc1 x) &&& 858993459) + ((ush (bc1 x) 2) &&& 858993459) : Int32) = bc2 x from rfl]
  refine lv_istore_n (lv' := [(0, .int (bc2 x))]) hx hb dJ6_bitCount_0f7a4_23 rfl hl (by decide) rfl (fun ls hl => ?_)
  refine lv_iload_n hx hb dJ6_bitCount_0f7a4_24 rfl (lv_at hl 0 rfl) ?_
  refine lv_iload_n hx hb dJ6_bitCount_0f7a4_25 rfl (lv_at hl 0 rfl) ?_
  refine lv_iconst (v := 4) hx hb dJ6_bitCount_0f7a4_26 (by decide) ?_
  refine lv_iushr (v := ush (bc2 x) 4) hx hb dJ6_bitCount_0f7a4_27 rfl ?_
  refine lv_iadd hx hb dJ6_bitCount_0f7a4_28 ?_
  refine lv_ldcw hx hb F.2.2.2.1 (F.2.2.2.2.1 _ w2_31) dJ6_bitCount_0f7a4_29 ?_
  refine lv_iand hx hb dJ6_bitCount_0f7a4_32 ?_
  rw [show (((bc2 x) + (ush (bc2 x) 4)) &&& 252645135 : Int32) = bc3 x from rfl]
  refine lv_istore_n (lv' := [(0, .int (bc3 x))]) hx hb dJ6_bitCount_0f7a4_33 rfl hl (by decide) rfl (fun ls hl => ?_)
  refine lv_iload_n hx hb dJ6_bitCount_0f7a4_34 rfl (lv_at hl 0 rfl) ?_
  refine lv_iload_n hx hb dJ6_bitCount_0f7a4_35 rfl (lv_at hl 0 rfl) ?_
  refine lv_bipush (v := 8) hx hb dJ6_bitCount_0f7a4_36 (by decide) ?_
  refine lv_iushr (v := ush (bc3 x) 8) hx hb dJ6_bitCount_0f7a4_38 rfl ?_
  refine lv_iadd hx hb dJ6_bitCount_0f7a4_39 ?_
  rw [show ((bc3 x) + (ush (bc3 x) 8) : Int32) = bc4 x from rfl]
  refine lv_istore_n (lv' := [(0, .int (bc4 x))]) hx hb dJ6_bitCount_0f7a4_40 rfl hl (by decide) rfl (fun ls hl => ?_)
  refine lv_iload_n hx hb dJ6_bitCount_0f7a4_41 rfl (lv_at hl 0 rfl) ?_
  refine lv_iload_n hx hb dJ6_bitCount_0f7a4_42 rfl (lv_at hl 0 rfl) ?_
  refine lv_bipush (v := 16) hx hb dJ6_bitCount_0f7a4_43 (by decide) ?_
  refine lv_iushr (v := ush (bc4 x) 16) hx hb dJ6_bitCount_0f7a4_45 rfl ?_
  refine lv_iadd hx hb dJ6_bitCount_0f7a4_46 ?_
  rw [show ((bc4 x) + (ush (bc4 x) 16) : Int32) = bc5 x from rfl]
  refine lv_istore_n (lv' := [(0, .int (bc5 x))]) hx hb dJ6_bitCount_0f7a4_47 rfl hl (by decide) rfl (fun ls hl => ?_)
  refine lv_iload_n hx hb dJ6_bitCount_0f7a4_48 rfl (lv_at hl 0 rfl) ?_
  refine lv_bipush (v := 63) hx hb dJ6_bitCount_0f7a4_49 (by decide) ?_
  refine lv_iand hx hb dJ6_bitCount_0f7a4_51 ?_
  exact gg_iret F hG rfl rfl rfl dJ6_bitCount_0f7a4_52
set_option maxRecDepth 100000 in
set_option maxHeartbeats 4000000 in
theorem c_X0_scoreOf (Z : gZ) (l : Launch) (AD : Nat → Nat) (M : St) (n : Nat) (hn : 78 ≤ n) (c j ns : Nat) (hc : c < 2) (hj : j < 16) (hS : okS M c ns n) (hs : M 15 j 0 = nI (szN M j)) (hs2 : szN M j ≤ 40) : gM Z l yX0_scoreOf cX0_scoreOf 6 (some .int) ({ frames := 2, cells := 0, slots := 0, locals := 45 } : Room) [.ref (AD (1 + c)), .ref (AD (26 + j))] (wC Z AD M n) (some (.int (scoJ M j ns))) (wC Z AD M n) 0 0 := by
  refine gM_of (by decide +kernel) (Nat.le_of_ble_eq_true rfl) ?_
  intro pP eE sS mI aA bB mE cC A F hname hG ls hl
  have hx := F.1
  have hb := F.2.1
  have hl : lv_has ls 6 [(0, .ref (AD (1 + c))), (1, .ref (AD (26 + j)))] := hl
  have hns2 := hS.2.1
  have hns3 := hS.2.2.1
  refine lv_aload_n hx hb dX0_scoreOf_0 rfl (lv_at hl 1 rfl) ?_
  refine gg_callV F hG (ci := 3) (As := []) (rest := []) (c_X3_cards Z l AD M _ hn j (szN M j) hj hs (by omega)) kY_X3_cards kV_X3_cards (gC_memb hj hn) rfl rfl w2_13 rfl ⟨rfl, rfl⟩ ⟨(Nat.le_of_ble_eq_true rfl), (Nat.le_of_ble_eq_true rfl)⟩ rfl (Nat.le_of_ble_eq_true rfl) hl.1 ⟨Nat.zero_le _, Nat.zero_le _⟩ dX0_scoreOf_1 rfl (fun H locs hG => ?_)
  refine lv_istore_n (lv' := [(2, .int (crdF M j (szN M j))), (0, .ref (AD (1 + c))), (1, .ref (AD (26 + j)))]) hx hb dX0_scoreOf_4 rfl hl (by decide) rfl (fun ls hl => ?_)
  refine lv_iconst (v := 0) hx hb dX0_scoreOf_5 (by decide) ?_
  refine lv_istore_n (lv' := [(3, .int 0), (2, .int (crdF M j (szN M j))), (0, .ref (AD (1 + c))), (1, .ref (AD (26 + j)))]) hx hb dX0_scoreOf_6 rfl hl (by decide) rfl (fun ls hl => ?_)
  refine lv_iconst (v := nI 0) hx hb dX0_scoreOf_7 rfl ?_
  refine lv_istore (lv' := [(4, .int (nI 0)), (3, .int 0), (2, .int (crdF M j (szN M j))), (0, .ref (AD (1 + c))), (1, .ref (AD (26 + j)))]) hx hb dX0_scoreOf_8 hl (by decide) rfl (fun ls hl => ?_)
  have loop10 : ∀ (fuQ i : Nat), i ≤ ns → ns + 1 ≤ i + fuQ → ∀ (H : Heap) (locs : List Loc), gG Z A sS (wC Z AD M n) H locs → ∀ ls : Array Slot, lv_has ls 6 [(0, .ref (AD (1 + c))), (1, .ref (AD (26 + j))), (2, .int (crdF M j (szN M j))), (3, .int (scoF M (crdF M j (szN M j)) i)), (4, .int (nI i))] → W pP l eE ({ frames := 2, cells := 0, slots := 0, locals := 45 } : Room) sS mI aA bB mE cC H locs 0 0 (MQ bB (gQ Z A (some (.int (scoJ M j ns))) (wC Z AD M n)) aA sS 0 0 A) (F0 mI 10 ls []) := by
    intro fuQ
    induction fuQ with
    | zero =>
      intro i h1 h2
      exact absurd h2 (by omega)
    | succ fuQ ih10 =>
      intro i hleQ hfuQ H locs hG ls hl
      by_cases hlt : i < ns
      · refine lv_iload hx hb dX0_scoreOf_10 (lv_at hl 4 rfl) ?_
        refine lv_aload_n hx hb dX0_scoreOf_12 rfl (lv_at hl 0 rfl) ?_
        refine gg_get F hG (ci := 0) (v := .int (nI ns)) 4 gcX0 rfl (gC_club hc hn) (by decide) w1_145 (congrArg (fun z => some (Value.int z)) hS.1) dX0_scoreOf_13 ?_
        refine lv_icmp_ge (tgt := 55) hx hb dX0_scoreOf_16 (by decide) (fun h16 => absurd h16 (nI_ge hlt (by omega))) (fun h16 => ?_)
        refine lv_aload_n hx hb dX0_scoreOf_19 rfl (lv_at hl 0 rfl) ?_
        refine lv_iload hx hb dX0_scoreOf_20 (lv_at hl 4 rfl) ?_
        refine gg_callV F hG (ci := 0) (As := [.int (nI i)]) (rest := []) (c_X0_stationAt Z l AD M _ hn c hc _ i hS hlt) kY_X0_stationAt kV_X0_stationAt (gC_club hc hn) rfl rfl w1_224 rfl ⟨rfl, rfl⟩ ⟨(Nat.le_of_ble_eq_true rfl), (Nat.le_of_ble_eq_true rfl)⟩ rfl (Nat.le_of_ble_eq_true rfl) hl.1 ⟨Nat.zero_le _, Nat.zero_le _⟩ dX0_scoreOf_22 rfl (fun H locs hG => ?_)
        refine lv_astore (lv' := [(5, .ref (AD (78 + i))), (0, .ref (AD (1 + c))), (1, .ref (AD (26 + j))), (2, .int (crdF M j (szN M j))), (3, .int (scoF M (crdF M j (szN M j)) i)), (4, .int (nI i))]) hx hb dX0_scoreOf_25 hl (by decide) rfl (fun ls hl => ?_)
        refine lv_aload hx hb dX0_scoreOf_27 (lv_at hl 0 rfl) ?_
        refine lv_ifnull hx hb dX0_scoreOf_29 ?_
        refine lv_iload_n hx hb dX0_scoreOf_32 rfl (lv_at hl 3 rfl) ?_
        refine lv_iconst (v := 1) hx hb dX0_scoreOf_33 (by decide) ?_
        refine lv_iload hx hb dX0_scoreOf_34 (lv_at hl 5 rfl) ?_
        refine lv_ishl hx hb dX0_scoreOf_36 ?_
        refine lv_iand hx hb dX0_scoreOf_37 ?_
        refine lv_if_eq (tgt := 49) hx hb dX0_scoreOf_38 (by decide) (fun h38 => ?_) (fun h38 => ?_)
        · refine lv_iinc (v := nI (i + 1)) (lv' := [(4, .int (nI (i + 1))), (5, .ref (AD (78 + i))), (0, .ref (AD (1 + c))), (1, .ref (AD (26 + j))), (2, .int (crdF M j (szN M j))), (3, .int (scoF M (crdF M j (szN M j)) i))]) hx hb dX0_scoreOf_49 hl (k := 5) rfl (nI_1 _) (by decide) rfl (fun ls hl => ?_)
          refine lv_goto (tgt := 10) hx hb dX0_scoreOf_52 (by decide) ?_
          have e9 : scoF M (crdF M j (szN M j)) (i + 1) = scoF M (crdF M j (szN M j)) i := if_pos h38
          exact ih10 (i + 1) (by omega) (by omega) _ _ hG ls (by rw [e9]; exact lv_sub hl [2, 3, 4, 5, 0] rfl)
        · refine lv_iload_n hx hb dX0_scoreOf_41 rfl (lv_at hl 4 rfl) ?_
          refine lv_aload hx hb dX0_scoreOf_42 (lv_at hl 0 rfl) ?_
          refine gg_getN F hG (ci := 4) (v := .int (M 0 i 2)) 2 gcX4 rfl (gC_stat (by omega)) (by decide) wn_34 rfl dX0_scoreOf_44 ?_
          refine lv_iadd hx hb dX0_scoreOf_47 ?_
          refine lv_istore_n (lv' := [(3, .int ((scoF M (crdF M j (szN M j)) i) + (M 0 i 2))), (5, .ref (AD (78 + i))), (0, .ref (AD (1 + c))), (1, .ref (AD (26 + j))), (2, .int (crdF M j (szN M j))), (4, .int (nI i))]) hx hb dX0_scoreOf_48 rfl hl (by decide) rfl (fun ls hl => ?_)
          refine lv_iinc (v := nI (i + 1)) (lv' := [(4, .int (nI (i + 1))), (3, .int ((scoF M (crdF M j (szN M j)) i) + (M 0 i 2))), (5, .ref (AD (78 + i))), (0, .ref (AD (1 + c))), (1, .ref (AD (26 + j))), (2, .int (crdF M j (szN M j)))]) hx hb dX0_scoreOf_49 hl (k := 5) rfl (nI_1 _) (by decide) rfl (fun ls hl => ?_)
          refine lv_goto (tgt := 10) hx hb dX0_scoreOf_52 (by decide) ?_
          have e9 : scoF M (crdF M j (szN M j)) (i + 1) = scoF M (crdF M j (szN M j)) i + M 0 i 2 := if_neg h38
          exact ih10 (i + 1) (by omega) (by omega) _ _ hG ls (by rw [e9]; exact lv_sub hl [3, 4, 5, 1, 0] rfl)
      · have hN : ns = i := by omega
        subst hN
        refine lv_iload hx hb dX0_scoreOf_10 (lv_at hl 4 rfl) ?_
        refine lv_aload_n hx hb dX0_scoreOf_12 rfl (lv_at hl 0 rfl) ?_
        refine gg_get F hG (ci := 0) (v := .int (nI ns)) 4 gcX0 rfl (gC_club hc hn) (by decide) w1_145 (congrArg (fun z => some (Value.int z)) hS.1) dX0_scoreOf_13 ?_
        refine lv_icmp_ge (tgt := 55) hx hb dX0_scoreOf_16 (by decide) (fun h16 => ?_) (fun h16 => absurd (nI_le (Nat.le_refl _) (by omega)) h16)
        refine lv_iload_n hx hb dX0_scoreOf_55 rfl (lv_at hl 3 rfl) ?_
        exact gg_iret F hG rfl rfl rfl dX0_scoreOf_56
  exact loop10 (ns + 1) 0 (Nat.zero_le _) (by omega) _ _ hG ls (lv_sub hl [3, 4, 2, 1, 0] rfl)
set_option maxRecDepth 100000 in
set_option maxHeartbeats 4000000 in
theorem c_X0_leads (Z : gZ) (l : Launch) (AD : Nat → Nat) (M : St) (n : Nat) (hn : 78 ≤ n) (c ns nm a b : Nat) (hc : c < 2) (hS : okS M c ns n) (hM : okM M c nm) (hZ : okZ M c nm) (ha : a < nm) (hbb : b < nm) : gM Z l yX0_leads cX0_leads 7 (some .boolean) ({ frames := 3, cells := 0, slots := 0, locals := 70 } : Room) [.ref (AD (1 + c)), .int (nI a), .int (nI b)] (wC Z AD M n) (some (.int (ldsF M c ns a b))) (wC Z AD M n) 0 0 := by
  refine gM_of (by decide +kernel) (Nat.le_of_ble_eq_true rfl) ?_
  intro pP eE sS mI aA bB mE cC A F hname hG ls hl
  have hx := F.1
  have hb := F.2.1
  have hl : lv_has ls 7 [(0, .ref (AD (1 + c))), (1, .int (nI a)), (2, .int (nI b))] := hl
  have hnm2 := hM.2
  refine lv_aload_n hx hb dX0_leads_0 rfl (lv_at hl 0 rfl) ?_
  refine lv_iload_n hx hb dX0_leads_1 rfl (lv_at hl 1 rfl) ?_
  refine gg_callV F hG (ci := 0) (As := [.int (nI a)]) (rest := []) (c_X0_memberAt Z l AD M _ hn c hc _ a hM ha) kY_X0_memberAt kV_X0_memberAt (gC_club hc hn) rfl rfl w1_186 rfl ⟨rfl, rfl⟩ ⟨(Nat.le_of_ble_eq_true rfl), (Nat.le_of_ble_eq_true rfl)⟩ rfl (Nat.le_of_ble_eq_true rfl) hl.1 ⟨Nat.zero_le _, Nat.zero_le _⟩ dX0_leads_2 rfl (fun H locs hG => ?_)
  refine lv_astore_n (lv' := [(3, .ref (AD (26 + (8 * c + a)))), (0, .ref (AD (1 + c))), (1, .int (nI a)), (2, .int (nI b))]) hx hb dX0_leads_5 rfl hl (by decide) rfl (fun ls hl => ?_)
  refine lv_aload_n hx hb dX0_leads_6 rfl (lv_at hl 1 rfl) ?_
  refine lv_iload_n hx hb dX0_leads_7 rfl (lv_at hl 3 rfl) ?_
  refine gg_callV F hG (ci := 0) (As := [.int (nI b)]) (rest := []) (c_X0_memberAt Z l AD M _ hn c hc _ b hM hbb) kY_X0_memberAt kV_X0_memberAt (gC_club hc hn) rfl rfl w1_186 rfl ⟨rfl, rfl⟩ ⟨(Nat.le_of_ble_eq_true rfl), (Nat.le_of_ble_eq_true rfl)⟩ rfl (Nat.le_of_ble_eq_true rfl) hl.1 ⟨Nat.zero_le _, Nat.zero_le _⟩ dX0_leads_8 rfl (fun H locs hG => ?_)
  refine lv_astore (lv' := [(4, .ref (AD (26 + (8 * c + b)))), (3, .ref (AD (26 + (8 * c + a)))), (0, .ref (AD (1 + c))), (1, .int (nI a)), (2, .int (nI b))]) hx hb dX0_leads_11 hl (by decide) rfl (fun ls hl => ?_)
  refine lv_aload_n hx hb dX0_leads_13 rfl (lv_at hl 1 rfl) ?_
  refine lv_ifnull hx hb dX0_leads_14 ?_
  refine lv_aload hx hb dX0_leads_17 (lv_at hl 0 rfl) ?_
  refine lv_ifnonnull (tgt := 24) hx hb dX0_leads_19 (by decide) ?_
  refine lv_aload_n hx hb dX0_leads_24 rfl (lv_at hl 2 rfl) ?_
  refine lv_aload_n hx hb dX0_leads_25 rfl (lv_at hl 1 rfl) ?_
  refine gg_callV F hG (ci := 0) (As := [.ref (AD (26 + (8 * c + a)))]) (rest := []) (c_X0_scoreOf Z l AD M _ hn c (8 * c + a) _ hc (by omega) hS (hZ a ha).1 (hZ a ha).2) kY_X0_scoreOf kV_X0_scoreOf (gC_club hc hn) rfl rfl w2_32 rfl ⟨rfl, rfl⟩ ⟨(Nat.le_of_ble_eq_true rfl), (Nat.le_of_ble_eq_true rfl)⟩ rfl (Nat.le_of_ble_eq_true rfl) hl.1 ⟨Nat.zero_le _, Nat.zero_le _⟩ dX0_leads_26 rfl (fun H locs hG => ?_)
  refine lv_aload_n hx hb dX0_leads_29 rfl (lv_at hl 2 rfl) ?_
  refine lv_aload hx hb dX0_leads_30 (lv_at hl 0 rfl) ?_
  refine gg_callV F hG (ci := 0) (As := [.ref (AD (26 + (8 * c + b)))]) (rest := [.int (scoJ M (8 * c + a) ns)]) (c_X0_scoreOf Z l AD M _ hn c (8 * c + b) _ hc (by omega) hS (hZ b hbb).1 (hZ b hbb).2) kY_X0_scoreOf kV_X0_scoreOf (gC_club hc hn) rfl rfl w2_32 rfl ⟨rfl, rfl⟩ ⟨(Nat.le_of_ble_eq_true rfl), (Nat.le_of_ble_eq_true rfl)⟩ rfl (Nat.le_of_ble_eq_true rfl) hl.1 ⟨Nat.zero_le _, Nat.zero_le _⟩ dX0_leads_32 rfl (fun H locs hG => ?_)
  refine gg_callS F hG (As := [.int (scoJ M (8 * c + a) ns), .int (scoJ M (8 * c + b) ns)]) (rest := []) (c_J6_compare_7cf53 Z l (scoJ M (8 * c + a) ns) (scoJ M (8 * c + b) ns) _) kY_J6_compare_7cf53 kV_J6_compare_7cf53 w3_207 rfl ⟨rfl, rfl⟩ ⟨(Nat.le_of_ble_eq_true rfl), (Nat.le_of_ble_eq_true rfl)⟩ rfl (Nat.le_of_ble_eq_true rfl) hl.1 ⟨Nat.zero_le _, Nat.zero_le _⟩ dX0_leads_35 rfl (fun H locs hG => ?_)
  refine lv_istore (lv' := [(5, .int (cmpF (scoJ M (8 * c + a) ns) (scoJ M (8 * c + b) ns))), (4, .ref (AD (26 + (8 * c + b)))), (3, .ref (AD (26 + (8 * c + a)))), (0, .ref (AD (1 + c))), (1, .int (nI a)), (2, .int (nI b))]) hx hb dX0_leads_38 hl (by decide) rfl (fun ls hl => ?_)
  refine lv_iload hx hb dX0_leads_40 (lv_at hl 0 rfl) ?_
  refine lv_if_eq (tgt := 56) hx hb dX0_leads_42 (by decide) (fun h42 => ?_) (fun h42 => ?_)
  · refine lv_aload_n hx hb dX0_leads_56 rfl (lv_at hl 2 rfl) ?_
    refine gg_getN F hG (ci := 3) (v := .ref (AD (42 + (8 * c + a)))) 1 gcX3 rfl (gC_memb (by omega) hn) (by decide) wn_18 rfl dX0_leads_57 ?_
    refine gg_getN F hG (ci := 5) (v := .int (M 15 (8 * c + a) 0)) 2 gcX5 rfl (gC_tabl (by omega) hn) (by decide) wn_14 rfl dX0_leads_60 ?_
    refine lv_aload hx hb dX0_leads_63 (lv_at hl 1 rfl) ?_
    refine gg_getN F hG (ci := 3) (v := .ref (AD (42 + (8 * c + b)))) 1 gcX3 rfl (gC_memb (by omega) hn) (by decide) wn_18 rfl dX0_leads_65 ?_
    refine gg_getN F hG (ci := 5) (v := .int (M 15 (8 * c + b) 0)) 2 gcX5 rfl (gC_tabl (by omega) hn) (by decide) wn_14 rfl dX0_leads_68 ?_
    refine gg_callS F hG (As := [.int (M 15 (8 * c + a) 0), .int (M 15 (8 * c + b) 0)]) (rest := []) (c_J6_compare_7cf53 Z l (M 15 (8 * c + a) 0) (M 15 (8 * c + b) 0) _) kY_J6_compare_7cf53 kV_J6_compare_7cf53 w3_207 rfl ⟨rfl, rfl⟩ ⟨(Nat.le_of_ble_eq_true rfl), (Nat.le_of_ble_eq_true rfl)⟩ rfl (Nat.le_of_ble_eq_true rfl) hl.1 ⟨Nat.zero_le _, Nat.zero_le _⟩ dX0_leads_71 rfl (fun H locs hG => ?_)
    refine lv_istore (lv' := [(6, .int (cmpF (M 15 (8 * c + a) 0) (M 15 (8 * c + b) 0))), (5, .int (cmpF (scoJ M (8 * c + a) ns) (scoJ M (8 * c + b) ns))), (4, .ref (AD (26 + (8 * c + b)))), (3, .ref (AD (26 + (8 * c + a)))), (0, .ref (AD (1 + c))), (1, .int (nI a)), (2, .int (nI b))]) hx hb dX0_leads_74 hl (by decide) rfl (fun ls hl => ?_)
    refine lv_iload hx hb dX0_leads_76 (lv_at hl 0 rfl) ?_
    refine lv_if_eq (tgt := 94) hx hb dX0_leads_78 (by decide) (fun h78 => ?_) (fun h78 => ?_)
    · refine lv_iload_n hx hb dX0_leads_94 rfl (lv_at hl 5 rfl) ?_
      refine lv_iload_n hx hb dX0_leads_95 rfl (lv_at hl 6 rfl) ?_
      refine lv_icmp_ge (tgt := 103) hx hb dX0_leads_96 (by decide) (fun h96 => ?_) (fun h96 => ?_)
      · refine lv_iconst (v := 0) hx hb dX0_leads_103 (by decide) ?_
        exact gg_iret F hG rfl (Eq.symm ((if_pos h42).trans ((if_pos h78).trans (if_pos h96)))) rfl dX0_leads_104
      · refine lv_iconst (v := 1) hx hb dX0_leads_99 (by decide) ?_
        refine lv_goto (tgt := 104) hx hb dX0_leads_100 (by decide) ?_
        exact gg_iret F hG rfl (Eq.symm ((if_pos h42).trans ((if_pos h78).trans (if_neg h96)))) rfl dX0_leads_104
    · refine lv_iload hx hb dX0_leads_81 (lv_at hl 0 rfl) ?_
      refine lv_if_le (tgt := 90) hx hb dX0_leads_83 (by decide) (fun h83 => ?_) (fun h83 => ?_)
      · refine lv_iconst (v := 0) hx hb dX0_leads_90 (by decide) ?_
        refine lv_goto (tgt := 104) hx hb dX0_leads_91 (by decide) ?_
        exact gg_iret F hG rfl (Eq.symm ((if_pos h42).trans ((if_neg h78).trans (if_pos h83)))) rfl dX0_leads_104
      · refine lv_iconst (v := 1) hx hb dX0_leads_86 (by decide) ?_
        refine lv_goto (tgt := 104) hx hb dX0_leads_87 (by decide) ?_
        exact gg_iret F hG rfl (Eq.symm ((if_pos h42).trans ((if_neg h78).trans (if_neg h83)))) rfl dX0_leads_104
  · refine lv_iload hx hb dX0_leads_45 (lv_at hl 0 rfl) ?_
    refine lv_if_le (tgt := 54) hx hb dX0_leads_47 (by decide) (fun h47 => ?_) (fun h47 => ?_)
    · refine lv_iconst (v := 0) hx hb dX0_leads_54 (by decide) ?_
      exact gg_iret F hG rfl (Eq.symm ((if_neg h42).trans (if_pos h47))) rfl dX0_leads_55
    · refine lv_iconst (v := 1) hx hb dX0_leads_50 (by decide) ?_
      refine lv_goto (tgt := 55) hx hb dX0_leads_51 (by decide) ?_
      exact gg_iret F hG rfl (Eq.symm ((if_neg h42).trans (if_neg h47))) rfl dX0_leads_55
set_option maxRecDepth 100000 in
set_option maxHeartbeats 4000000 in
theorem c_X0_leadersOf (Z : gZ) (l : Launch) (AD : Nat → Nat) (M : St) (n : Nat) (hn : 78 ≤ n) (c ns nm b : Nat) (hc : c < 2) (hS : okS M c ns n) (hM : okM M c nm) (hZ : okZ M c nm) (hbb : b < nm) : gM Z l yX0_leadersOf cX0_leadersOf 4 (some .int) ({ frames := 4, cells := 0, slots := 0, locals := 96 } : Room) [.ref (AD (1 + c)), .int (nI b)] (wC Z AD M n) (some (.int (ldrF M c ns b nm))) (wC Z AD M n) 0 0 := by
  refine gM_of (by decide +kernel) (Nat.le_of_ble_eq_true rfl) ?_
  intro pP eE sS mI aA bB mE cC A F hname hG ls hl
  have hx := F.1
  have hb := F.2.1
  have hl : lv_has ls 4 [(0, .ref (AD (1 + c))), (1, .int (nI b))] := hl
  have hnm2 := hM.2
  refine lv_iconst (v := 0) hx hb dX0_leadersOf_0 (by decide) ?_
  refine lv_istore_n (lv' := [(2, .int 0), (0, .ref (AD (1 + c))), (1, .int (nI b))]) hx hb dX0_leadersOf_1 rfl hl (by decide) rfl (fun ls hl => ?_)
  refine lv_iconst (v := nI 0) hx hb dX0_leadersOf_2 rfl ?_
  refine lv_istore_n (lv' := [(3, .int (nI 0)), (2, .int 0), (0, .ref (AD (1 + c))), (1, .int (nI b))]) hx hb dX0_leadersOf_3 rfl hl (by decide) rfl (fun ls hl => ?_)
  have loop4 : ∀ (fuQ i : Nat), i ≤ nm → nm + 1 ≤ i + fuQ → ∀ (H : Heap) (locs : List Loc), gG Z A sS (wC Z AD M n) H locs → ∀ ls : Array Slot, lv_has ls 4 [(0, .ref (AD (1 + c))), (1, .int (nI b)), (2, .int (ldrF M c ns b i)), (3, .int (nI i))] → W pP l eE ({ frames := 4, cells := 0, slots := 0, locals := 96 } : Room) sS mI aA bB mE cC H locs 0 0 (MQ bB (gQ Z A (some (.int (ldrF M c ns b nm))) (wC Z AD M n)) aA sS 0 0 A) (F0 mI 4 ls []) := by
    intro fuQ
    induction fuQ with
    | zero =>
      intro i h1 h2
      exact absurd h2 (by omega)
    | succ fuQ ih4 =>
      intro i hleQ hfuQ H locs hG ls hl
      by_cases hlt : i < nm
      · refine lv_iload_n hx hb dX0_leadersOf_4 rfl (lv_at hl 3 rfl) ?_
        refine lv_aload_n hx hb dX0_leadersOf_5 rfl (lv_at hl 0 rfl) ?_
        refine gg_get F hG (ci := 0) (v := .int (nI nm)) 5 gcX0 rfl (gC_club hc hn) (by decide) w1_147 (congrArg (fun z => some (Value.int z)) hM.1) dX0_leadersOf_6 ?_
        refine lv_icmp_ge (tgt := 35) hx hb dX0_leadersOf_9 (by decide) (fun h9 => absurd h9 (nI_ge hlt (by omega))) (fun h9 => ?_)
        refine lv_iload_n hx hb dX0_leadersOf_12 rfl (lv_at hl 3 rfl) ?_
        refine lv_iload_n hx hb dX0_leadersOf_13 rfl (lv_at hl 1 rfl) ?_
        refine lv_icmp_eq (tgt := 29) hx hb dX0_leadersOf_14 (by decide) (fun h14 => ?_) (fun h14 => ?_)
        · refine lv_iinc (v := nI (i + 1)) (lv' := [(3, .int (nI (i + 1))), (0, .ref (AD (1 + c))), (1, .int (nI b)), (2, .int (ldrF M c ns b i))]) hx hb dX0_leadersOf_29 hl (k := 3) rfl (nI_1 _) (by decide) rfl (fun ls hl => ?_)
          refine lv_goto (tgt := 4) hx hb dX0_leadersOf_32 (by decide) ?_
          have e9 : ldrF M c ns b (i + 1) = ldrF M c ns b i := if_pos h14
          exact ih4 (i + 1) (by omega) (by omega) _ _ hG ls (by rw [e9]; exact lv_sub hl [1, 2, 3, 0] rfl)
        · refine lv_aload_n hx hb dX0_leadersOf_17 rfl (lv_at hl 0 rfl) ?_
          refine lv_iload_n hx hb dX0_leadersOf_18 rfl (lv_at hl 3 rfl) ?_
          refine lv_iload_n hx hb dX0_leadersOf_19 rfl (lv_at hl 1 rfl) ?_
          refine gg_callV F hG (ci := 0) (As := [.int (nI i), .int (nI b)]) (rest := []) (c_X0_leads Z l AD M _ hn c _ _ i b hc hS hM hZ hlt hbb) kY_X0_leads kV_X0_leads (gC_club hc hn) rfl rfl w3_203 rfl ⟨rfl, rfl⟩ ⟨(Nat.le_of_ble_eq_true rfl), (Nat.le_of_ble_eq_true rfl)⟩ rfl (Nat.le_of_ble_eq_true rfl) hl.1 ⟨Nat.zero_le _, Nat.zero_le _⟩ dX0_leadersOf_20 rfl (fun H locs hG => ?_)
          refine lv_if_eq (tgt := 29) hx hb dX0_leadersOf_23 (by decide) (fun h23 => ?_) (fun h23 => ?_)
          · refine lv_iinc (v := nI (i + 1)) (lv' := [(3, .int (nI (i + 1))), (0, .ref (AD (1 + c))), (1, .int (nI b)), (2, .int (ldrF M c ns b i))]) hx hb dX0_leadersOf_29 hl (k := 3) rfl (nI_1 _) (by decide) rfl (fun ls hl => ?_)
            refine lv_goto (tgt := 4) hx hb dX0_leadersOf_32 (by decide) ?_
            have e9 : ldrF M c ns b (i + 1) = ldrF M c ns b i := (if_neg h14).trans (if_pos h23)
            exact ih4 (i + 1) (by omega) (by omega) _ _ hG ls (by rw [e9]; exact lv_sub hl [1, 2, 3, 0] rfl)
          · refine lv_iinc (v := (ldrF M c ns b i) + 1) (lv' := [(2, .int ((ldrF M c ns b i) + 1)), (0, .ref (AD (1 + c))), (1, .int (nI b)), (3, .int (nI i))]) hx hb dX0_leadersOf_26 hl (k := 2) rfl rfl (by decide) rfl (fun ls hl => ?_)
            refine lv_iinc (v := nI (i + 1)) (lv' := [(3, .int (nI (i + 1))), (2, .int ((ldrF M c ns b i) + 1)), (0, .ref (AD (1 + c))), (1, .int (nI b))]) hx hb dX0_leadersOf_29 hl (k := 3) rfl (nI_1 _) (by decide) rfl (fun ls hl => ?_)
            refine lv_goto (tgt := 4) hx hb dX0_leadersOf_32 (by decide) ?_
            have e9 : ldrF M c ns b (i + 1) = ldrF M c ns b i + 1 := (if_neg h14).trans (if_neg h23)
            exact ih4 (i + 1) (by omega) (by omega) _ _ hG ls (by rw [e9]; exact lv_sub hl [2, 3, 1, 0] rfl)
      · have hN : nm = i := by omega
        subst hN
        refine lv_iload_n hx hb dX0_leadersOf_4 rfl (lv_at hl 3 rfl) ?_
        refine lv_aload_n hx hb dX0_leadersOf_5 rfl (lv_at hl 0 rfl) ?_
        refine gg_get F hG (ci := 0) (v := .int (nI nm)) 5 gcX0 rfl (gC_club hc hn) (by decide) w1_147 (congrArg (fun z => some (Value.int z)) hM.1) dX0_leadersOf_6 ?_
        refine lv_icmp_ge (tgt := 35) hx hb dX0_leadersOf_9 (by decide) (fun h9 => ?_) (fun h9 => absurd (nI_le (Nat.le_refl _) (by omega)) h9)
        refine lv_iload_n hx hb dX0_leadersOf_35 rfl (lv_at hl 2 rfl) ?_
        exact gg_iret F hG rfl rfl rfl dX0_leadersOf_36
  exact loop4 (nm + 1) 0 (Nat.zero_le _) (by omega) _ _ hG ls (lv_sub hl [2, 3, 1, 0] rfl)
set_option maxRecDepth 100000 in
set_option maxHeartbeats 4000000 in
theorem c_X0_memberAtPlace (Z : gZ) (l : Launch) (AD : Nat → Nat) (M : St) (n : Nat) (hn : 78 ≤ n) (c ns nm : Nat) (hc : c < 2) (hS : okS M c ns n) (hM : okM M c nm) (hZ : okZ M c nm) (x : Int32) : gM Z l yX0_memberAtPlace cX0_memberAtPlace 3 (some .int) ({ frames := 5, cells := 0, slots := 0, locals := 119 } : Room) [.ref (AD (1 + c)), .int x] (wC Z AD M n) (some (.int (mapF M c ns nm x nm 0))) (wC Z AD M n) 0 0 := by
  refine gM_of (by decide +kernel) (Nat.le_of_ble_eq_true rfl) ?_
  intro pP eE sS mI aA bB mE cC A F hname hG ls hl
  have hx := F.1
  have hb := F.2.1
  have hl : lv_has ls 3 [(0, .ref (AD (1 + c))), (1, .int x)] := hl
  have hnm2 := hM.2
  refine lv_iconst (v := nI 0) hx hb dX0_memberAtPlace_0 rfl ?_
  refine lv_istore_n (lv' := [(2, .int (nI 0)), (0, .ref (AD (1 + c))), (1, .int x)]) hx hb dX0_memberAtPlace_1 rfl hl (by decide) rfl (fun ls hl => ?_)
  have loop2 : ∀ (fuQ i : Nat), i ≤ nm → nm + 1 ≤ i + fuQ → mapF M c ns nm x nm 0 = mapF M c ns nm x (nm - i) i → ∀ (H : Heap) (locs : List Loc), gG Z A sS (wC Z AD M n) H locs → ∀ ls : Array Slot, lv_has ls 3 [(0, .ref (AD (1 + c))), (1, .int x), (2, .int (nI i))] → W pP l eE ({ frames := 5, cells := 0, slots := 0, locals := 119 } : Room) sS mI aA bB mE cC H locs 0 0 (MQ bB (gQ Z A (some (.int (mapF M c ns nm x nm 0))) (wC Z AD M n)) aA sS 0 0 A) (F0 mI 2 ls []) := by
    intro fuQ
    induction fuQ with
    | zero =>
      intro i h1 h2
      exact absurd h2 (by omega)
    | succ fuQ ih2 =>
      intro i hleQ hfuQ hE H locs hG ls hl
      by_cases hlt : i < nm
      · refine lv_iload_n hx hb dX0_memberAtPlace_2 rfl (lv_at hl 2 rfl) ?_
        refine lv_aload_n hx hb dX0_memberAtPlace_3 rfl (lv_at hl 0 rfl) ?_
        refine gg_get F hG (ci := 0) (v := .int (nI nm)) 5 gcX0 rfl (gC_club hc hn) (by decide) w1_147 (congrArg (fun z => some (Value.int z)) hM.1) dX0_memberAtPlace_4 ?_
        refine lv_icmp_ge (tgt := 27) hx hb dX0_memberAtPlace_7 (by decide) (fun h7 => absurd h7 (nI_ge hlt (by omega))) (fun h7 => ?_)
        refine lv_aload_n hx hb dX0_memberAtPlace_10 rfl (lv_at hl 0 rfl) ?_
        refine lv_iload_n hx hb dX0_memberAtPlace_11 rfl (lv_at hl 2 rfl) ?_
        refine gg_callV F hG (ci := 0) (As := [.int (nI i)]) (rest := []) (c_X0_leadersOf Z l AD M _ hn c _ _ i hc hS hM hZ hlt) kY_X0_leadersOf kV_X0_leadersOf (gC_club hc hn) rfl rfl w3_199 rfl ⟨rfl, rfl⟩ ⟨(Nat.le_of_ble_eq_true rfl), (Nat.le_of_ble_eq_true rfl)⟩ rfl (Nat.le_of_ble_eq_true rfl) hl.1 ⟨Nat.zero_le _, Nat.zero_le _⟩ dX0_memberAtPlace_12 rfl (fun H locs hG => ?_)
        refine lv_iload_n hx hb dX0_memberAtPlace_15 rfl (lv_at hl 1 rfl) ?_
        refine lv_icmp_ne (tgt := 21) hx hb dX0_memberAtPlace_16 (by decide) (fun h16 => ?_) (fun h16 => ?_)
        · refine lv_iinc (v := nI (i + 1)) (lv' := [(2, .int (nI (i + 1))), (0, .ref (AD (1 + c))), (1, .int x)]) hx hb dX0_memberAtPlace_21 hl (k := 2) rfl (nI_1 _) (by decide) rfl (fun ls hl => ?_)
          refine lv_goto (tgt := 2) hx hb dX0_memberAtPlace_24 (by decide) ?_
          exact ih2 (i + 1) (by omega) (by omega) (hE.trans (by rw [show nm - i = (nm - (i + 1)) + 1 by omega]; exact if_neg h16)) _ _ hG ls (lv_sub hl [1, 2, 0] rfl)
        · refine lv_iload_n hx hb dX0_memberAtPlace_19 rfl (lv_at hl 2 rfl) ?_
          exact gg_iret F hG rfl (Eq.symm (hE.trans (by rw [show nm - i = (nm - (i + 1)) + 1 by omega]; exact if_pos h16))) rfl dX0_memberAtPlace_20
      · have hN : nm = i := by omega
        subst hN
        refine lv_iload_n hx hb dX0_memberAtPlace_2 rfl (lv_at hl 2 rfl) ?_
        refine lv_aload_n hx hb dX0_memberAtPlace_3 rfl (lv_at hl 0 rfl) ?_
        refine gg_get F hG (ci := 0) (v := .int (nI nm)) 5 gcX0 rfl (gC_club hc hn) (by decide) w1_147 (congrArg (fun z => some (Value.int z)) hM.1) dX0_memberAtPlace_4 ?_
        refine lv_icmp_ge (tgt := 27) hx hb dX0_memberAtPlace_7 (by decide) (fun h7 => ?_) (fun h7 => absurd (nI_le (Nat.le_refl _) (by omega)) h7)
        refine lv_iconst (v := (-1)) hx hb dX0_memberAtPlace_27 (by decide) ?_
        exact gg_iret F hG rfl (Eq.symm (hE.trans (by rw [Nat.sub_self]; rfl))) rfl dX0_memberAtPlace_28
  exact loop2 (nm + 1) 0 (Nat.zero_le _) (by omega) rfl _ _ hG ls (lv_sub hl [1, 2, 0] rfl)
set_option maxRecDepth 100000 in
set_option maxHeartbeats 4000000 in
theorem c_X0_membersWithCardOf (Z : gZ) (l : Launch) (AD : Nat → Nat) (M : St) (n : Nat) (hn : 78 ≤ n) (c nm k : Nat) (hc : c < 2) (hM : okM M c nm) (hZ : okZ M c nm) : gM Z l yX0_membersWithCardOf cX0_membersWithCardOf 5 (some .int) ({ frames := 2, cells := 0, slots := 0, locals := 45 } : Room) [.ref (AD (1 + c)), .int (nI k)] (wC Z AD M n) (some (.int (mwcF M c k nm))) (wC Z AD M n) 0 0 := by
  refine gM_of (by decide +kernel) (Nat.le_of_ble_eq_true rfl) ?_
  intro pP eE sS mI aA bB mE cC A F hname hG ls hl
  have hx := F.1
  have hb := F.2.1
  have hl : lv_has ls 5 [(0, .ref (AD (1 + c))), (1, .int (nI k))] := hl
  have hnm2 := hM.2
  refine lv_iconst (v := 0) hx hb dX0_membersWithCardOf_0 (by decide) ?_
  refine lv_istore_n (lv' := [(2, .int 0), (0, .ref (AD (1 + c))), (1, .int (nI k))]) hx hb dX0_membersWithCardOf_1 rfl hl (by decide) rfl (fun ls hl => ?_)
  refine lv_iconst (v := nI 0) hx hb dX0_membersWithCardOf_2 rfl ?_
  refine lv_istore_n (lv' := [(3, .int (nI 0)), (2, .int 0), (0, .ref (AD (1 + c))), (1, .int (nI k))]) hx hb dX0_membersWithCardOf_3 rfl hl (by decide) rfl (fun ls hl => ?_)
  have loop4 : ∀ (fuQ i : Nat), i ≤ nm → nm + 1 ≤ i + fuQ → ∀ (H : Heap) (locs : List Loc), gG Z A sS (wC Z AD M n) H locs → ∀ ls : Array Slot, lv_has ls 5 [(0, .ref (AD (1 + c))), (1, .int (nI k)), (2, .int (mwcF M c k i)), (3, .int (nI i))] → W pP l eE ({ frames := 2, cells := 0, slots := 0, locals := 45 } : Room) sS mI aA bB mE cC H locs 0 0 (MQ bB (gQ Z A (some (.int (mwcF M c k nm))) (wC Z AD M n)) aA sS 0 0 A) (F0 mI 4 ls []) := by
    intro fuQ
    induction fuQ with
    | zero =>
      intro i h1 h2
      exact absurd h2 (by omega)
    | succ fuQ ih4 =>
      intro i hleQ hfuQ H locs hG ls hl
      by_cases hlt : i < nm
      · have hZ1 := (hZ i hlt).2
        refine lv_iload_n hx hb dX0_membersWithCardOf_4 rfl (lv_at hl 3 rfl) ?_
        refine lv_aload_n hx hb dX0_membersWithCardOf_5 rfl (lv_at hl 0 rfl) ?_
        refine gg_get F hG (ci := 0) (v := .int (nI nm)) 5 gcX0 rfl (gC_club hc hn) (by decide) w1_147 (congrArg (fun z => some (Value.int z)) hM.1) dX0_membersWithCardOf_6 ?_
        refine lv_icmp_ge (tgt := 45) hx hb dX0_membersWithCardOf_9 (by decide) (fun h9 => absurd h9 (nI_ge hlt (by omega))) (fun h9 => ?_)
        refine lv_aload_n hx hb dX0_membersWithCardOf_12 rfl (lv_at hl 0 rfl) ?_
        refine lv_iload_n hx hb dX0_membersWithCardOf_13 rfl (lv_at hl 3 rfl) ?_
        refine gg_callV F hG (ci := 0) (As := [.int (nI i)]) (rest := []) (c_X0_memberAt Z l AD M _ hn c hc _ i hM hlt) kY_X0_memberAt kV_X0_memberAt (gC_club hc hn) rfl rfl w1_186 rfl ⟨rfl, rfl⟩ ⟨(Nat.le_of_ble_eq_true rfl), (Nat.le_of_ble_eq_true rfl)⟩ rfl (Nat.le_of_ble_eq_true rfl) hl.1 ⟨Nat.zero_le _, Nat.zero_le _⟩ dX0_membersWithCardOf_14 rfl (fun H locs hG => ?_)
        refine lv_astore (lv' := [(4, .ref (AD (26 + (8 * c + i)))), (0, .ref (AD (1 + c))), (1, .int (nI k)), (2, .int (mwcF M c k i)), (3, .int (nI i))]) hx hb dX0_membersWithCardOf_17 hl (by decide) rfl (fun ls hl => ?_)
        refine lv_aload hx hb dX0_membersWithCardOf_19 (lv_at hl 0 rfl) ?_
        refine lv_ifnull hx hb dX0_membersWithCardOf_21 ?_
        refine lv_aload hx hb dX0_membersWithCardOf_24 (lv_at hl 0 rfl) ?_
        refine gg_callV F hG (ci := 3) (As := []) (rest := []) (c_X3_cards Z l AD M _ hn (8 * c + i) (szN M (8 * c + i)) (by omega) (hZ i hlt).1 (by omega)) kY_X3_cards kV_X3_cards (gC_memb (by omega) hn) rfl rfl w2_13 rfl ⟨rfl, rfl⟩ ⟨(Nat.le_of_ble_eq_true rfl), (Nat.le_of_ble_eq_true rfl)⟩ rfl (Nat.le_of_ble_eq_true rfl) hl.1 ⟨Nat.zero_le _, Nat.zero_le _⟩ dX0_membersWithCardOf_26 rfl (fun H locs hG => ?_)
        refine lv_iconst (v := 1) hx hb dX0_membersWithCardOf_29 (by decide) ?_
        refine lv_iload_n hx hb dX0_membersWithCardOf_30 rfl (lv_at hl 2 rfl) ?_
        refine lv_ishl hx hb dX0_membersWithCardOf_31 ?_
        refine lv_iand hx hb dX0_membersWithCardOf_32 ?_
        refine lv_if_eq (tgt := 39) hx hb dX0_membersWithCardOf_33 (by decide) (fun h33 => ?_) (fun h33 => ?_)
        · refine lv_iinc (v := nI (i + 1)) (lv' := [(3, .int (nI (i + 1))), (4, .ref (AD (26 + (8 * c + i)))), (0, .ref (AD (1 + c))), (1, .int (nI k)), (2, .int (mwcF M c k i))]) hx hb dX0_membersWithCardOf_39 hl (k := 4) rfl (nI_1 _) (by decide) rfl (fun ls hl => ?_)
          refine lv_goto (tgt := 4) hx hb dX0_membersWithCardOf_42 (by decide) ?_
          have e9 : mwcF M c k (i + 1) = mwcF M c k i := if_pos h33
          exact ih4 (i + 1) (by omega) (by omega) _ _ hG ls (by rw [e9]; exact lv_sub hl [2, 3, 4, 0] rfl)
        · refine lv_iinc (v := (mwcF M c k i) + 1) (lv' := [(2, .int ((mwcF M c k i) + 1)), (4, .ref (AD (26 + (8 * c + i)))), (0, .ref (AD (1 + c))), (1, .int (nI k)), (3, .int (nI i))]) hx hb dX0_membersWithCardOf_36 hl (k := 3) rfl rfl (by decide) rfl (fun ls hl => ?_)
          refine lv_iinc (v := nI (i + 1)) (lv' := [(3, .int (nI (i + 1))), (2, .int ((mwcF M c k i) + 1)), (4, .ref (AD (26 + (8 * c + i)))), (0, .ref (AD (1 + c))), (1, .int (nI k))]) hx hb dX0_membersWithCardOf_39 hl (k := 4) rfl (nI_1 _) (by decide) rfl (fun ls hl => ?_)
          refine lv_goto (tgt := 4) hx hb dX0_membersWithCardOf_42 (by decide) ?_
          have e9 : mwcF M c k (i + 1) = mwcF M c k i + 1 := if_neg h33
          exact ih4 (i + 1) (by omega) (by omega) _ _ hG ls (by rw [e9]; exact lv_sub hl [3, 4, 1, 0] rfl)
      · have hN : nm = i := by omega
        subst hN
        refine lv_iload_n hx hb dX0_membersWithCardOf_4 rfl (lv_at hl 3 rfl) ?_
        refine lv_aload_n hx hb dX0_membersWithCardOf_5 rfl (lv_at hl 0 rfl) ?_
        refine gg_get F hG (ci := 0) (v := .int (nI nm)) 5 gcX0 rfl (gC_club hc hn) (by decide) w1_147 (congrArg (fun z => some (Value.int z)) hM.1) dX0_membersWithCardOf_6 ?_
        refine lv_icmp_ge (tgt := 45) hx hb dX0_membersWithCardOf_9 (by decide) (fun h9 => ?_) (fun h9 => absurd (nI_le (Nat.le_refl _) (by omega)) h9)
        refine lv_iload_n hx hb dX0_membersWithCardOf_45 rfl (lv_at hl 2 rfl) ?_
        exact gg_iret F hG rfl rfl rfl dX0_membersWithCardOf_46
  exact loop4 (nm + 1) 0 (Nat.zero_le _) (by omega) _ _ hG ls (lv_sub hl [2, 3, 1, 0] rfl)
set_option maxRecDepth 100000 in
set_option maxHeartbeats 4000000 in
theorem c_X0_stationsOnAir (Z : gZ) (l : Launch) (AD : Nat → Nat) (M : St) (n : Nat) (hn : 78 ≤ n) (c ns : Nat) (hc : c < 2) (hS : okS M c ns n) : gM Z l yX0_stationsOnAir cX0_stationsOnAir 4 (some .int) ({ frames := 1, cells := 0, slots := 0, locals := 22 } : Room) [.ref (AD (1 + c))] (wC Z AD M n) (some (.int (soaF M c ns))) (wC Z AD M n) 0 0 := by
  refine gM_of (by decide +kernel) (Nat.le_of_ble_eq_true rfl) ?_
  intro pP eE sS mI aA bB mE cC A F hname hG ls hl
  have hx := F.1
  have hb := F.2.1
  have hl : lv_has ls 4 [(0, .ref (AD (1 + c)))] := hl
  have hns2 := hS.2.1
  have hns3 := hS.2.2.1
  refine lv_iconst (v := 0) hx hb dX0_stationsOnAir_0 (by decide) ?_
  refine lv_istore_n (lv' := [(1, .int 0), (0, .ref (AD (1 + c)))]) hx hb dX0_stationsOnAir_1 rfl hl (by decide) rfl (fun ls hl => ?_)
  refine lv_iconst (v := nI 0) hx hb dX0_stationsOnAir_2 rfl ?_
  refine lv_istore_n (lv' := [(2, .int (nI 0)), (1, .int 0), (0, .ref (AD (1 + c)))]) hx hb dX0_stationsOnAir_3 rfl hl (by decide) rfl (fun ls hl => ?_)
  have loop4 : ∀ (fuQ i : Nat), i ≤ ns → ns + 1 ≤ i + fuQ → ∀ (H : Heap) (locs : List Loc), gG Z A sS (wC Z AD M n) H locs → ∀ ls : Array Slot, lv_has ls 4 [(0, .ref (AD (1 + c))), (1, .int (soaF M c i)), (2, .int (nI i))] → W pP l eE ({ frames := 1, cells := 0, slots := 0, locals := 22 } : Room) sS mI aA bB mE cC H locs 0 0 (MQ bB (gQ Z A (some (.int (soaF M c ns))) (wC Z AD M n)) aA sS 0 0 A) (F0 mI 4 ls []) := by
    intro fuQ
    induction fuQ with
    | zero =>
      intro i h1 h2
      exact absurd h2 (by omega)
    | succ fuQ ih4 =>
      intro i hleQ hfuQ H locs hG ls hl
      by_cases hlt : i < ns
      · refine lv_iload_n hx hb dX0_stationsOnAir_4 rfl (lv_at hl 2 rfl) ?_
        refine lv_aload_n hx hb dX0_stationsOnAir_5 rfl (lv_at hl 0 rfl) ?_
        refine gg_get F hG (ci := 0) (v := .int (nI ns)) 4 gcX0 rfl (gC_club hc hn) (by decide) w1_145 (congrArg (fun z => some (Value.int z)) hS.1) dX0_stationsOnAir_6 ?_
        refine lv_icmp_ge (tgt := 42) hx hb dX0_stationsOnAir_9 (by decide) (fun h9 => absurd h9 (nI_ge hlt (by omega))) (fun h9 => ?_)
        refine lv_aload_n hx hb dX0_stationsOnAir_12 rfl (lv_at hl 0 rfl) ?_
        refine lv_iload_n hx hb dX0_stationsOnAir_13 rfl (lv_at hl 2 rfl) ?_
        refine gg_callV F hG (ci := 0) (As := [.int (nI i)]) (rest := []) (c_X0_stationAt Z l AD M _ hn c hc _ i hS hlt) kY_X0_stationAt kV_X0_stationAt (gC_club hc hn) rfl rfl w1_224 rfl ⟨rfl, rfl⟩ ⟨(Nat.le_of_ble_eq_true rfl), (Nat.le_of_ble_eq_true rfl)⟩ rfl (Nat.le_of_ble_eq_true rfl) hl.1 ⟨Nat.zero_le _, Nat.zero_le _⟩ dX0_stationsOnAir_14 rfl (fun H locs hG => ?_)
        refine lv_astore_n (lv' := [(3, .ref (AD (78 + i))), (0, .ref (AD (1 + c))), (1, .int (soaF M c i)), (2, .int (nI i))]) hx hb dX0_stationsOnAir_17 rfl hl (by decide) rfl (fun ls hl => ?_)
        refine lv_aload_n hx hb dX0_stationsOnAir_18 rfl (lv_at hl 0 rfl) ?_
        refine lv_ifnull hx hb dX0_stationsOnAir_19 ?_
        refine lv_aload_n hx hb dX0_stationsOnAir_22 rfl (lv_at hl 0 rfl) ?_
        refine lv_aload_n hx hb dX0_stationsOnAir_23 rfl (lv_at hl 1 rfl) ?_
        refine gg_get F hG (ci := 0) (v := .int (M 3 c 0)) 6 gcX0 rfl (gC_club hc hn) (by decide) w1_149 rfl dX0_stationsOnAir_24 ?_
        refine gg_callV F hG (ci := 4) (As := [.int (M 3 c 0)]) (rest := []) (c_X4_isOnAir Z l AD M _ hn i (by omega) (M 3 c 0)) kY_X4_isOnAir kV_X4_isOnAir (gC_stat (by omega)) rfl rfl w1_228 rfl ⟨rfl, rfl⟩ ⟨(Nat.le_of_ble_eq_true rfl), (Nat.le_of_ble_eq_true rfl)⟩ rfl (Nat.le_of_ble_eq_true rfl) hl.1 ⟨Nat.zero_le _, Nat.zero_le _⟩ dX0_stationsOnAir_27 rfl (fun H locs hG => ?_)
        refine lv_if_eq (tgt := 36) hx hb dX0_stationsOnAir_30 (by decide) (fun h30 => ?_) (fun h30 => ?_)
        · refine lv_iinc (v := nI (i + 1)) (lv' := [(2, .int (nI (i + 1))), (3, .ref (AD (78 + i))), (0, .ref (AD (1 + c))), (1, .int (soaF M c i))]) hx hb dX0_stationsOnAir_36 hl (k := 3) rfl (nI_1 _) (by decide) rfl (fun ls hl => ?_)
          refine lv_goto (tgt := 4) hx hb dX0_stationsOnAir_39 (by decide) ?_
          have e9 : soaF M c (i + 1) = soaF M c i := if_pos h30
          exact ih4 (i + 1) (by omega) (by omega) _ _ hG ls (by rw [e9]; exact lv_sub hl [2, 3, 0] rfl)
        · refine lv_iinc (v := (soaF M c i) + 1) (lv' := [(1, .int ((soaF M c i) + 1)), (3, .ref (AD (78 + i))), (0, .ref (AD (1 + c))), (2, .int (nI i))]) hx hb dX0_stationsOnAir_33 hl (k := 2) rfl rfl (by decide) rfl (fun ls hl => ?_)
          refine lv_iinc (v := nI (i + 1)) (lv' := [(2, .int (nI (i + 1))), (1, .int ((soaF M c i) + 1)), (3, .ref (AD (78 + i))), (0, .ref (AD (1 + c)))]) hx hb dX0_stationsOnAir_36 hl (k := 3) rfl (nI_1 _) (by decide) rfl (fun ls hl => ?_)
          refine lv_goto (tgt := 4) hx hb dX0_stationsOnAir_39 (by decide) ?_
          have e9 : soaF M c (i + 1) = soaF M c i + 1 := if_neg h30
          exact ih4 (i + 1) (by omega) (by omega) _ _ hG ls (by rw [e9]; exact lv_sub hl [3, 1, 0] rfl)
      · have hN : ns = i := by omega
        subst hN
        refine lv_iload_n hx hb dX0_stationsOnAir_4 rfl (lv_at hl 2 rfl) ?_
        refine lv_aload_n hx hb dX0_stationsOnAir_5 rfl (lv_at hl 0 rfl) ?_
        refine gg_get F hG (ci := 0) (v := .int (nI ns)) 4 gcX0 rfl (gC_club hc hn) (by decide) w1_145 (congrArg (fun z => some (Value.int z)) hS.1) dX0_stationsOnAir_6 ?_
        refine lv_icmp_ge (tgt := 42) hx hb dX0_stationsOnAir_9 (by decide) (fun h9 => ?_) (fun h9 => absurd (nI_le (Nat.le_refl _) (by omega)) h9)
        refine lv_iload_n hx hb dX0_stationsOnAir_42 rfl (lv_at hl 1 rfl) ?_
        exact gg_iret F hG rfl rfl rfl dX0_stationsOnAir_43
  exact loop4 (ns + 1) 0 (Nat.zero_le _) (by omega) _ _ hG ls (lv_sub hl [2, 1, 0] rfl)
set_option maxRecDepth 100000 in
set_option maxHeartbeats 4000000 in
theorem c_X0_listeners (Z : gZ) (l : Launch) (AD : Nat → Nat) (M : St) (n : Nat) (hn : 78 ≤ n) (c nm : Nat) (hc : c < 2) (hM : okM M c nm) : gM Z l yX0_listeners cX0_listeners 4 (some .int) ({ frames := 1, cells := 0, slots := 0, locals := 22 } : Room) [.ref (AD (1 + c))] (wC Z AD M n) (some (.int (lisF M c nm))) (wC Z AD M n) 0 0 := by
  refine gM_of (by decide +kernel) (Nat.le_of_ble_eq_true rfl) ?_
  intro pP eE sS mI aA bB mE cC A F hname hG ls hl
  have hx := F.1
  have hb := F.2.1
  have hl : lv_has ls 4 [(0, .ref (AD (1 + c)))] := hl
  have hnm2 := hM.2
  refine lv_iconst (v := 0) hx hb dX0_listeners_0 (by decide) ?_
  refine lv_istore_n (lv' := [(1, .int 0), (0, .ref (AD (1 + c)))]) hx hb dX0_listeners_1 rfl hl (by decide) rfl (fun ls hl => ?_)
  refine lv_iconst (v := nI 0) hx hb dX0_listeners_2 rfl ?_
  refine lv_istore_n (lv' := [(2, .int (nI 0)), (1, .int 0), (0, .ref (AD (1 + c)))]) hx hb dX0_listeners_3 rfl hl (by decide) rfl (fun ls hl => ?_)
  have loop4 : ∀ (fuQ i : Nat), i ≤ nm → nm + 1 ≤ i + fuQ → ∀ (H : Heap) (locs : List Loc), gG Z A sS (wC Z AD M n) H locs → ∀ ls : Array Slot, lv_has ls 4 [(0, .ref (AD (1 + c))), (1, .int (lisF M c i)), (2, .int (nI i))] → W pP l eE ({ frames := 1, cells := 0, slots := 0, locals := 22 } : Room) sS mI aA bB mE cC H locs 0 0 (MQ bB (gQ Z A (some (.int (lisF M c nm))) (wC Z AD M n)) aA sS 0 0 A) (F0 mI 4 ls []) := by
    intro fuQ
    induction fuQ with
    | zero =>
      intro i h1 h2
      exact absurd h2 (by omega)
    | succ fuQ ih4 =>
      intro i hleQ hfuQ H locs hG ls hl
      by_cases hlt : i < nm
      · refine lv_iload_n hx hb dX0_listeners_4 rfl (lv_at hl 2 rfl) ?_
        refine lv_aload_n hx hb dX0_listeners_5 rfl (lv_at hl 0 rfl) ?_
        refine gg_get F hG (ci := 0) (v := .int (nI nm)) 5 gcX0 rfl (gC_club hc hn) (by decide) w1_147 (congrArg (fun z => some (Value.int z)) hM.1) dX0_listeners_6 ?_
        refine lv_icmp_ge (tgt := 38) hx hb dX0_listeners_9 (by decide) (fun h9 => absurd h9 (nI_ge hlt (by omega))) (fun h9 => ?_)
        refine lv_aload_n hx hb dX0_listeners_12 rfl (lv_at hl 0 rfl) ?_
        refine lv_iload_n hx hb dX0_listeners_13 rfl (lv_at hl 2 rfl) ?_
        refine gg_callV F hG (ci := 0) (As := [.int (nI i)]) (rest := []) (c_X0_memberAt Z l AD M _ hn c hc _ i hM hlt) kY_X0_memberAt kV_X0_memberAt (gC_club hc hn) rfl rfl w1_186 rfl ⟨rfl, rfl⟩ ⟨(Nat.le_of_ble_eq_true rfl), (Nat.le_of_ble_eq_true rfl)⟩ rfl (Nat.le_of_ble_eq_true rfl) hl.1 ⟨Nat.zero_le _, Nat.zero_le _⟩ dX0_listeners_14 rfl (fun H locs hG => ?_)
        refine lv_astore_n (lv' := [(3, .ref (AD (26 + (8 * c + i)))), (0, .ref (AD (1 + c))), (1, .int (lisF M c i)), (2, .int (nI i))]) hx hb dX0_listeners_17 rfl hl (by decide) rfl (fun ls hl => ?_)
        refine lv_aload_n hx hb dX0_listeners_18 rfl (lv_at hl 0 rfl) ?_
        refine lv_ifnull hx hb dX0_listeners_19 ?_
        refine lv_aload_n hx hb dX0_listeners_22 rfl (lv_at hl 0 rfl) ?_
        refine gg_getN F hG (ci := 3) (v := .int (M 14 (8 * c + i) 0)) 2 gcX3 rfl (gC_memb (by omega) hn) (by decide) wn_21 rfl dX0_listeners_23 ?_
        refine lv_if_eq (tgt := 32) hx hb dX0_listeners_26 (by decide) (fun h26 => ?_) (fun h26 => ?_)
        · refine lv_iinc (v := nI (i + 1)) (lv' := [(2, .int (nI (i + 1))), (3, .ref (AD (26 + (8 * c + i)))), (0, .ref (AD (1 + c))), (1, .int (lisF M c i))]) hx hb dX0_listeners_32 hl (k := 3) rfl (nI_1 _) (by decide) rfl (fun ls hl => ?_)
          refine lv_goto (tgt := 4) hx hb dX0_listeners_35 (by decide) ?_
          have e9 : lisF M c (i + 1) = lisF M c i := if_pos h26
          exact ih4 (i + 1) (by omega) (by omega) _ _ hG ls (by rw [e9]; exact lv_sub hl [2, 3, 0] rfl)
        · refine lv_iinc (v := (lisF M c i) + 1) (lv' := [(1, .int ((lisF M c i) + 1)), (3, .ref (AD (26 + (8 * c + i)))), (0, .ref (AD (1 + c))), (2, .int (nI i))]) hx hb dX0_listeners_29 hl (k := 2) rfl rfl (by decide) rfl (fun ls hl => ?_)
          refine lv_iinc (v := nI (i + 1)) (lv' := [(2, .int (nI (i + 1))), (1, .int ((lisF M c i) + 1)), (3, .ref (AD (26 + (8 * c + i)))), (0, .ref (AD (1 + c)))]) hx hb dX0_listeners_32 hl (k := 3) rfl (nI_1 _) (by decide) rfl (fun ls hl => ?_)
          refine lv_goto (tgt := 4) hx hb dX0_listeners_35 (by decide) ?_
          have e9 : lisF M c (i + 1) = lisF M c i + 1 := if_neg h26
          exact ih4 (i + 1) (by omega) (by omega) _ _ hG ls (by rw [e9]; exact lv_sub hl [3, 1, 0] rfl)
      · have hN : nm = i := by omega
        subst hN
        refine lv_iload_n hx hb dX0_listeners_4 rfl (lv_at hl 2 rfl) ?_
        refine lv_aload_n hx hb dX0_listeners_5 rfl (lv_at hl 0 rfl) ?_
        refine gg_get F hG (ci := 0) (v := .int (nI nm)) 5 gcX0 rfl (gC_club hc hn) (by decide) w1_147 (congrArg (fun z => some (Value.int z)) hM.1) dX0_listeners_6 ?_
        refine lv_icmp_ge (tgt := 38) hx hb dX0_listeners_9 (by decide) (fun h9 => ?_) (fun h9 => absurd (nI_le (Nat.le_refl _) (by omega)) h9)
        refine lv_iload_n hx hb dX0_listeners_38 rfl (lv_at hl 1 rfl) ?_
        exact gg_iret F hG rfl rfl rfl dX0_listeners_39
  exact loop4 (nm + 1) 0 (Nat.zero_le _) (by omega) _ _ hG ls (lv_sub hl [2, 1, 0] rfl)
set_option maxRecDepth 100000 in
set_option maxHeartbeats 4000000 in
theorem c_X0_allLines (Z : gZ) (l : Launch) (AD : Nat → Nat) (M : St) (n : Nat) (hn : 78 ≤ n) (c nm : Nat) (hc : c < 2) (hM : okM M c nm) : gM Z l yX0_allLines cX0_allLines 4 (some .int) ({ frames := 1, cells := 0, slots := 0, locals := 22 } : Room) [.ref (AD (1 + c))] (wC Z AD M n) (some (.int (allF M c nm))) (wC Z AD M n) 0 0 := by
  refine gM_of (by decide +kernel) (Nat.le_of_ble_eq_true rfl) ?_
  intro pP eE sS mI aA bB mE cC A F hname hG ls hl
  have hx := F.1
  have hb := F.2.1
  have hl : lv_has ls 4 [(0, .ref (AD (1 + c)))] := hl
  have hnm2 := hM.2
  refine lv_iconst (v := 0) hx hb dX0_allLines_0 (by decide) ?_
  refine lv_istore_n (lv' := [(1, .int 0), (0, .ref (AD (1 + c)))]) hx hb dX0_allLines_1 rfl hl (by decide) rfl (fun ls hl => ?_)
  refine lv_iconst (v := nI 0) hx hb dX0_allLines_2 rfl ?_
  refine lv_istore_n (lv' := [(2, .int (nI 0)), (1, .int 0), (0, .ref (AD (1 + c)))]) hx hb dX0_allLines_3 rfl hl (by decide) rfl (fun ls hl => ?_)
  have loop4 : ∀ (fuQ i : Nat), i ≤ nm → nm + 1 ≤ i + fuQ → ∀ (H : Heap) (locs : List Loc), gG Z A sS (wC Z AD M n) H locs → ∀ ls : Array Slot, lv_has ls 4 [(0, .ref (AD (1 + c))), (1, .int (allF M c i)), (2, .int (nI i))] → W pP l eE ({ frames := 1, cells := 0, slots := 0, locals := 22 } : Room) sS mI aA bB mE cC H locs 0 0 (MQ bB (gQ Z A (some (.int (allF M c nm))) (wC Z AD M n)) aA sS 0 0 A) (F0 mI 4 ls []) := by
    intro fuQ
    induction fuQ with
    | zero =>
      intro i h1 h2
      exact absurd h2 (by omega)
    | succ fuQ ih4 =>
      intro i hleQ hfuQ H locs hG ls hl
      by_cases hlt : i < nm
      · refine lv_iload_n hx hb dX0_allLines_4 rfl (lv_at hl 2 rfl) ?_
        refine lv_aload_n hx hb dX0_allLines_5 rfl (lv_at hl 0 rfl) ?_
        refine gg_get F hG (ci := 0) (v := .int (nI nm)) 5 gcX0 rfl (gC_club hc hn) (by decide) w1_147 (congrArg (fun z => some (Value.int z)) hM.1) dX0_allLines_6 ?_
        refine lv_icmp_ge (tgt := 42) hx hb dX0_allLines_9 (by decide) (fun h9 => absurd h9 (nI_ge hlt (by omega))) (fun h9 => ?_)
        refine lv_aload_n hx hb dX0_allLines_12 rfl (lv_at hl 0 rfl) ?_
        refine lv_iload_n hx hb dX0_allLines_13 rfl (lv_at hl 2 rfl) ?_
        refine gg_callV F hG (ci := 0) (As := [.int (nI i)]) (rest := []) (c_X0_memberAt Z l AD M _ hn c hc _ i hM hlt) kY_X0_memberAt kV_X0_memberAt (gC_club hc hn) rfl rfl w1_186 rfl ⟨rfl, rfl⟩ ⟨(Nat.le_of_ble_eq_true rfl), (Nat.le_of_ble_eq_true rfl)⟩ rfl (Nat.le_of_ble_eq_true rfl) hl.1 ⟨Nat.zero_le _, Nat.zero_le _⟩ dX0_allLines_14 rfl (fun H locs hG => ?_)
        refine lv_astore_n (lv' := [(3, .ref (AD (26 + (8 * c + i)))), (0, .ref (AD (1 + c))), (1, .int (allF M c i)), (2, .int (nI i))]) hx hb dX0_allLines_17 rfl hl (by decide) rfl (fun ls hl => ?_)
        refine lv_iload_n hx hb dX0_allLines_18 rfl (lv_at hl 2 rfl) ?_
        refine lv_aload_n hx hb dX0_allLines_19 rfl (lv_at hl 0 rfl) ?_
        refine lv_ifnonnull (tgt := 27) hx hb dX0_allLines_20 (by decide) ?_
        refine lv_aload_n hx hb dX0_allLines_27 rfl (lv_at hl 0 rfl) ?_
        refine gg_getN F hG (ci := 3) (v := .ref (AD (42 + (8 * c + i)))) 1 gcX3 rfl (gC_memb (by omega) hn) (by decide) wn_18 rfl dX0_allLines_28 ?_
        refine gg_getN F hG (ci := 5) (v := .int (M 15 (8 * c + i) 0)) 2 gcX5 rfl (gC_tabl (by omega) hn) (by decide) wn_14 rfl dX0_allLines_31 ?_
        refine lv_iadd hx hb dX0_allLines_34 ?_
        refine lv_istore_n (lv' := [(1, .int ((allF M c i) + (M 15 (8 * c + i) 0))), (3, .ref (AD (26 + (8 * c + i)))), (0, .ref (AD (1 + c))), (2, .int (nI i))]) hx hb dX0_allLines_35 rfl hl (by decide) rfl (fun ls hl => ?_)
        refine lv_iinc (v := nI (i + 1)) (lv' := [(2, .int (nI (i + 1))), (1, .int ((allF M c i) + (M 15 (8 * c + i) 0))), (3, .ref (AD (26 + (8 * c + i)))), (0, .ref (AD (1 + c)))]) hx hb dX0_allLines_36 hl (k := 3) rfl (nI_1 _) (by decide) rfl (fun ls hl => ?_)
        refine lv_goto (tgt := 4) hx hb dX0_allLines_39 (by decide) ?_
        exact ih4 (i + 1) (by omega) (by omega) _ _ hG ls (lv_sub hl [3, 1, 0] rfl)
      · have hN : nm = i := by omega
        subst hN
        refine lv_iload_n hx hb dX0_allLines_4 rfl (lv_at hl 2 rfl) ?_
        refine lv_aload_n hx hb dX0_allLines_5 rfl (lv_at hl 0 rfl) ?_
        refine gg_get F hG (ci := 0) (v := .int (nI nm)) 5 gcX0 rfl (gC_club hc hn) (by decide) w1_147 (congrArg (fun z => some (Value.int z)) hM.1) dX0_allLines_6 ?_
        refine lv_icmp_ge (tgt := 42) hx hb dX0_allLines_9 (by decide) (fun h9 => ?_) (fun h9 => absurd (nI_le (Nat.le_refl _) (by omega)) h9)
        refine lv_iload_n hx hb dX0_allLines_42 rfl (lv_at hl 1 rfl) ?_
        exact gg_iret F hG rfl rfl rfl dX0_allLines_43
  exact loop4 (nm + 1) 0 (Nat.zero_le _) (by omega) _ _ hG ls (lv_sub hl [2, 1, 0] rfl)
set_option maxRecDepth 100000 in
set_option maxHeartbeats 4000000 in
theorem c_X0_sumOfLogs (Z : gZ) (l : Launch) (AD : Nat → Nat) (M : St) (n : Nat) (hn : 78 ≤ n) (c nm k : Nat) (hc : c < 2) (hM : okM M c nm) (hZ : okZ M c nm) (hk : k < 4) : gM Z l yX0_sumOfLogs cX0_sumOfLogs 5 (some .int) ({ frames := 2, cells := 0, slots := 0, locals := 46 } : Room) [.ref (AD (1 + c)), .int (nI k)] (wC Z AD M n) (some (.int (solF M c k nm))) (wC Z AD M n) 0 0 := by
  refine gM_of (by decide +kernel) (Nat.le_of_ble_eq_true rfl) ?_
  intro pP eE sS mI aA bB mE cC A F hname hG ls hl
  have hx := F.1
  have hb := F.2.1
  have hl : lv_has ls 5 [(0, .ref (AD (1 + c))), (1, .int (nI k))] := hl
  have hnm2 := hM.2
  refine lv_iconst (v := 0) hx hb dX0_sumOfLogs_0 (by decide) ?_
  refine lv_istore_n (lv' := [(2, .int 0), (0, .ref (AD (1 + c))), (1, .int (nI k))]) hx hb dX0_sumOfLogs_1 rfl hl (by decide) rfl (fun ls hl => ?_)
  refine lv_iconst (v := nI 0) hx hb dX0_sumOfLogs_2 rfl ?_
  refine lv_istore_n (lv' := [(3, .int (nI 0)), (2, .int 0), (0, .ref (AD (1 + c))), (1, .int (nI k))]) hx hb dX0_sumOfLogs_3 rfl hl (by decide) rfl (fun ls hl => ?_)
  have loop4 : ∀ (fuQ i : Nat), i ≤ nm → nm + 1 ≤ i + fuQ → ∀ (H : Heap) (locs : List Loc), gG Z A sS (wC Z AD M n) H locs → ∀ ls : Array Slot, lv_has ls 5 [(0, .ref (AD (1 + c))), (1, .int (nI k)), (2, .int (solF M c k i)), (3, .int (nI i))] → W pP l eE ({ frames := 2, cells := 0, slots := 0, locals := 46 } : Room) sS mI aA bB mE cC H locs 0 0 (MQ bB (gQ Z A (some (.int (solF M c k nm))) (wC Z AD M n)) aA sS 0 0 A) (F0 mI 4 ls []) := by
    intro fuQ
    induction fuQ with
    | zero =>
      intro i h1 h2
      exact absurd h2 (by omega)
    | succ fuQ ih4 =>
      intro i hleQ hfuQ H locs hG ls hl
      by_cases hlt : i < nm
      · have hZ1 := (hZ i hlt).2
        refine lv_iload_n hx hb dX0_sumOfLogs_4 rfl (lv_at hl 3 rfl) ?_
        refine lv_aload_n hx hb dX0_sumOfLogs_5 rfl (lv_at hl 0 rfl) ?_
        refine gg_get F hG (ci := 0) (v := .int (nI nm)) 5 gcX0 rfl (gC_club hc hn) (by decide) w1_147 (congrArg (fun z => some (Value.int z)) hM.1) dX0_sumOfLogs_6 ?_
        refine lv_icmp_ge (tgt := 46) hx hb dX0_sumOfLogs_9 (by decide) (fun h9 => absurd h9 (nI_ge hlt (by omega))) (fun h9 => ?_)
        refine lv_aload_n hx hb dX0_sumOfLogs_12 rfl (lv_at hl 0 rfl) ?_
        refine lv_iload_n hx hb dX0_sumOfLogs_13 rfl (lv_at hl 3 rfl) ?_
        refine gg_callV F hG (ci := 0) (As := [.int (nI i)]) (rest := []) (c_X0_memberAt Z l AD M _ hn c hc _ i hM hlt) kY_X0_memberAt kV_X0_memberAt (gC_club hc hn) rfl rfl w1_186 rfl ⟨rfl, rfl⟩ ⟨(Nat.le_of_ble_eq_true rfl), (Nat.le_of_ble_eq_true rfl)⟩ rfl (Nat.le_of_ble_eq_true rfl) hl.1 ⟨Nat.zero_le _, Nat.zero_le _⟩ dX0_sumOfLogs_14 rfl (fun H locs hG => ?_)
        refine lv_astore (lv' := [(4, .ref (AD (26 + (8 * c + i)))), (0, .ref (AD (1 + c))), (1, .int (nI k)), (2, .int (solF M c k i)), (3, .int (nI i))]) hx hb dX0_sumOfLogs_17 hl (by decide) rfl (fun ls hl => ?_)
        refine lv_iload_n hx hb dX0_sumOfLogs_19 rfl (lv_at hl 3 rfl) ?_
        refine lv_aload hx hb dX0_sumOfLogs_20 (lv_at hl 0 rfl) ?_
        refine lv_ifnonnull (tgt := 29) hx hb dX0_sumOfLogs_22 (by decide) ?_
        refine lv_aload hx hb dX0_sumOfLogs_29 (lv_at hl 0 rfl) ?_
        refine gg_getN F hG (ci := 3) (v := .ref (AD (42 + (8 * c + i)))) 1 gcX3 rfl (gC_memb (by omega) hn) (by decide) wn_18 rfl dX0_sumOfLogs_31 ?_
        refine lv_iload_n hx hb dX0_sumOfLogs_34 rfl (lv_at hl 2 rfl) ?_
        refine gg_callV F hG (ci := 5) (As := [.int (nI k)]) (rest := [.int (solF M c k i)]) (c_X5_sum Z l AD M _ hn (8 * c + i) k (szN M (8 * c + i)) (by omega) (by omega) (hZ i hlt).1 (by omega)) kY_X5_sum kV_X5_sum (gC_tabl (by omega) hn) rfl rfl w1_198 rfl ⟨rfl, rfl⟩ ⟨(Nat.le_of_ble_eq_true rfl), (Nat.le_of_ble_eq_true rfl)⟩ rfl (Nat.le_of_ble_eq_true rfl) hl.1 ⟨Nat.zero_le _, Nat.zero_le _⟩ dX0_sumOfLogs_35 rfl (fun H locs hG => ?_)
        refine lv_iadd hx hb dX0_sumOfLogs_38 ?_
        refine lv_istore_n (lv' := [(2, .int ((solF M c k i) + (sumF M (8 * c + i) k (szN M (8 * c + i))))), (4, .ref (AD (26 + (8 * c + i)))), (0, .ref (AD (1 + c))), (1, .int (nI k)), (3, .int (nI i))]) hx hb dX0_sumOfLogs_39 rfl hl (by decide) rfl (fun ls hl => ?_)
        refine lv_iinc (v := nI (i + 1)) (lv' := [(3, .int (nI (i + 1))), (2, .int ((solF M c k i) + (sumF M (8 * c + i) k (szN M (8 * c + i))))), (4, .ref (AD (26 + (8 * c + i)))), (0, .ref (AD (1 + c))), (1, .int (nI k))]) hx hb dX0_sumOfLogs_40 hl (k := 4) rfl (nI_1 _) (by decide) rfl (fun ls hl => ?_)
        refine lv_goto (tgt := 4) hx hb dX0_sumOfLogs_43 (by decide) ?_
        exact ih4 (i + 1) (by omega) (by omega) _ _ hG ls (lv_sub hl [3, 4, 1, 0] rfl)
      · have hN : nm = i := by omega
        subst hN
        refine lv_iload_n hx hb dX0_sumOfLogs_4 rfl (lv_at hl 3 rfl) ?_
        refine lv_aload_n hx hb dX0_sumOfLogs_5 rfl (lv_at hl 0 rfl) ?_
        refine gg_get F hG (ci := 0) (v := .int (nI nm)) 5 gcX0 rfl (gC_club hc hn) (by decide) w1_147 (congrArg (fun z => some (Value.int z)) hM.1) dX0_sumOfLogs_6 ?_
        refine lv_icmp_ge (tgt := 46) hx hb dX0_sumOfLogs_9 (by decide) (fun h9 => ?_) (fun h9 => absurd (nI_le (Nat.le_refl _) (by omega)) h9)
        refine lv_iload_n hx hb dX0_sumOfLogs_46 rfl (lv_at hl 2 rfl) ?_
        exact gg_iret F hG rfl rfl rfl dX0_sumOfLogs_47
  exact loop4 (nm + 1) 0 (Nat.zero_le _) (by omega) _ _ hG ls (lv_sub hl [2, 3, 1, 0] rfl)
set_option maxRecDepth 100000 in
set_option maxHeartbeats 4000000 in
theorem c_X0_confirmedLines (Z : gZ) (l : Launch) (AD : Nat → Nat) (M : St) (n : Nat) (hn : 78 ≤ n) (c nm : Nat) (hc : c < 2) (hM : okM M c nm) (hZ : okZ M c nm) : gM Z l yX0_confirmedLines cX0_confirmedLines 1 (some .int) ({ frames := 3, cells := 0, slots := 0, locals := 70 } : Room) [.ref (AD (1 + c))] (wC Z AD M n) (some (.int (solF M c 3 nm))) (wC Z AD M n) 0 0 := by
  refine gM_of (by decide +kernel) (Nat.le_of_ble_eq_true rfl) ?_
  intro pP eE sS mI aA bB mE cC A F hname hG ls hl
  have hx := F.1
  have hb := F.2.1
  have hl : lv_has ls 1 [(0, .ref (AD (1 + c)))] := hl
  refine lv_aload_n hx hb dX0_confirmedLines_0 rfl (lv_at hl 0 rfl) ?_
  refine lv_iconst (v := 3) hx hb dX0_confirmedLines_1 (by decide) ?_
  refine gg_callV F hG (ci := 0) (As := [.int 3]) (rest := []) (c_X0_sumOfLogs Z l AD M _ hn c _ 3 hc hM hZ (by decide)) kY_X0_sumOfLogs kV_X0_sumOfLogs (gC_club hc hn) rfl rfl w1_194 rfl ⟨rfl, rfl⟩ ⟨(Nat.le_of_ble_eq_true rfl), (Nat.le_of_ble_eq_true rfl)⟩ rfl (Nat.le_of_ble_eq_true rfl) hl.1 ⟨Nat.zero_le _, Nat.zero_le _⟩ dX0_confirmedLines_2 rfl (fun H locs hG => ?_)
  exact gg_iret F hG rfl rfl rfl dX0_confirmedLines_5
set_option maxRecDepth 100000 in
set_option maxHeartbeats 4000000 in
theorem c_X0_allStrengths (Z : gZ) (l : Launch) (AD : Nat → Nat) (M : St) (n : Nat) (hn : 78 ≤ n) (c nm : Nat) (hc : c < 2) (hM : okM M c nm) (hZ : okZ M c nm) : gM Z l yX0_allStrengths cX0_allStrengths 1 (some .int) ({ frames := 3, cells := 0, slots := 0, locals := 70 } : Room) [.ref (AD (1 + c))] (wC Z AD M n) (some (.int (solF M c 2 nm))) (wC Z AD M n) 0 0 := by
  refine gM_of (by decide +kernel) (Nat.le_of_ble_eq_true rfl) ?_
  intro pP eE sS mI aA bB mE cC A F hname hG ls hl
  have hx := F.1
  have hb := F.2.1
  have hl : lv_has ls 1 [(0, .ref (AD (1 + c)))] := hl
  refine lv_aload_n hx hb dX0_allStrengths_0 rfl (lv_at hl 0 rfl) ?_
  refine lv_iconst (v := 2) hx hb dX0_allStrengths_1 (by decide) ?_
  refine gg_callV F hG (ci := 0) (As := [.int 2]) (rest := []) (c_X0_sumOfLogs Z l AD M _ hn c _ 2 hc hM hZ (by decide)) kY_X0_sumOfLogs kV_X0_sumOfLogs (gC_club hc hn) rfl rfl w1_194 rfl ⟨rfl, rfl⟩ ⟨(Nat.le_of_ble_eq_true rfl), (Nat.le_of_ble_eq_true rfl)⟩ rfl (Nat.le_of_ble_eq_true rfl) hl.1 ⟨Nat.zero_le _, Nat.zero_le _⟩ dX0_allStrengths_2 rfl (fun H locs hG => ?_)
  exact gg_iret F hG rfl rfl rfl dX0_allStrengths_5
