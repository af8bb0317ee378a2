/-! the reference's new station -/
theorem apL {L B : va_W} {k : Nat} {x : Nat × va_E} (h : L[k]? = some x) : (L ++ B)[k]? = some x := by
  rw [List.getElem?_append_left (List.getElem?_eq_some_iff.mp h).1]
  exact h
theorem apLs {L L' B : va_W} {k : Nat} {x y : Nat × va_E} (h0 : L[k]? = some y) (h : L.set k x = L') : (L ++ B).set k x = L' ++ B := by
  rw [List.set_append_left _ _ (List.getElem?_eq_some_iff.mp h0).1, h]
def adA (M : St) (ns : Nat) (f : Nat → Int32) : St := fun g => if g = 0 then (fun a => if a = 0 then va_cpy f (M 0 0) 0 (6 * ns) 6 else M g a) else M g
theorem adA_s {M : St} {ns : Nat} {f : Nat → Int32} : adA M ns f 0 0 = va_cpy f (M 0 0) 0 (6 * ns) 6 := by simp [adA]
theorem adA_of {M : St} {ns : Nat} {f : Nat → Int32} {g a : Nat} (h : ¬ (g = 0 ∧ a = 0)) : adA M ns f g a = M g a := by
  unfold adA
  by_cases hg : g = 0
  · subst hg
    rw [if_pos rfl, if_neg (fun q => h ⟨rfl, q⟩)]
  · rw [if_neg hg]
theorem pA_0 {Z : gZ} {AD : Nat → Nat} {M : St} {n ns : Nat} {f : Nat → Int32} : (wR Z AD M n).set 1 (AD 1, .inl (Z.2.1, 72, .inl (va_cpy f (M 0 0) 0 (6 * ns) 6))) = wR Z AD (adA M ns f) n := by
  have h : (wR Z AD M n).set 1 (AD 1, ctR Z AD (adA M ns f) 1) = wR Z AD (adA M ns f) n := wR_setG 0 0 (fun g a hg => adA_of hg)
  rw [ctR_air, adA_s] at h
  exact h
def own6 (x0 x1 x2 x3 x4 x5 : Int32) : Nat → Int32 := upd (upd (upd (upd (upd (upd (fun _ => 0) 0 x0) 1 x1) 2 x2) 3 x3) 4 x4) 5 x5
set_option maxRecDepth 100000 in
set_option maxHeartbeats 4000000 in
theorem c_X8_addStation (Z : gZ) (l : Launch) (AD : Nat → Nat) (M : St) (n : Nat) (hn : 16 ≤ n) (ns nm : Nat) (hN : okN M ns nm) (hns : ns < 12) (x0 x1 x2 x3 x4 x5 : Int32) (h0a : ¬ x0 < 300) (h0b : ¬ 3000 < x0) (h1a : ¬ x1 < 1) (h1b : ¬ 100 < x1) (h2a : ¬ x2 < 1) (h2b : ¬ 50 < x2) (h3a : ¬ x3 < 0) (h3b : ¬ 23 < x3) (h4a : ¬ x4 < 1) (h4b : ¬ 24 < x4) (h5a : ¬ x5 < 0) (h5b : ¬ 11 < x5) : gM Z l yX8_addStation cX8_addStation 8 (some .int) ({ frames := 1, cells := 1, slots := 6, locals := 40 } : Room) [.ref (AD 0), .int x0, .int x1, .int x2, .int x3, .int x4, .int x5] (wR Z AD M n) (some (.int (nI ns))) (wR Z AD (mu (adA (mu M 1 0 0 0) ns (own6 x0 x1 x2 x3 x4 x5)) 2 0 0 (nI (ns + 1))) n) 1 6 := by
  refine gM_of (by decide +kernel) (Nat.le_of_ble_eq_true rfl) ?_
  intro pP eE sS mI aA bB mE cC A F hname hG ls hl
  have hx := F.1
  have hb := F.2.1
  have hl : lv_has ls 8 [(0, .ref (AD 0)), (1, .int x0), (2, .int x1), (3, .int x2), (4, .int x3), (5, .int x4), (6, .int x5)] := hl
  have hns2 := hN.2.1
  have hnm2 := hN.2.2.2.1
  refine lv_aload_n hx hb dX8_addStation_0 rfl (lv_at hl 0 rfl) ?_
  refine lv_iconst (v := 0) hx hb dX8_addStation_1 (by decide) ?_
  refine gg_put F hG (ci := 8) 0 gcX8 rfl (gR_model hn) (by decide) w4_75 rfl rfl rfl (Nat.le_of_ble_eq_true rfl) (pR_1) dX8_addStation_2 (fun H locs hG => ?_)
  have hG : gG Z A sS (wR Z AD (mu M 1 0 0 0) n) H locs := hG
  refine lv_iload_n hx hb dX8_addStation_5 rfl (lv_at hl 1 rfl) ?_
  refine lv_sipush (v := 300) hx hb dX8_addStation_6 (by decide) ?_
  refine lv_sipush (v := 3000) hx hb dX8_addStation_9 (by decide) ?_
  refine gg_callS F hG (As := [.int x0, .int 300, .int 3000]) (rest := []) (c_X8_isIn Z l x0 300 3000 _) kY_X8_isIn kV_X8_isIn w4_118 rfl ⟨rfl, rfl⟩ ⟨(Nat.le_of_ble_eq_true rfl), (Nat.le_of_ble_eq_true rfl)⟩ rfl (Nat.le_of_ble_eq_true rfl) hl.1 ⟨Nat.zero_le _, Nat.zero_le _⟩ dX8_addStation_12 rfl (fun H locs hG => ?_)
  rw [show (wthF x0 300 3000 : Int32) = 1 from wth_1 h0a h0b]
  refine lv_if_eq (tgt := 71) hx hb dX8_addStation_15 (by decide) (fun h15 => absurd h15 (by decide)) (fun h15 => ?_)
  refine lv_iload_n hx hb dX8_addStation_18 rfl (lv_at hl 2 rfl) ?_
  refine lv_iconst (v := 1) hx hb dX8_addStation_19 (by decide) ?_
  refine lv_bipush (v := 100) hx hb dX8_addStation_20 (by decide) ?_
  refine gg_callS F hG (As := [.int x1, .int 1, .int 100]) (rest := []) (c_X8_isIn Z l x1 1 100 _) kY_X8_isIn kV_X8_isIn w4_118 rfl ⟨rfl, rfl⟩ ⟨(Nat.le_of_ble_eq_true rfl), (Nat.le_of_ble_eq_true rfl)⟩ rfl (Nat.le_of_ble_eq_true rfl) hl.1 ⟨Nat.zero_le _, Nat.zero_le _⟩ dX8_addStation_22 rfl (fun H locs hG => ?_)
  rw [show (wthF x1 1 100 : Int32) = 1 from wth_1 h1a h1b]
  refine lv_if_eq (tgt := 71) hx hb dX8_addStation_25 (by decide) (fun h25 => absurd h25 (by decide)) (fun h25 => ?_)
  refine lv_iload_n hx hb dX8_addStation_28 rfl (lv_at hl 3 rfl) ?_
  refine lv_iconst (v := 1) hx hb dX8_addStation_29 (by decide) ?_
  refine lv_bipush (v := 50) hx hb dX8_addStation_30 (by decide) ?_
  refine gg_callS F hG (As := [.int x2, .int 1, .int 50]) (rest := []) (c_X8_isIn Z l x2 1 50 _) kY_X8_isIn kV_X8_isIn w4_118 rfl ⟨rfl, rfl⟩ ⟨(Nat.le_of_ble_eq_true rfl), (Nat.le_of_ble_eq_true rfl)⟩ rfl (Nat.le_of_ble_eq_true rfl) hl.1 ⟨Nat.zero_le _, Nat.zero_le _⟩ dX8_addStation_32 rfl (fun H locs hG => ?_)
  rw [show (wthF x2 1 50 : Int32) = 1 from wth_1 h2a h2b]
  refine lv_if_eq (tgt := 71) hx hb dX8_addStation_35 (by decide) (fun h35 => absurd h35 (by decide)) (fun h35 => ?_)
  refine lv_iload hx hb dX8_addStation_38 (lv_at hl 4 rfl) ?_
  refine lv_iconst (v := 0) hx hb dX8_addStation_40 (by decide) ?_
  refine lv_bipush (v := 23) hx hb dX8_addStation_41 (by decide) ?_
  refine gg_callS F hG (As := [.int x3, .int 0, .int 23]) (rest := []) (c_X8_isIn Z l x3 0 23 _) kY_X8_isIn kV_X8_isIn w4_118 rfl ⟨rfl, rfl⟩ ⟨(Nat.le_of_ble_eq_true rfl), (Nat.le_of_ble_eq_true rfl)⟩ rfl (Nat.le_of_ble_eq_true rfl) hl.1 ⟨Nat.zero_le _, Nat.zero_le _⟩ dX8_addStation_43 rfl (fun H locs hG => ?_)
  rw [show (wthF x3 0 23 : Int32) = 1 from wth_1 h3a h3b]
  refine lv_if_eq (tgt := 71) hx hb dX8_addStation_46 (by decide) (fun h46 => absurd h46 (by decide)) (fun h46 => ?_)
  refine lv_iload hx hb dX8_addStation_49 (lv_at hl 5 rfl) ?_
  refine lv_iconst (v := 1) hx hb dX8_addStation_51 (by decide) ?_
  refine lv_bipush (v := 24) hx hb dX8_addStation_52 (by decide) ?_
  refine gg_callS F hG (As := [.int x4, .int 1, .int 24]) (rest := []) (c_X8_isIn Z l x4 1 24 _) kY_X8_isIn kV_X8_isIn w4_118 rfl ⟨rfl, rfl⟩ ⟨(Nat.le_of_ble_eq_true rfl), (Nat.le_of_ble_eq_true rfl)⟩ rfl (Nat.le_of_ble_eq_true rfl) hl.1 ⟨Nat.zero_le _, Nat.zero_le _⟩ dX8_addStation_54 rfl (fun H locs hG => ?_)
  rw [show (wthF x4 1 24 : Int32) = 1 from wth_1 h4a h4b]
  refine lv_if_eq (tgt := 71) hx hb dX8_addStation_57 (by decide) (fun h57 => absurd h57 (by decide)) (fun h57 => ?_)
  refine lv_iload hx hb dX8_addStation_60 (lv_at hl 6 rfl) ?_
  refine lv_iconst (v := 0) hx hb dX8_addStation_62 (by decide) ?_
  refine lv_bipush (v := 11) hx hb dX8_addStation_63 (by decide) ?_
  refine gg_callS F hG (As := [.int x5, .int 0, .int 11]) (rest := []) (c_X8_isIn Z l x5 0 11 _) kY_X8_isIn kV_X8_isIn w4_118 rfl ⟨rfl, rfl⟩ ⟨(Nat.le_of_ble_eq_true rfl), (Nat.le_of_ble_eq_true rfl)⟩ rfl (Nat.le_of_ble_eq_true rfl) hl.1 ⟨Nat.zero_le _, Nat.zero_le _⟩ dX8_addStation_65 rfl (fun H locs hG => ?_)
  rw [show (wthF x5 0 11 : Int32) = 1 from wth_1 h5a h5b]
  refine lv_if_ne (tgt := 77) hx hb dX8_addStation_68 (by decide) (fun h68 => ?_) (fun h68 => absurd h68 (by decide))
  refine lv_aload_n hx hb dX8_addStation_77 rfl (lv_at hl 0 rfl) ?_
  refine gg_get F hG (ci := 8) (v := .int (nI ns)) 1 gcX8 rfl (gR_model hn) (by decide) w4_76 (congrArg (fun z => some (Value.int z)) hN.1) dX8_addStation_78 ?_
  refine lv_bipush (v := 12) hx hb dX8_addStation_81 (by decide) ?_
  refine lv_icmp_ne (tgt := 92) hx hb dX8_addStation_83 (by decide) (fun h83 => ?_) (fun h83 => absurd h83 (fun z => absurd (show ns = 12 from nI_inj (by omega) (by omega) z) (by omega)))
  refine lv_bipush (v := 6) hx hb dX8_addStation_92 (by decide) ?_
  refine gg_newI (N := 6) F hG (by decide) (by decide) (Nat.le_of_ble_eq_true rfl) (Nat.le_of_ble_eq_true rfl) (Nat.le_of_ble_eq_true rfl) dX8_addStation_94 (fun q H hG => ?_)
  refine lv_dup hx hb dX8_addStation_96 rfl ?_
  refine lv_iconst (v := 0) hx hb dX8_addStation_97 (by decide) ?_
  refine lv_iload_n hx hb dX8_addStation_98 rfl (lv_at hl 1 rfl) ?_
  refine gg_iastN (ws' := (wR Z AD (mu M 1 0 0 0) n) ++ [(q, .inl (Z.2.1, 6, .inl (upd (fun _ => 0) 0 x0)))]) F hG (q0 := (wR Z AD (mu M 1 0 0 0) n).length + 0) 0 ((apX 0).trans rfl) rfl (by omega) (by omega) (apY 0 _) dX8_addStation_99 (fun H locs hG => ?_)
  refine lv_dup hx hb dX8_addStation_100 rfl ?_
  refine lv_iconst (v := 1) hx hb dX8_addStation_101 (by decide) ?_
  refine lv_iload_n hx hb dX8_addStation_102 rfl (lv_at hl 2 rfl) ?_
  refine gg_iastN (ws' := (wR Z AD (mu M 1 0 0 0) n) ++ [(q, .inl (Z.2.1, 6, .inl (upd (upd (fun _ => 0) 0 x0) 1 x1)))]) F hG (q0 := (wR Z AD (mu M 1 0 0 0) n).length + 0) 1 ((apX 0).trans rfl) rfl (by omega) (by omega) (apY 0 _) dX8_addStation_103 (fun H locs hG => ?_)
  refine lv_dup hx hb dX8_addStation_104 rfl ?_
  refine lv_iconst (v := 2) hx hb dX8_addStation_105 (by decide) ?_
  refine lv_iload_n hx hb dX8_addStation_106 rfl (lv_at hl 3 rfl) ?_
  refine gg_iastN (ws' := (wR Z AD (mu M 1 0 0 0) n) ++ [(q, .inl (Z.2.1, 6, .inl (upd (upd (upd (fun _ => 0) 0 x0) 1 x1) 2 x2)))]) F hG (q0 := (wR Z AD (mu M 1 0 0 0) n).length + 0) 2 ((apX 0).trans rfl) rfl (by omega) (by omega) (apY 0 _) dX8_addStation_107 (fun H locs hG => ?_)
  refine lv_dup hx hb dX8_addStation_108 rfl ?_
  refine lv_iconst (v := 3) hx hb dX8_addStation_109 (by decide) ?_
  refine lv_iload hx hb dX8_addStation_110 (lv_at hl 4 rfl) ?_
  refine gg_iastN (ws' := (wR Z AD (mu M 1 0 0 0) n) ++ [(q, .inl (Z.2.1, 6, .inl (upd (upd (upd (upd (fun _ => 0) 0 x0) 1 x1) 2 x2) 3 x3)))]) F hG (q0 := (wR Z AD (mu M 1 0 0 0) n).length + 0) 3 ((apX 0).trans rfl) rfl (by omega) (by omega) (apY 0 _) dX8_addStation_112 (fun H locs hG => ?_)
  refine lv_dup hx hb dX8_addStation_113 rfl ?_
  refine lv_iconst (v := 4) hx hb dX8_addStation_114 (by decide) ?_
  refine lv_iload hx hb dX8_addStation_115 (lv_at hl 5 rfl) ?_
  refine gg_iastN (ws' := (wR Z AD (mu M 1 0 0 0) n) ++ [(q, .inl (Z.2.1, 6, .inl (upd (upd (upd (upd (upd (fun _ => 0) 0 x0) 1 x1) 2 x2) 3 x3) 4 x4)))]) F hG (q0 := (wR Z AD (mu M 1 0 0 0) n).length + 0) 4 ((apX 0).trans rfl) rfl (by omega) (by omega) (apY 0 _) dX8_addStation_117 (fun H locs hG => ?_)
  refine lv_dup hx hb dX8_addStation_118 rfl ?_
  refine lv_iconst (v := 5) hx hb dX8_addStation_119 (by decide) ?_
  refine lv_iload hx hb dX8_addStation_120 (lv_at hl 6 rfl) ?_
  refine gg_iastN (ws' := (wR Z AD (mu M 1 0 0 0) n) ++ [(q, .inl (Z.2.1, 6, .inl (upd (upd (upd (upd (upd (upd (fun _ => 0) 0 x0) 1 x1) 2 x2) 3 x3) 4 x4) 5 x5)))]) F hG (q0 := (wR Z AD (mu M 1 0 0 0) n).length + 0) 5 ((apX 0).trans rfl) rfl (by omega) (by omega) (apY 0 _) dX8_addStation_122 (fun H locs hG => ?_)
  refine lv_astore (lv' := [(7, .ref q), (0, .ref (AD 0)), (1, .int x0), (2, .int x1), (3, .int x2), (4, .int x3), (5, .int x4), (6, .int x5)]) hx hb dX8_addStation_123 hl (by decide) rfl (fun ls hl => ?_)
  refine lv_aload hx hb dX8_addStation_125 (lv_at hl 0 rfl) ?_
  refine lv_iconst (v := 0) hx hb dX8_addStation_127 (by decide) ?_
  refine lv_aload_n hx hb dX8_addStation_128 rfl (lv_at hl 1 rfl) ?_
  refine gg_get F hG (ci := 8) (v := .ref (AD 1)) 3 gcX8 rfl (apL (gR_model hn)) (by decide) w4_79 rfl dX8_addStation_129 ?_
  refine lv_bipush (v := 6) hx hb dX8_addStation_132 (by decide) ?_
  refine lv_aload_n hx hb dX8_addStation_134 rfl (lv_at hl 1 rfl) ?_
  refine gg_get F hG (ci := 8) (v := .int (nI ns)) 1 gcX8 rfl (apL (gR_model hn)) (by decide) w4_76 (congrArg (fun z => some (Value.int z)) hN.1) dX8_addStation_135 ?_
  refine lv_imul hx hb dX8_addStation_138 ?_
  rw [show (6 * nI ns : Int32) = nI (6 * ns) from pk_mul 6 ns]
  refine lv_bipush (v := 6) hx hb dX8_addStation_139 (by decide) ?_
  refine gg_copyi F hG hl.1 w4_125 (ws' := wR Z AD (adA (mu M 1 0 0 0) ns (upd (upd (upd (upd (upd (upd (fun _ => 0) 0 x0) 1 x1) 2 x2) 3 x3) 4 x4) 5 x5)) n ++ [(q, .inl (Z.2.1, 6, .inl (upd (upd (upd (upd (upd (upd (fun _ => 0) 0 x0) 1 x1) 2 x2) 3 x3) 4 x4) 5 x5)))]) (q0 := (wR Z AD (mu M 1 0 0 0) n).length + 0) 0 (6 * ns) 6 ((apX 0).trans rfl) (apL (gR_air hn)) rfl rfl rfl (by omega) (by omega) (by omega) (by omega) (apLs (gR_air hn) pA_0) (Nat.le_of_ble_eq_true rfl) (Nat.le_of_ble_eq_true rfl) dX8_addStation_141 (fun H locs hG => ?_)
  have hG := gG.left hG
  have hG : gG Z A sS (wR Z AD (adA (mu M 1 0 0 0) ns (own6 x0 x1 x2 x3 x4 x5)) n) H locs := hG
  refine lv_aload_n hx hb dX8_addStation_144 rfl (lv_at hl 1 rfl) ?_
  refine lv_dup hx hb dX8_addStation_145 rfl ?_
  refine gg_get F hG (ci := 8) (v := .int (nI ns)) 1 gcX8 rfl (gR_model hn) (by decide) w4_76 (congrArg (fun z => some (Value.int z)) (show (adA (mu M 1 0 0 0) ns (own6 x0 x1 x2 x3 x4 x5)) 2 0 0 = nI ns from hN.1)) dX8_addStation_146 ?_
  refine lv_iconst (v := 1) hx hb dX8_addStation_149 (by decide) ?_
  refine lv_iadd hx hb dX8_addStation_150 ?_
  rw [show ((nI ns) + 1 : Int32) = nI (ns + 1) from nI_1 _]
  refine gg_put F hG (ci := 8) 1 gcX8 rfl (gR_model hn) (by decide) w4_76 rfl rfl rfl (Nat.le_of_ble_eq_true rfl) (pR_2) dX8_addStation_151 (fun H locs hG => ?_)
  have hG : gG Z A sS (wR Z AD (mu (adA (mu M 1 0 0 0) ns (own6 x0 x1 x2 x3 x4 x5)) 2 0 0 (nI (ns + 1))) n) H locs := hG
  refine lv_aload_n hx hb dX8_addStation_154 rfl (lv_at hl 1 rfl) ?_
  refine gg_get F hG (ci := 8) (v := .int (nI (ns + 1))) 1 gcX8 rfl (gR_model hn) (by decide) w4_76 rfl dX8_addStation_155 ?_
  refine lv_iconst (v := 1) hx hb dX8_addStation_158 (by decide) ?_
  refine lv_isub hx hb dX8_addStation_159 ?_
  rw [show ((nI (ns + 1)) - 1 : Int32) = nI ns from nI_p1]
  exact gg_iret F hG rfl rfl rfl dX8_addStation_160
set_option maxRecDepth 100000 in
set_option maxHeartbeats 4000000 in
theorem c_X8_addStation_s (Z : gZ) (l : Launch) (AD : Nat → Nat) (M : St) (n : Nat) (hn : 16 ≤ n) (ns nm : Nat) (hN : okN M ns nm) (hns : ¬ ns < 12) (x0 x1 x2 x3 x4 x5 : Int32) (h0a : ¬ x0 < 300) (h0b : ¬ 3000 < x0) (h1a : ¬ x1 < 1) (h1b : ¬ 100 < x1) (h2a : ¬ x2 < 1) (h2b : ¬ 50 < x2) (h3a : ¬ x3 < 0) (h3b : ¬ 23 < x3) (h4a : ¬ x4 < 1) (h4b : ¬ 24 < x4) (h5a : ¬ x5 < 0) (h5b : ¬ 11 < x5) : gM Z l yX8_addStation cX8_addStation 8 (some .int) ({ frames := 1, cells := 0, slots := 0, locals := 22 } : Room) [.ref (AD 0), .int x0, .int x1, .int x2, .int x3, .int x4, .int x5] (wR Z AD M n) (some (.int 0)) (wR Z AD (mu (mu M 1 0 0 0) 1 0 0 2) n) 0 0 := by
  refine gM_of (by decide +kernel) (Nat.le_of_ble_eq_true rfl) ?_
  intro pP eE sS mI aA bB mE cC A F hname hG ls hl
  have hx := F.1
  have hb := F.2.1
  have hl : lv_has ls 8 [(0, .ref (AD 0)), (1, .int x0), (2, .int x1), (3, .int x2), (4, .int x3), (5, .int x4), (6, .int x5)] := hl
  have hns2 := hN.2.1
  have hnm2 := hN.2.2.2.1
  refine lv_aload_n hx hb dX8_addStation_0 rfl (lv_at hl 0 rfl) ?_
  refine lv_iconst (v := 0) hx hb dX8_addStation_1 (by decide) ?_
  refine gg_put F hG (ci := 8) 0 gcX8 rfl (gR_model hn) (by decide) w4_75 rfl rfl rfl (Nat.le_of_ble_eq_true rfl) (pR_1) dX8_addStation_2 (fun H locs hG => ?_)
  have hG : gG Z A sS (wR Z AD (mu M 1 0 0 0) n) H locs := hG
  refine lv_iload_n hx hb dX8_addStation_5 rfl (lv_at hl 1 rfl) ?_
  refine lv_sipush (v := 300) hx hb dX8_addStation_6 (by decide) ?_
  refine lv_sipush (v := 3000) hx hb dX8_addStation_9 (by decide) ?_
  refine gg_callS F hG (As := [.int x0, .int 300, .int 3000]) (rest := []) (c_X8_isIn Z l x0 300 3000 _) kY_X8_isIn kV_X8_isIn w4_118 rfl ⟨rfl, rfl⟩ ⟨(Nat.le_of_ble_eq_true rfl), (Nat.le_of_ble_eq_true rfl)⟩ rfl (Nat.le_of_ble_eq_true rfl) hl.1 ⟨Nat.zero_le _, Nat.zero_le _⟩ dX8_addStation_12 rfl (fun H locs hG => ?_)
  rw [show (wthF x0 300 3000 : Int32) = 1 from wth_1 h0a h0b]
  refine lv_if_eq (tgt := 71) hx hb dX8_addStation_15 (by decide) (fun h15 => absurd h15 (by decide)) (fun h15 => ?_)
  refine lv_iload_n hx hb dX8_addStation_18 rfl (lv_at hl 2 rfl) ?_
  refine lv_iconst (v := 1) hx hb dX8_addStation_19 (by decide) ?_
  refine lv_bipush (v := 100) hx hb dX8_addStation_20 (by decide) ?_
  refine gg_callS F hG (As := [.int x1, .int 1, .int 100]) (rest := []) (c_X8_isIn Z l x1 1 100 _) kY_X8_isIn kV_X8_isIn w4_118 rfl ⟨rfl, rfl⟩ ⟨(Nat.le_of_ble_eq_true rfl), (Nat.le_of_ble_eq_true rfl)⟩ rfl (Nat.le_of_ble_eq_true rfl) hl.1 ⟨Nat.zero_le _, Nat.zero_le _⟩ dX8_addStation_22 rfl (fun H locs hG => ?_)
  rw [show (wthF x1 1 100 : Int32) = 1 from wth_1 h1a h1b]
  refine lv_if_eq (tgt := 71) hx hb dX8_addStation_25 (by decide) (fun h25 => absurd h25 (by decide)) (fun h25 => ?_)
  refine lv_iload_n hx hb dX8_addStation_28 rfl (lv_at hl 3 rfl) ?_
  refine lv_iconst (v := 1) hx hb dX8_addStation_29 (by decide) ?_
  refine lv_bipush (v := 50) hx hb dX8_addStation_30 (by decide) ?_
  refine gg_callS F hG (As := [.int x2, .int 1, .int 50]) (rest := []) (c_X8_isIn Z l x2 1 50 _) kY_X8_isIn kV_X8_isIn w4_118 rfl ⟨rfl, rfl⟩ ⟨(Nat.le_of_ble_eq_true rfl), (Nat.le_of_ble_eq_true rfl)⟩ rfl (Nat.le_of_ble_eq_true rfl) hl.1 ⟨Nat.zero_le _, Nat.zero_le _⟩ dX8_addStation_32 rfl (fun H locs hG => ?_)
  rw [show (wthF x2 1 50 : Int32) = 1 from wth_1 h2a h2b]
  refine lv_if_eq (tgt := 71) hx hb dX8_addStation_35 (by decide) (fun h35 => absurd h35 (by decide)) (fun h35 => ?_)
  refine lv_iload hx hb dX8_addStation_38 (lv_at hl 4 rfl) ?_
  refine lv_iconst (v := 0) hx hb dX8_addStation_40 (by decide) ?_
  refine lv_bipush (v := 23) hx hb dX8_addStation_41 (by decide) ?_
  refine gg_callS F hG (As := [.int x3, .int 0, .int 23]) (rest := []) (c_X8_isIn Z l x3 0 23 _) kY_X8_isIn kV_X8_isIn w4_118 rfl ⟨rfl, rfl⟩ ⟨(Nat.le_of_ble_eq_true rfl), (Nat.le_of_ble_eq_true rfl)⟩ rfl (Nat.le_of_ble_eq_true rfl) hl.1 ⟨Nat.zero_le _, Nat.zero_le _⟩ dX8_addStation_43 rfl (fun H locs hG => ?_)
  rw [show (wthF x3 0 23 : Int32) = 1 from wth_1 h3a h3b]
  refine lv_if_eq (tgt := 71) hx hb dX8_addStation_46 (by decide) (fun h46 => absurd h46 (by decide)) (fun h46 => ?_)
  refine lv_iload hx hb dX8_addStation_49 (lv_at hl 5 rfl) ?_
  refine lv_iconst (v := 1) hx hb dX8_addStation_51 (by decide) ?_
  refine lv_bipush (v := 24) hx hb dX8_addStation_52 (by decide) ?_
  refine gg_callS F hG (As := [.int x4, .int 1, .int 24]) (rest := []) (c_X8_isIn Z l x4 1 24 _) kY_X8_isIn kV_X8_isIn w4_118 rfl ⟨rfl, rfl⟩ ⟨(Nat.le_of_ble_eq_true rfl), (Nat.le_of_ble_eq_true rfl)⟩ rfl (Nat.le_of_ble_eq_true rfl) hl.1 ⟨Nat.zero_le _, Nat.zero_le _⟩ dX8_addStation_54 rfl (fun H locs hG => ?_)
  rw [show (wthF x4 1 24 : Int32) = 1 from wth_1 h4a h4b]
  refine lv_if_eq (tgt := 71) hx hb dX8_addStation_57 (by decide) (fun h57 => absurd h57 (by decide)) (fun h57 => ?_)
  refine lv_iload hx hb dX8_addStation_60 (lv_at hl 6 rfl) ?_
  refine lv_iconst (v := 0) hx hb dX8_addStation_62 (by decide) ?_
  refine lv_bipush (v := 11) hx hb dX8_addStation_63 (by decide) ?_
  refine gg_callS F hG (As := [.int x5, .int 0, .int 11]) (rest := []) (c_X8_isIn Z l x5 0 11 _) kY_X8_isIn kV_X8_isIn w4_118 rfl ⟨rfl, rfl⟩ ⟨(Nat.le_of_ble_eq_true rfl), (Nat.le_of_ble_eq_true rfl)⟩ rfl (Nat.le_of_ble_eq_true rfl) hl.1 ⟨Nat.zero_le _, Nat.zero_le _⟩ dX8_addStation_65 rfl (fun H locs hG => ?_)
  rw [show (wthF x5 0 11 : Int32) = 1 from wth_1 h5a h5b]
  refine lv_if_ne (tgt := 77) hx hb dX8_addStation_68 (by decide) (fun h68 => ?_) (fun h68 => absurd h68 (by decide))
  refine lv_aload_n hx hb dX8_addStation_77 rfl (lv_at hl 0 rfl) ?_
  refine gg_get F hG (ci := 8) (v := .int (nI ns)) 1 gcX8 rfl (gR_model hn) (by decide) w4_76 (congrArg (fun z => some (Value.int z)) hN.1) dX8_addStation_78 ?_
  refine lv_bipush (v := 12) hx hb dX8_addStation_81 (by decide) ?_
  refine lv_icmp_ne (tgt := 92) hx hb dX8_addStation_83 (by decide) (fun h83 => absurd (show nI ns = 12 by rw [show ns = 12 by omega]; rfl) h83) (fun h83 => ?_)
  refine lv_aload_n hx hb dX8_addStation_86 rfl (lv_at hl 0 rfl) ?_
  refine lv_iconst (v := 2) hx hb dX8_addStation_87 (by decide) ?_
  refine gg_callV F hG (ci := 8) (As := [.int 2]) (rest := []) (c_X8_no Z l AD (mu M 1 0 0 0) _ hn 2) kY_X8_no kV_X8_no (gR_model hn) rfl rfl w4_121 rfl ⟨rfl, rfl⟩ ⟨(Nat.le_of_ble_eq_true rfl), (Nat.le_of_ble_eq_true rfl)⟩ rfl (Nat.le_of_ble_eq_true rfl) hl.1 ⟨Nat.zero_le _, Nat.zero_le _⟩ dX8_addStation_88 rfl (fun H locs hG => ?_)
  exact gg_iret F hG rfl rfl rfl dX8_addStation_91
set_option maxRecDepth 100000 in
set_option maxHeartbeats 4000000 in
theorem c_X8_addStation_a (Z : gZ) (l : Launch) (AD : Nat → Nat) (M : St) (n : Nat) (hn : 16 ≤ n) (ns nm : Nat) (hN : okN M ns nm) (x0 x1 x2 x3 x4 x5 : Int32) (ho : wthF x0 300 3000 = 0 ∨ wthF x1 1 100 = 0 ∨ wthF x2 1 50 = 0 ∨ wthF x3 0 23 = 0 ∨ wthF x4 1 24 = 0 ∨ wthF x5 0 11 = 0) : gM Z l yX8_addStation cX8_addStation 8 (some .int) ({ frames := 1, cells := 0, slots := 0, locals := 22 } : Room) [.ref (AD 0), .int x0, .int x1, .int x2, .int x3, .int x4, .int x5] (wR Z AD M n) (some (.int 0)) (wR Z AD (mu (mu M 1 0 0 0) 1 0 0 1) n) 0 0 := by
  refine gM_of (by decide +kernel) (Nat.le_of_ble_eq_true rfl) ?_
  intro pP eE sS mI aA bB mE cC A F hname hG ls hl
  have hx := F.1
  have hb := F.2.1
  have hl : lv_has ls 8 [(0, .ref (AD 0)), (1, .int x0), (2, .int x1), (3, .int x2), (4, .int x3), (5, .int x4), (6, .int x5)] := hl
  refine lv_aload_n hx hb dX8_addStation_0 rfl (lv_at hl 0 rfl) ?_
  refine lv_iconst (v := 0) hx hb dX8_addStation_1 (by decide) ?_
  refine gg_put F hG (ci := 8) 0 gcX8 rfl (gR_model hn) (by decide) w4_75 rfl rfl rfl (Nat.le_of_ble_eq_true rfl) (pR_1) dX8_addStation_2 (fun H locs hG => ?_)
  have hG : gG Z A sS (wR Z AD (mu M 1 0 0 0) n) H locs := hG
  refine lv_iload_n hx hb dX8_addStation_5 rfl (lv_at hl 1 rfl) ?_
  refine lv_sipush (v := 300) hx hb dX8_addStation_6 (by decide) ?_
  refine lv_sipush (v := 3000) hx hb dX8_addStation_9 (by decide) ?_
  refine gg_callS F hG (As := [.int x0, .int 300, .int 3000]) (rest := []) (c_X8_isIn Z l x0 300 3000 _) kY_X8_isIn kV_X8_isIn w4_118 rfl ⟨rfl, rfl⟩ ⟨(Nat.le_of_ble_eq_true rfl), (Nat.le_of_ble_eq_true rfl)⟩ rfl (Nat.le_of_ble_eq_true rfl) hl.1 ⟨Nat.zero_le _, Nat.zero_le _⟩ dX8_addStation_12 rfl (fun H locs hG => ?_)
  refine lv_if_eq (tgt := 71) hx hb dX8_addStation_15 (by decide) (fun h15 => ?_) (fun h15 => ?_)
  · refine lv_aload_n hx hb dX8_addStation_71 rfl (lv_at hl 0 rfl) ?_
    refine lv_iconst (v := 1) hx hb dX8_addStation_72 (by decide) ?_
    refine gg_callV F hG (ci := 8) (As := [.int 1]) (rest := []) (c_X8_no Z l AD (mu M 1 0 0 0) _ hn 1) kY_X8_no kV_X8_no (gR_model hn) rfl rfl w4_121 rfl ⟨rfl, rfl⟩ ⟨(Nat.le_of_ble_eq_true rfl), (Nat.le_of_ble_eq_true rfl)⟩ rfl (Nat.le_of_ble_eq_true rfl) hl.1 ⟨Nat.zero_le _, Nat.zero_le _⟩ dX8_addStation_73 rfl (fun H locs hG => ?_)
    exact gg_iret F hG rfl rfl rfl dX8_addStation_76
  · refine lv_iload_n hx hb dX8_addStation_18 rfl (lv_at hl 2 rfl) ?_
    refine lv_iconst (v := 1) hx hb dX8_addStation_19 (by decide) ?_
    refine lv_bipush (v := 100) hx hb dX8_addStation_20 (by decide) ?_
    refine gg_callS F hG (As := [.int x1, .int 1, .int 100]) (rest := []) (c_X8_isIn Z l x1 1 100 _) kY_X8_isIn kV_X8_isIn w4_118 rfl ⟨rfl, rfl⟩ ⟨(Nat.le_of_ble_eq_true rfl), (Nat.le_of_ble_eq_true rfl)⟩ rfl (Nat.le_of_ble_eq_true rfl) hl.1 ⟨Nat.zero_le _, Nat.zero_le _⟩ dX8_addStation_22 rfl (fun H locs hG => ?_)
    refine lv_if_eq (tgt := 71) hx hb dX8_addStation_25 (by decide) (fun h25 => ?_) (fun h25 => ?_)
    · refine lv_aload_n hx hb dX8_addStation_71 rfl (lv_at hl 0 rfl) ?_
      refine lv_iconst (v := 1) hx hb dX8_addStation_72 (by decide) ?_
      refine gg_callV F hG (ci := 8) (As := [.int 1]) (rest := []) (c_X8_no Z l AD (mu M 1 0 0 0) _ hn 1) kY_X8_no kV_X8_no (gR_model hn) rfl rfl w4_121 rfl ⟨rfl, rfl⟩ ⟨(Nat.le_of_ble_eq_true rfl), (Nat.le_of_ble_eq_true rfl)⟩ rfl (Nat.le_of_ble_eq_true rfl) hl.1 ⟨Nat.zero_le _, Nat.zero_le _⟩ dX8_addStation_73 rfl (fun H locs hG => ?_)
      exact gg_iret F hG rfl rfl rfl dX8_addStation_76
    · refine lv_iload_n hx hb dX8_addStation_28 rfl (lv_at hl 3 rfl) ?_
      refine lv_iconst (v := 1) hx hb dX8_addStation_29 (by decide) ?_
      refine lv_bipush (v := 50) hx hb dX8_addStation_30 (by decide) ?_
      refine gg_callS F hG (As := [.int x2, .int 1, .int 50]) (rest := []) (c_X8_isIn Z l x2 1 50 _) kY_X8_isIn kV_X8_isIn w4_118 rfl ⟨rfl, rfl⟩ ⟨(Nat.le_of_ble_eq_true rfl), (Nat.le_of_ble_eq_true rfl)⟩ rfl (Nat.le_of_ble_eq_true rfl) hl.1 ⟨Nat.zero_le _, Nat.zero_le _⟩ dX8_addStation_32 rfl (fun H locs hG => ?_)
      refine lv_if_eq (tgt := 71) hx hb dX8_addStation_35 (by decide) (fun h35 => ?_) (fun h35 => ?_)
      · refine lv_aload_n hx hb dX8_addStation_71 rfl (lv_at hl 0 rfl) ?_
        refine lv_iconst (v := 1) hx hb dX8_addStation_72 (by decide) ?_
        refine gg_callV F hG (ci := 8) (As := [.int 1]) (rest := []) (c_X8_no Z l AD (mu M 1 0 0 0) _ hn 1) kY_X8_no kV_X8_no (gR_model hn) rfl rfl w4_121 rfl ⟨rfl, rfl⟩ ⟨(Nat.le_of_ble_eq_true rfl), (Nat.le_of_ble_eq_true rfl)⟩ rfl (Nat.le_of_ble_eq_true rfl) hl.1 ⟨Nat.zero_le _, Nat.zero_le _⟩ dX8_addStation_73 rfl (fun H locs hG => ?_)
        exact gg_iret F hG rfl rfl rfl dX8_addStation_76
      · refine lv_iload hx hb dX8_addStation_38 (lv_at hl 4 rfl) ?_
        refine lv_iconst (v := 0) hx hb dX8_addStation_40 (by decide) ?_
        refine lv_bipush (v := 23) hx hb dX8_addStation_41 (by decide) ?_
        refine gg_callS F hG (As := [.int x3, .int 0, .int 23]) (rest := []) (c_X8_isIn Z l x3 0 23 _) kY_X8_isIn kV_X8_isIn w4_118 rfl ⟨rfl, rfl⟩ ⟨(Nat.le_of_ble_eq_true rfl), (Nat.le_of_ble_eq_true rfl)⟩ rfl (Nat.le_of_ble_eq_true rfl) hl.1 ⟨Nat.zero_le _, Nat.zero_le _⟩ dX8_addStation_43 rfl (fun H locs hG => ?_)
        refine lv_if_eq (tgt := 71) hx hb dX8_addStation_46 (by decide) (fun h46 => ?_) (fun h46 => ?_)
        · refine lv_aload_n hx hb dX8_addStation_71 rfl (lv_at hl 0 rfl) ?_
          refine lv_iconst (v := 1) hx hb dX8_addStation_72 (by decide) ?_
          refine gg_callV F hG (ci := 8) (As := [.int 1]) (rest := []) (c_X8_no Z l AD (mu M 1 0 0 0) _ hn 1) kY_X8_no kV_X8_no (gR_model hn) rfl rfl w4_121 rfl ⟨rfl, rfl⟩ ⟨(Nat.le_of_ble_eq_true rfl), (Nat.le_of_ble_eq_true rfl)⟩ rfl (Nat.le_of_ble_eq_true rfl) hl.1 ⟨Nat.zero_le _, Nat.zero_le _⟩ dX8_addStation_73 rfl (fun H locs hG => ?_)
          exact gg_iret F hG rfl rfl rfl dX8_addStation_76
        · refine lv_iload hx hb dX8_addStation_49 (lv_at hl 5 rfl) ?_
          refine lv_iconst (v := 1) hx hb dX8_addStation_51 (by decide) ?_
          refine lv_bipush (v := 24) hx hb dX8_addStation_52 (by decide) ?_
          refine gg_callS F hG (As := [.int x4, .int 1, .int 24]) (rest := []) (c_X8_isIn Z l x4 1 24 _) kY_X8_isIn kV_X8_isIn w4_118 rfl ⟨rfl, rfl⟩ ⟨(Nat.le_of_ble_eq_true rfl), (Nat.le_of_ble_eq_true rfl)⟩ rfl (Nat.le_of_ble_eq_true rfl) hl.1 ⟨Nat.zero_le _, Nat.zero_le _⟩ dX8_addStation_54 rfl (fun H locs hG => ?_)
          refine lv_if_eq (tgt := 71) hx hb dX8_addStation_57 (by decide) (fun h57 => ?_) (fun h57 => ?_)
          · refine lv_aload_n hx hb dX8_addStation_71 rfl (lv_at hl 0 rfl) ?_
            refine lv_iconst (v := 1) hx hb dX8_addStation_72 (by decide) ?_
            refine gg_callV F hG (ci := 8) (As := [.int 1]) (rest := []) (c_X8_no Z l AD (mu M 1 0 0 0) _ hn 1) kY_X8_no kV_X8_no (gR_model hn) rfl rfl w4_121 rfl ⟨rfl, rfl⟩ ⟨(Nat.le_of_ble_eq_true rfl), (Nat.le_of_ble_eq_true rfl)⟩ rfl (Nat.le_of_ble_eq_true rfl) hl.1 ⟨Nat.zero_le _, Nat.zero_le _⟩ dX8_addStation_73 rfl (fun H locs hG => ?_)
            exact gg_iret F hG rfl rfl rfl dX8_addStation_76
          · refine lv_iload hx hb dX8_addStation_60 (lv_at hl 6 rfl) ?_
            refine lv_iconst (v := 0) hx hb dX8_addStation_62 (by decide) ?_
            refine lv_bipush (v := 11) hx hb dX8_addStation_63 (by decide) ?_
            refine gg_callS F hG (As := [.int x5, .int 0, .int 11]) (rest := []) (c_X8_isIn Z l x5 0 11 _) kY_X8_isIn kV_X8_isIn w4_118 rfl ⟨rfl, rfl⟩ ⟨(Nat.le_of_ble_eq_true rfl), (Nat.le_of_ble_eq_true rfl)⟩ rfl (Nat.le_of_ble_eq_true rfl) hl.1 ⟨Nat.zero_le _, Nat.zero_le _⟩ dX8_addStation_65 rfl (fun H locs hG => ?_)
            refine lv_if_ne (tgt := 77) hx hb dX8_addStation_68 (by decide) (fun h68 => absurd (((((ho.resolve_left h15).resolve_left h25).resolve_left h35).resolve_left h46).resolve_left h57) h68) (fun h68 => ?_)
            refine lv_aload_n hx hb dX8_addStation_71 rfl (lv_at hl 0 rfl) ?_
            refine lv_iconst (v := 1) hx hb dX8_addStation_72 (by decide) ?_
            refine gg_callV F hG (ci := 8) (As := [.int 1]) (rest := []) (c_X8_no Z l AD (mu M 1 0 0 0) _ hn 1) kY_X8_no kV_X8_no (gR_model hn) rfl rfl w4_121 rfl ⟨rfl, rfl⟩ ⟨(Nat.le_of_ble_eq_true rfl), (Nat.le_of_ble_eq_true rfl)⟩ rfl (Nat.le_of_ble_eq_true rfl) hl.1 ⟨Nat.zero_le _, Nat.zero_le _⟩ dX8_addStation_73 rfl (fun H locs hG => ?_)
            exact gg_iret F hG rfl rfl rfl dX8_addStation_76
