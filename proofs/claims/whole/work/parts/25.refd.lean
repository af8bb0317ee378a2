set_option maxRecDepth 100000 in
set_option maxHeartbeats 4000000 in
theorem c_X8_dial (Z : gZ) (l : Launch) (AD : Nat → Nat) (M : St) (n : Nat) (hn : 16 ≤ n) (ns nm i k : Nat) (hN : okN M ns nm) (hi : i < nm) (hk : k < ns) (htd : ∀ d, d < 101 → ¬ M 4 0 i + nI d = 0) : gM Z l yX8_dial cX8_dial 8 (some .int) ({ frames := 4, cells := 0, slots := 0, locals := 107 } : Room) [.ref (AD 0), .int (nI i), .int (nI k)] (wR Z AD M n) (some (.int ((dlR (mu M 1 0 0 0) i ns k 101).1))) (wR Z AD (mu M 1 0 0 0) n) 0 0 := by
  refine gM_of (by decide +kernel) (Nat.le_of_ble_eq_true rfl) ?_
  intro pP eE sS mI aA bB mE cC A F hname hG ls hl
  have hx := F.1
  have hb := F.2.1
  have hl : lv_has ls 8 [(0, .ref (AD 0)), (1, .int (nI i)), (2, .int (nI k))] := hl
  have hns2 := hN.2.1
  have hnm2 := hN.2.2.2.1
  refine lv_aload_n hx hb dX8_dial_0 rfl (lv_at hl 0 rfl) ?_
  refine lv_iconst (v := 0) hx hb dX8_dial_1 (by decide) ?_
  refine gg_put F hG (ci := 8) 0 gcX8 rfl (gR_model hn) (by decide) w4_75 rfl rfl rfl (Nat.le_of_ble_eq_true rfl) (pR_1) dX8_dial_2 (fun H locs hG => ?_)
  have hG : gG Z A sS (wR Z AD (mu M 1 0 0 0) n) H locs := hG
  replace hN : okN (mu M 1 0 0 0) ns nm := hN
  replace htd : ∀ d, d < 101 → ¬ (mu M 1 0 0 0) 4 0 i + nI d = 0 := htd
  generalize hNe : mu M 1 0 0 0 = N at hG hN htd ⊢
  refine lv_aload_n hx hb dX8_dial_5 rfl (lv_at hl 0 rfl) ?_
  refine lv_iload_n hx hb dX8_dial_6 rfl (lv_at hl 1 rfl) ?_
  refine gg_callV F hG (ci := 8) (As := [.int (nI i)]) (rest := []) (c_X8_isMember Z l AD N _ hn _ _ i hN hi) kY_X8_isMember kV_X8_isMember (gR_model hn) rfl rfl w4_136 rfl ⟨rfl, rfl⟩ ⟨(Nat.le_of_ble_eq_true rfl), (Nat.le_of_ble_eq_true rfl)⟩ rfl (Nat.le_of_ble_eq_true rfl) hl.1 ⟨Nat.zero_le _, Nat.zero_le _⟩ dX8_dial_7 rfl (fun H locs hG => ?_)
  refine lv_if_eq (tgt := 21) hx hb dX8_dial_10 (by decide) (fun h10 => absurd h10 (by decide)) (fun h10 => ?_)
  refine lv_aload_n hx hb dX8_dial_13 rfl (lv_at hl 0 rfl) ?_
  refine lv_iload_n hx hb dX8_dial_14 rfl (lv_at hl 2 rfl) ?_
  refine gg_callV F hG (ci := 8) (As := [.int (nI k)]) (rest := []) (c_X8_isStation Z l AD N _ hn _ _ k hN hk) kY_X8_isStation kV_X8_isStation (gR_model hn) rfl rfl w4_156 rfl ⟨rfl, rfl⟩ ⟨(Nat.le_of_ble_eq_true rfl), (Nat.le_of_ble_eq_true rfl)⟩ rfl (Nat.le_of_ble_eq_true rfl) hl.1 ⟨Nat.zero_le _, Nat.zero_le _⟩ dX8_dial_15 rfl (fun H locs hG => ?_)
  refine lv_if_ne (tgt := 27) hx hb dX8_dial_18 (by decide) (fun h18 => ?_) (fun h18 => absurd h18 (by decide))
  refine lv_aload_n hx hb dX8_dial_27 rfl (lv_at hl 0 rfl) ?_
  refine lv_aload_n hx hb dX8_dial_28 rfl (lv_at hl 0 rfl) ?_
  refine gg_get F hG (ci := 8) (v := .ref (AD (6 + 0))) 8 gcX8 rfl (gR_model hn) (by decide) w4_87 rfl dX8_dial_29 ?_
  refine gg_getN F hG (ci := 7) (v := .int (N 8 0 0)) 0 gcX7 rfl (gR_state (by omega) hn) (by decide) wn_38 rfl dX8_dial_32 ?_
  refine gg_callV F hG (ci := 8) (As := [.int (N 8 0 0)]) (rest := []) (c_X8_onAir Z l AD N _ hn _ _ hN (N 8 0 0)) kY_X8_onAir kV_X8_onAir (gR_model hn) rfl rfl w4_164 rfl ⟨rfl, rfl⟩ ⟨(Nat.le_of_ble_eq_true rfl), (Nat.le_of_ble_eq_true rfl)⟩ rfl (Nat.le_of_ble_eq_true rfl) hl.1 ⟨Nat.zero_le _, Nat.zero_le _⟩ dX8_dial_35 rfl (fun H locs hG => ?_)
  refine lv_istore_n (lv' := [(3, .int (onR N (N 8 0 0) ns)), (0, .ref (AD 0)), (1, .int (nI i)), (2, .int (nI k))]) hx hb dX8_dial_38 rfl hl (by decide) rfl (fun ls hl => ?_)
  refine lv_iconst (v := (-1)) hx hb dX8_dial_39 (by decide) ?_
  refine lv_istore (lv' := [(4, .int (-1)), (3, .int (onR N (N 8 0 0) ns)), (0, .ref (AD 0)), (1, .int (nI i)), (2, .int (nI k))]) hx hb dX8_dial_40 hl (by decide) rfl (fun ls hl => ?_)
  refine lv_iconst (v := 0) hx hb dX8_dial_42 (by decide) ?_
  refine lv_istore (lv' := [(5, .int 0), (4, .int (-1)), (3, .int (onR N (N 8 0 0) ns)), (0, .ref (AD 0)), (1, .int (nI i)), (2, .int (nI k))]) hx hb dX8_dial_43 hl (by decide) rfl (fun ls hl => ?_)
  refine lv_iconst (v := nI 0) hx hb dX8_dial_45 rfl ?_
  refine lv_istore (lv' := [(6, .int (nI 0)), (5, .int 0), (4, .int (-1)), (3, .int (onR N (N 8 0 0) ns)), (0, .ref (AD 0)), (1, .int (nI i)), (2, .int (nI k))]) hx hb dX8_dial_46 hl (by decide) rfl (fun ls hl => ?_)
  have loop48 : ∀ (fuQ d : Nat), d ≤ 101 → 101 + 1 ≤ d + fuQ → ∀ (H : Heap) (locs : List Loc), gG Z A sS (wR Z AD N n) H locs → ∀ ls : Array Slot, lv_has ls 8 [(0, .ref (AD 0)), (1, .int (nI i)), (2, .int (nI k)), (3, .int (onR N (N 8 0 0) ns)), (4, .int ((dlR N i ns k d).1)), (5, .int ((dlR N i ns k d).2)), (6, .int (nI d))] → W pP l eE ({ frames := 4, cells := 0, slots := 0, locals := 107 } : Room) sS mI aA bB mE cC H locs 0 0 (MQ bB (gQ Z A (some (.int ((dlR N i ns k 101).1))) (wR Z AD N n)) aA sS 0 0 A) (F0 mI 48 ls []) := by
    intro fuQ
    induction fuQ with
    | zero =>
      intro d h1 h2
      exact absurd h2 (by omega)
    | succ fuQ ih48 =>
      intro d hleQ hfuQ H locs hG ls hl
      by_cases hlt : d < 101
      · refine lv_iload hx hb dX8_dial_48 (lv_at hl 6 rfl) ?_
        refine lv_bipush (v := 100) hx hb dX8_dial_50 (by decide) ?_
        refine lv_icmp_gt (tgt := 148) hx hb dX8_dial_52 (by decide) (fun h52 => absurd h52 (show ¬ (100 : Int32) < nI d from (nI_nlt (a := 100) (b := d) (by omega) (by omega)))) (fun h52 => ?_)
        refine lv_aload_n hx hb dX8_dial_55 rfl (lv_at hl 0 rfl) ?_
        refine lv_iload_n hx hb dX8_dial_56 rfl (lv_at hl 1 rfl) ?_
        refine lv_aload_n hx hb dX8_dial_57 rfl (lv_at hl 0 rfl) ?_
        refine gg_get F hG (ci := 8) (v := .ref (AD (6 + 0))) 8 gcX8 rfl (gR_model hn) (by decide) w4_87 rfl dX8_dial_58 ?_
        refine gg_getN F hG (ci := 7) (v := .int (N 8 0 0)) 0 gcX7 rfl (gR_state (by omega) hn) (by decide) wn_38 rfl dX8_dial_61 ?_
        refine lv_aload_n hx hb dX8_dial_64 rfl (lv_at hl 0 rfl) ?_
        refine gg_get F hG (ci := 8) (v := .ref (AD 2)) 4 gcX8 rfl (gR_model hn) (by decide) w4_80 rfl dX8_dial_65 ?_
        refine lv_iload_n hx hb dX8_dial_68 rfl (lv_at hl 1 rfl) ?_
        refine gg_ialdN F hG i (gR_turns hn) rfl (by omega) (by omega) dX8_dial_69 ?_
        refine lv_iload hx hb dX8_dial_70 (lv_at hl 6 rfl) ?_
        refine lv_aload_n hx hb dX8_dial_72 rfl (lv_at hl 0 rfl) ?_
        refine gg_get F hG (ci := 8) (v := .ref (AD (6 + 0))) 8 gcX8 rfl (gR_model hn) (by decide) w4_87 rfl dX8_dial_73 ?_
        refine gg_getN F hG (ci := 7) (v := .ref (AD (8 + 0))) 4 gcX7 rfl (gR_state (by omega) hn) (by decide) wn_42 rfl dX8_dial_76 ?_
        refine lv_iload_n hx hb dX8_dial_79 rfl (lv_at hl 1 rfl) ?_
        refine gg_ialdN F hG i (gR_crys (by omega) hn) rfl (by omega) (by omega) dX8_dial_80 ?_
        refine lv_iload_n hx hb dX8_dial_81 rfl (lv_at hl 3 rfl) ?_
        refine gg_callV F hG (ci := 8) (As := [.int (nI i), .int (N 8 0 0), .int (N 4 0 i), .int (nI d), .int (N 12 0 i), .int (onR N (N 8 0 0) ns)]) (rest := []) (c_X8_heard Z l AD N _ hn _ _ i hN (by omega) (N 8 0 0) (N 4 0 i) (nI d) (N 12 0 i) (onR N (N 8 0 0) ns) (htd d hlt)) kY_X8_heard kV_X8_heard (gR_model hn) rfl rfl w4_215 rfl ⟨rfl, rfl⟩ ⟨(Nat.le_of_ble_eq_true rfl), (Nat.le_of_ble_eq_true rfl)⟩ rfl (Nat.le_of_ble_eq_true rfl) hl.1 ⟨Nat.zero_le _, Nat.zero_le _⟩ dX8_dial_82 rfl (fun H locs hG => ?_)
        refine lv_iload_n hx hb dX8_dial_85 rfl (lv_at hl 2 rfl) ?_
        refine lv_icmp_eq (tgt := 92) hx hb dX8_dial_86 (by decide) (fun h86 => ?_) (fun h86 => ?_)
        · refine lv_aload_n hx hb dX8_dial_92 rfl (lv_at hl 0 rfl) ?_
          refine lv_iload_n hx hb dX8_dial_93 rfl (lv_at hl 1 rfl) ?_
          refine lv_iload_n hx hb dX8_dial_94 rfl (lv_at hl 2 rfl) ?_
          refine lv_aload_n hx hb dX8_dial_95 rfl (lv_at hl 0 rfl) ?_
          refine gg_get F hG (ci := 8) (v := .ref (AD (6 + 0))) 8 gcX8 rfl (gR_model hn) (by decide) w4_87 rfl dX8_dial_96 ?_
          refine gg_getN F hG (ci := 7) (v := .int (N 8 0 0)) 0 gcX7 rfl (gR_state (by omega) hn) (by decide) wn_38 rfl dX8_dial_99 ?_
          refine lv_aload_n hx hb dX8_dial_102 rfl (lv_at hl 0 rfl) ?_
          refine gg_get F hG (ci := 8) (v := .ref (AD 2)) 4 gcX8 rfl (gR_model hn) (by decide) w4_80 rfl dX8_dial_103 ?_
          refine lv_iload_n hx hb dX8_dial_106 rfl (lv_at hl 1 rfl) ?_
          refine gg_ialdN F hG i (gR_turns hn) rfl (by omega) (by omega) dX8_dial_107 ?_
          refine lv_iload hx hb dX8_dial_108 (lv_at hl 6 rfl) ?_
          refine lv_aload_n hx hb dX8_dial_110 rfl (lv_at hl 0 rfl) ?_
          refine gg_get F hG (ci := 8) (v := .ref (AD (6 + 0))) 8 gcX8 rfl (gR_model hn) (by decide) w4_87 rfl dX8_dial_111 ?_
          refine gg_getN F hG (ci := 7) (v := .ref (AD (8 + 0))) 4 gcX7 rfl (gR_state (by omega) hn) (by decide) wn_42 rfl dX8_dial_114 ?_
          refine lv_iload_n hx hb dX8_dial_117 rfl (lv_at hl 1 rfl) ?_
          refine gg_ialdN F hG i (gR_crys (by omega) hn) rfl (by omega) (by omega) dX8_dial_118 ?_
          refine gg_callV F hG (ci := 8) (As := [.int (nI i), .int (nI k), .int (N 8 0 0), .int (N 4 0 i), .int (nI d), .int (N 12 0 i)]) (rest := []) (c_X8_reach Z l AD N _ hn i k (by omega) (by omega) (hN.2.2.2.2.1 k hk) (N 8 0 0) (N 4 0 i) (nI d) (N 12 0 i) (htd d hlt)) kY_X8_reach kV_X8_reach (gR_model hn) rfl rfl w4_207 rfl ⟨rfl, rfl⟩ ⟨(Nat.le_of_ble_eq_true rfl), (Nat.le_of_ble_eq_true rfl)⟩ rfl (Nat.le_of_ble_eq_true rfl) hl.1 ⟨Nat.zero_le _, Nat.zero_le _⟩ dX8_dial_119 rfl (fun H locs hG => ?_)
          refine lv_istore (lv' := [(7, .int (rcR N i (N 8 0 0) (N 4 0 i) (nI d) (N 12 0 i) k)), (0, .ref (AD 0)), (1, .int (nI i)), (2, .int (nI k)), (3, .int (onR N (N 8 0 0) ns)), (4, .int ((dlR N i ns k d).1)), (5, .int ((dlR N i ns k d).2)), (6, .int (nI d))]) hx hb dX8_dial_122 hl (by decide) rfl (fun ls hl => ?_)
          refine lv_iload hx hb dX8_dial_124 (lv_at hl 0 rfl) ?_
          refine lv_iload hx hb dX8_dial_126 (lv_at hl 6 rfl) ?_
          refine lv_icmp_gt (tgt := 134) hx hb dX8_dial_128 (by decide) (fun h128 => ?_) (fun h128 => ?_)
          · refine lv_iload hx hb dX8_dial_134 (lv_at hl 0 rfl) ?_
            refine lv_istore (lv' := [(5, .int (rcR N i (N 8 0 0) (N 4 0 i) (nI d) (N 12 0 i) k)), (7, .int (rcR N i (N 8 0 0) (N 4 0 i) (nI d) (N 12 0 i) k)), (0, .ref (AD 0)), (1, .int (nI i)), (2, .int (nI k)), (3, .int (onR N (N 8 0 0) ns)), (4, .int ((dlR N i ns k d).1)), (6, .int (nI d))]) hx hb dX8_dial_136 hl (by decide) rfl (fun ls hl => ?_)
            refine lv_iload hx hb dX8_dial_138 (lv_at hl 7 rfl) ?_
            refine lv_istore (lv' := [(4, .int (nI d)), (5, .int (rcR N i (N 8 0 0) (N 4 0 i) (nI d) (N 12 0 i) k)), (7, .int (rcR N i (N 8 0 0) (N 4 0 i) (nI d) (N 12 0 i) k)), (0, .ref (AD 0)), (1, .int (nI i)), (2, .int (nI k)), (3, .int (onR N (N 8 0 0) ns)), (6, .int (nI d))]) hx hb dX8_dial_140 hl (by decide) rfl (fun ls hl => ?_)
            refine lv_iinc (v := nI (d + 1)) (lv' := [(6, .int (nI (d + 1))), (4, .int (nI d)), (5, .int (rcR N i (N 8 0 0) (N 4 0 i) (nI d) (N 12 0 i) k)), (7, .int (rcR N i (N 8 0 0) (N 4 0 i) (nI d) (N 12 0 i) k)), (0, .ref (AD 0)), (1, .int (nI i)), (2, .int (nI k)), (3, .int (onR N (N 8 0 0) ns))]) hx hb dX8_dial_142 hl (k := 7) rfl (nI_1 _) (by decide) rfl (fun ls hl => ?_)
            refine lv_goto (tgt := 48) hx hb dX8_dial_145 (by decide) ?_
            have e9 : dlR N i ns k (d + 1) = (nI d, rcR N i (N 8 0 0) (N 4 0 i) (nI d) (N 12 0 i) k) := (if_pos h86).trans (if_pos h128)
            exact ih48 (d + 1) (by omega) (by omega) _ _ hG ls (by rw [e9]; exact lv_sub hl [4, 5, 6, 7, 1, 2, 0] rfl)
          · refine lv_goto (tgt := 142) hx hb dX8_dial_131 (by decide) ?_
            refine lv_iinc (v := nI (d + 1)) (lv' := [(6, .int (nI (d + 1))), (7, .int (rcR N i (N 8 0 0) (N 4 0 i) (nI d) (N 12 0 i) k)), (0, .ref (AD 0)), (1, .int (nI i)), (2, .int (nI k)), (3, .int (onR N (N 8 0 0) ns)), (4, .int ((dlR N i ns k d).1)), (5, .int ((dlR N i ns k d).2))]) hx hb dX8_dial_142 hl (k := 7) rfl (nI_1 _) (by decide) rfl (fun ls hl => ?_)
            refine lv_goto (tgt := 48) hx hb dX8_dial_145 (by decide) ?_
            have e9 : dlR N i ns k (d + 1) = dlR N i ns k d := (if_pos h86).trans (if_neg h128)
            exact ih48 (d + 1) (by omega) (by omega) _ _ hG ls (by rw [e9]; exact lv_sub hl [2, 3, 4, 5, 6, 7, 0] rfl)
        · refine lv_goto (tgt := 142) hx hb dX8_dial_89 (by decide) ?_
          refine lv_iinc (v := nI (d + 1)) (lv' := [(6, .int (nI (d + 1))), (0, .ref (AD 0)), (1, .int (nI i)), (2, .int (nI k)), (3, .int (onR N (N 8 0 0) ns)), (4, .int ((dlR N i ns k d).1)), (5, .int ((dlR N i ns k d).2))]) hx hb dX8_dial_142 hl (k := 6) rfl (nI_1 _) (by decide) rfl (fun ls hl => ?_)
          refine lv_goto (tgt := 48) hx hb dX8_dial_145 (by decide) ?_
          have e9 : dlR N i ns k (d + 1) = dlR N i ns k d := if_neg h86
          exact ih48 (d + 1) (by omega) (by omega) _ _ hG ls (by rw [e9]; exact lv_sub hl [1, 2, 3, 4, 5, 6, 0] rfl)
      · have hN : 101 = d := by omega
        subst hN
        refine lv_iload hx hb dX8_dial_48 (lv_at hl 6 rfl) ?_
        refine lv_bipush (v := 100) hx hb dX8_dial_50 (by decide) ?_
        refine lv_icmp_gt (tgt := 148) hx hb dX8_dial_52 (by decide) (fun h52 => ?_) (fun h52 => absurd (show (100 : Int32) < nI 101 by decide) h52)
        refine lv_iload hx hb dX8_dial_148 (lv_at hl 4 rfl) ?_
        exact gg_iret F hG rfl rfl rfl dX8_dial_150
  exact loop48 (101 + 1) 0 (Nat.zero_le _) (by omega) _ _ hG ls (lv_sub hl [4, 5, 6, 3, 2, 1, 0] rfl)
set_option maxRecDepth 100000 in
set_option maxHeartbeats 4000000 in
theorem c_X8_next (Z : gZ) (l : Launch) (AD : Nat → Nat) (M : St) (n : Nat) (hn : 16 ≤ n) (ns nm i k : Nat) (hN : okN M ns nm) (hi : i < nm) (hk : k < ns) : gM Z l yX8_next cX8_next 5 (some .int) ({ frames := 4, cells := 0, slots := 0, locals := 107 } : Room) [.ref (AD 0), .int (nI i), .int (nI k)] (wR Z AD M n) (some (.int (neR (mu M 1 0 0 0) i ns k 97 0))) (wR Z AD (mu M 1 0 0 0) n) 0 0 := by
  refine gM_of (by decide +kernel) (Nat.le_of_ble_eq_true rfl) ?_
  intro pP eE sS mI aA bB mE cC A F hname hG ls hl
  have hx := F.1
  have hb := F.2.1
  have hl : lv_has ls 5 [(0, .ref (AD 0)), (1, .int (nI i)), (2, .int (nI k))] := hl
  have hns2 := hN.2.1
  have hnm2 := hN.2.2.2.1
  refine lv_aload_n hx hb dX8_next_0 rfl (lv_at hl 0 rfl) ?_
  refine lv_iconst (v := 0) hx hb dX8_next_1 (by decide) ?_
  refine gg_put F hG (ci := 8) 0 gcX8 rfl (gR_model hn) (by decide) w4_75 rfl rfl rfl (Nat.le_of_ble_eq_true rfl) (pR_1) dX8_next_2 (fun H locs hG => ?_)
  have hG : gG Z A sS (wR Z AD (mu M 1 0 0 0) n) H locs := hG
  replace hN : okN (mu M 1 0 0 0) ns nm := hN
  generalize hNe : mu M 1 0 0 0 = N at hG hN ⊢
  refine lv_aload_n hx hb dX8_next_5 rfl (lv_at hl 0 rfl) ?_
  refine lv_iload_n hx hb dX8_next_6 rfl (lv_at hl 1 rfl) ?_
  refine gg_callV F hG (ci := 8) (As := [.int (nI i)]) (rest := []) (c_X8_isMember Z l AD N _ hn _ _ i hN hi) kY_X8_isMember kV_X8_isMember (gR_model hn) rfl rfl w4_136 rfl ⟨rfl, rfl⟩ ⟨(Nat.le_of_ble_eq_true rfl), (Nat.le_of_ble_eq_true rfl)⟩ rfl (Nat.le_of_ble_eq_true rfl) hl.1 ⟨Nat.zero_le _, Nat.zero_le _⟩ dX8_next_7 rfl (fun H locs hG => ?_)
  refine lv_if_eq (tgt := 21) hx hb dX8_next_10 (by decide) (fun h10 => absurd h10 (by decide)) (fun h10 => ?_)
  refine lv_aload_n hx hb dX8_next_13 rfl (lv_at hl 0 rfl) ?_
  refine lv_iload_n hx hb dX8_next_14 rfl (lv_at hl 2 rfl) ?_
  refine gg_callV F hG (ci := 8) (As := [.int (nI k)]) (rest := []) (c_X8_isStation Z l AD N _ hn _ _ k hN hk) kY_X8_isStation kV_X8_isStation (gR_model hn) rfl rfl w4_156 rfl ⟨rfl, rfl⟩ ⟨(Nat.le_of_ble_eq_true rfl), (Nat.le_of_ble_eq_true rfl)⟩ rfl (Nat.le_of_ble_eq_true rfl) hl.1 ⟨Nat.zero_le _, Nat.zero_le _⟩ dX8_next_15 rfl (fun H locs hG => ?_)
  refine lv_if_ne (tgt := 27) hx hb dX8_next_18 (by decide) (fun h18 => ?_) (fun h18 => absurd h18 (by decide))
  refine lv_iconst (v := nI 0) hx hb dX8_next_27 rfl ?_
  refine lv_istore_n (lv' := [(3, .int (nI 0)), (0, .ref (AD 0)), (1, .int (nI i)), (2, .int (nI k))]) hx hb dX8_next_28 rfl hl (by decide) rfl (fun ls hl => ?_)
  have loop29 : ∀ (fuQ d : Nat), d ≤ 97 → 97 + 1 ≤ d + fuQ → neR N i ns k 97 0 = neR N i ns k (97 - d) d → ∀ (H : Heap) (locs : List Loc), gG Z A sS (wR Z AD N n) H locs → ∀ ls : Array Slot, lv_has ls 5 [(0, .ref (AD 0)), (1, .int (nI i)), (2, .int (nI k)), (3, .int (nI d))] → W pP l eE ({ frames := 4, cells := 0, slots := 0, locals := 107 } : Room) sS mI aA bB mE cC H locs 0 0 (MQ bB (gQ Z A (some (.int (neR N i ns k 97 0))) (wR Z AD N n)) aA sS 0 0 A) (F0 mI 29 ls []) := by
    intro fuQ
    induction fuQ with
    | zero =>
      intro d h1 h2
      exact absurd h2 (by omega)
    | succ fuQ ih29 =>
      intro d hleQ hfuQ hE H locs hG ls hl
      by_cases hlt : d < 97
      · refine lv_iload_n hx hb dX8_next_29 rfl (lv_at hl 3 rfl) ?_
        refine lv_bipush (v := 96) hx hb dX8_next_30 (by decide) ?_
        refine lv_icmp_gt (tgt := 92) hx hb dX8_next_32 (by decide) (fun h32 => absurd h32 (show ¬ (96 : Int32) < nI d from nI_nlt (a := 96) (b := d) (by omega) (by decide))) (fun h32 => ?_)
        refine lv_aload_n hx hb dX8_next_35 rfl (lv_at hl 0 rfl) ?_
        refine gg_get F hG (ci := 8) (v := .ref (AD (6 + 0))) 8 gcX8 rfl (gR_model hn) (by decide) w4_87 rfl dX8_next_36 ?_
        refine gg_getN F hG (ci := 7) (v := .int (N 8 0 0)) 0 gcX7 rfl (gR_state (by omega) hn) (by decide) wn_38 rfl dX8_next_39 ?_
        refine lv_iload_n hx hb dX8_next_42 rfl (lv_at hl 3 rfl) ?_
        refine lv_iadd hx hb dX8_next_43 ?_
        refine lv_istore (lv' := [(4, .int ((N 8 0 0) + (nI d))), (0, .ref (AD 0)), (1, .int (nI i)), (2, .int (nI k)), (3, .int (nI d))]) hx hb dX8_next_44 hl (by decide) rfl (fun ls hl => ?_)
        refine lv_aload_n hx hb dX8_next_46 rfl (lv_at hl 1 rfl) ?_
        refine lv_iload_n hx hb dX8_next_47 rfl (lv_at hl 2 rfl) ?_
        refine lv_iload hx hb dX8_next_48 (lv_at hl 0 rfl) ?_
        refine lv_aload_n hx hb dX8_next_50 rfl (lv_at hl 1 rfl) ?_
        refine gg_get F hG (ci := 8) (v := .ref (AD 2)) 4 gcX8 rfl (gR_model hn) (by decide) w4_80 rfl dX8_next_51 ?_
        refine lv_iload_n hx hb dX8_next_54 rfl (lv_at hl 2 rfl) ?_
        refine gg_ialdN F hG i (gR_turns hn) rfl (by omega) (by omega) dX8_next_55 ?_
        refine lv_aload_n hx hb dX8_next_56 rfl (lv_at hl 1 rfl) ?_
        refine gg_get F hG (ci := 8) (v := .ref (AD 3)) 5 gcX8 rfl (gR_model hn) (by decide) w4_82 rfl dX8_next_57 ?_
        refine lv_iload_n hx hb dX8_next_60 rfl (lv_at hl 2 rfl) ?_
        refine gg_ialdN F hG i (gR_stand hn) rfl (by omega) (by omega) dX8_next_61 ?_
        refine lv_aload_n hx hb dX8_next_62 rfl (lv_at hl 1 rfl) ?_
        refine gg_get F hG (ci := 8) (v := .ref (AD (6 + 0))) 8 gcX8 rfl (gR_model hn) (by decide) w4_87 rfl dX8_next_63 ?_
        refine gg_getN F hG (ci := 7) (v := .ref (AD (8 + 0))) 4 gcX7 rfl (gR_state (by omega) hn) (by decide) wn_42 rfl dX8_next_66 ?_
        refine lv_iload_n hx hb dX8_next_69 rfl (lv_at hl 2 rfl) ?_
        refine gg_ialdN F hG i (gR_crys (by omega) hn) rfl (by omega) (by omega) dX8_next_70 ?_
        refine lv_aload_n hx hb dX8_next_71 rfl (lv_at hl 1 rfl) ?_
        refine lv_iload hx hb dX8_next_72 (lv_at hl 0 rfl) ?_
        refine gg_callV F hG (ci := 8) (As := [.int ((N 8 0 0) + (nI d))]) (rest := [.int (N 12 0 i), .int (N 5 0 i), .int (N 4 0 i), .int ((N 8 0 0) + (nI d)), .int (nI i), .ref (AD 0)]) (c_X8_onAir Z l AD N _ hn _ _ hN ((N 8 0 0) + (nI d))) kY_X8_onAir kV_X8_onAir (gR_model hn) rfl rfl w4_164 rfl ⟨rfl, rfl⟩ ⟨(Nat.le_of_ble_eq_true rfl), (Nat.le_of_ble_eq_true rfl)⟩ rfl (Nat.le_of_ble_eq_true rfl) hl.1 ⟨Nat.zero_le _, Nat.zero_le _⟩ dX8_next_74 rfl (fun H locs hG => ?_)
        refine gg_callV F hG (ci := 8) (As := [.int (nI i), .int ((N 8 0 0) + (nI d)), .int (N 4 0 i), .int (N 5 0 i), .int (N 12 0 i), .int (onR N ((N 8 0 0) + (nI d)) ns)]) (rest := []) (c_X8_heard Z l AD N _ hn _ _ i hN (by omega) ((N 8 0 0) + (nI d)) (N 4 0 i) (N 5 0 i) (N 12 0 i) (onR N ((N 8 0 0) + (nI d)) ns) (hN.2.2.2.2.2 i hi)) kY_X8_heard kV_X8_heard (gR_model hn) rfl rfl w4_215 rfl ⟨rfl, rfl⟩ ⟨(Nat.le_of_ble_eq_true rfl), (Nat.le_of_ble_eq_true rfl)⟩ rfl (Nat.le_of_ble_eq_true rfl) hl.1 ⟨Nat.zero_le _, Nat.zero_le _⟩ dX8_next_77 rfl (fun H locs hG => ?_)
        refine lv_iload_n hx hb dX8_next_80 rfl (lv_at hl 3 rfl) ?_
        refine lv_icmp_ne (tgt := 86) hx hb dX8_next_81 (by decide) (fun h81 => ?_) (fun h81 => ?_)
        · refine lv_iinc (v := nI (d + 1)) (lv' := [(3, .int (nI (d + 1))), (4, .int ((N 8 0 0) + (nI d))), (0, .ref (AD 0)), (1, .int (nI i)), (2, .int (nI k))]) hx hb dX8_next_86 hl (k := 4) rfl (nI_1 _) (by decide) rfl (fun ls hl => ?_)
          refine lv_goto (tgt := 29) hx hb dX8_next_89 (by decide) ?_
          exact ih29 (d + 1) (by omega) (by omega) (hE.trans (by rw [show 97 - d = (97 - (d + 1)) + 1 by omega]; exact if_neg h81)) _ _ hG ls (lv_sub hl [2, 3, 4, 0] rfl)
        · refine lv_iload_n hx hb dX8_next_84 rfl (lv_at hl 4 rfl) ?_
          exact gg_iret F hG rfl (Eq.symm (hE.trans (by rw [show 97 - d = (97 - (d + 1)) + 1 by omega]; exact if_pos h81))) rfl dX8_next_85
      · have hN : 97 = d := by omega
        subst hN
        refine lv_iload_n hx hb dX8_next_29 rfl (lv_at hl 3 rfl) ?_
        refine lv_bipush (v := 96) hx hb dX8_next_30 (by decide) ?_
        refine lv_icmp_gt (tgt := 92) hx hb dX8_next_32 (by decide) (fun h32 => ?_) (fun h32 => absurd (show (96 : Int32) < nI 97 by decide) h32)
        refine lv_iconst (v := (-1)) hx hb dX8_next_92 (by decide) ?_
        exact gg_iret F hG rfl (Eq.symm (hE.trans rfl)) rfl dX8_next_93
  exact loop29 (97 + 1) 0 (Nat.zero_le _) (by omega) rfl _ _ hG ls (lv_sub hl [1, 2, 3, 0] rfl)
set_option maxRecDepth 100000 in
set_option maxHeartbeats 4000000 in
theorem c_X8_apart (Z : gZ) (l : Launch) (AD : Nat → Nat) (M : St) (n : Nat) (hn : 16 ≤ n) (ns nm i a b : Nat) (hN : okN M ns nm) (hi : i < nm) (ha : a < ns) (hbb : b < ns) (hab : ¬ nI a = nI b) (htd : ∀ d u, d < 181 → u < 101 → ¬ nI (20 + d) + nI u = 0) : gM Z l yX8_apart cX8_apart 10 (some .int) ({ frames := 4, cells := 0, slots := 0, locals := 107 } : Room) [.ref (AD 0), .int (nI i), .int (nI a), .int (nI b)] (wR Z AD M n) (some (.int (arR (mu M 1 0 0 0) i ns a b 181 0))) (wR Z AD (mu M 1 0 0 0) n) 0 0 := by
  refine gM_of (by decide +kernel) (Nat.le_of_ble_eq_true rfl) ?_
  intro pP eE sS mI aA bB mE cC A F hname hG ls hl
  have hx := F.1
  have hb := F.2.1
  have hl : lv_has ls 10 [(0, .ref (AD 0)), (1, .int (nI i)), (2, .int (nI a)), (3, .int (nI b))] := hl
  have hns2 := hN.2.1
  have hnm2 := hN.2.2.2.1
  refine lv_aload_n hx hb dX8_apart_0 rfl (lv_at hl 0 rfl) ?_
  refine lv_iconst (v := 0) hx hb dX8_apart_1 (by decide) ?_
  refine gg_put F hG (ci := 8) 0 gcX8 rfl (gR_model hn) (by decide) w4_75 rfl rfl rfl (Nat.le_of_ble_eq_true rfl) (pR_1) dX8_apart_2 (fun H locs hG => ?_)
  have hG : gG Z A sS (wR Z AD (mu M 1 0 0 0) n) H locs := hG
  refine lv_aload_n hx hb dX8_apart_5 rfl (lv_at hl 0 rfl) ?_
  refine lv_iload_n hx hb dX8_apart_6 rfl (lv_at hl 1 rfl) ?_
  refine gg_callV F hG (ci := 8) (As := [.int (nI i)]) (rest := []) (c_X8_isMember Z l AD (mu M 1 0 0 0) _ hn _ _ i hN hi) kY_X8_isMember kV_X8_isMember (gR_model hn) rfl rfl w4_136 rfl ⟨rfl, rfl⟩ ⟨(Nat.le_of_ble_eq_true rfl), (Nat.le_of_ble_eq_true rfl)⟩ rfl (Nat.le_of_ble_eq_true rfl) hl.1 ⟨Nat.zero_le _, Nat.zero_le _⟩ dX8_apart_7 rfl (fun H locs hG => ?_)
  refine lv_if_eq (tgt := 29) hx hb dX8_apart_10 (by decide) (fun h10 => absurd h10 (by decide)) (fun h10 => ?_)
  refine lv_aload_n hx hb dX8_apart_13 rfl (lv_at hl 0 rfl) ?_
  refine lv_iload_n hx hb dX8_apart_14 rfl (lv_at hl 2 rfl) ?_
  refine gg_callV F hG (ci := 8) (As := [.int (nI a)]) (rest := []) (c_X8_isStation Z l AD (mu M 1 0 0 0) _ hn _ _ a hN ha) kY_X8_isStation kV_X8_isStation (gR_model hn) rfl rfl w4_156 rfl ⟨rfl, rfl⟩ ⟨(Nat.le_of_ble_eq_true rfl), (Nat.le_of_ble_eq_true rfl)⟩ rfl (Nat.le_of_ble_eq_true rfl) hl.1 ⟨Nat.zero_le _, Nat.zero_le _⟩ dX8_apart_15 rfl (fun H locs hG => ?_)
  refine lv_if_eq (tgt := 29) hx hb dX8_apart_18 (by decide) (fun h18 => absurd h18 (by decide)) (fun h18 => ?_)
  refine lv_aload_n hx hb dX8_apart_21 rfl (lv_at hl 0 rfl) ?_
  refine lv_iload_n hx hb dX8_apart_22 rfl (lv_at hl 3 rfl) ?_
  refine gg_callV F hG (ci := 8) (As := [.int (nI b)]) (rest := []) (c_X8_isStation Z l AD (mu M 1 0 0 0) _ hn _ _ b hN hbb) kY_X8_isStation kV_X8_isStation (gR_model hn) rfl rfl w4_156 rfl ⟨rfl, rfl⟩ ⟨(Nat.le_of_ble_eq_true rfl), (Nat.le_of_ble_eq_true rfl)⟩ rfl (Nat.le_of_ble_eq_true rfl) hl.1 ⟨Nat.zero_le _, Nat.zero_le _⟩ dX8_apart_23 rfl (fun H locs hG => ?_)
  refine lv_if_ne (tgt := 35) hx hb dX8_apart_26 (by decide) (fun h26 => ?_) (fun h26 => absurd h26 (by decide))
  refine lv_iload_n hx hb dX8_apart_35 rfl (lv_at hl 2 rfl) ?_
  refine lv_iload_n hx hb dX8_apart_36 rfl (lv_at hl 3 rfl) ?_
  refine lv_icmp_ne (tgt := 46) hx hb dX8_apart_37 (by decide) (fun h37 => ?_) (fun h37 => absurd h37 hab)
  refine lv_iconst (v := 1) hx hb dX8_apart_46 (by decide) ?_
  refine lv_iload_n hx hb dX8_apart_47 rfl (lv_at hl 2 rfl) ?_
  refine lv_ishl hx hb dX8_apart_48 ?_
  refine lv_iconst (v := 1) hx hb dX8_apart_49 (by decide) ?_
  refine lv_iload_n hx hb dX8_apart_50 rfl (lv_at hl 3 rfl) ?_
  refine lv_ishl hx hb dX8_apart_51 ?_
  refine lv_ior hx hb dX8_apart_52 ?_
  rw [show ((1 <<< ((nI a) &&& 31)) ||| (1 <<< ((nI b) &&& 31)) : Int32) = boR a b from rfl]
  refine lv_istore (lv' := [(4, .int (boR a b)), (0, .ref (AD 0)), (1, .int (nI i)), (2, .int (nI a)), (3, .int (nI b))]) hx hb dX8_apart_53 hl (by decide) rfl (fun ls hl => ?_)
  refine lv_bipush (v := nI (20 + 0)) hx hb dX8_apart_55 rfl ?_
  refine lv_istore (lv' := [(5, .int (nI (20 + 0))), (4, .int (boR a b)), (0, .ref (AD 0)), (1, .int (nI i)), (2, .int (nI a)), (3, .int (nI b))]) hx hb dX8_apart_57 hl (by decide) rfl (fun ls hl => ?_)
  have loop59 : ∀ (fuQ d : Nat), d ≤ 181 → 181 + 1 ≤ d + fuQ → arR (mu M 1 0 0 0) i ns a b 181 0 = arR (mu M 1 0 0 0) i ns a b (181 - d) d → ∀ (H : Heap) (locs : List Loc), gG Z A sS (wR Z AD (mu M 1 0 0 0) n) H locs → ∀ ls : Array Slot, lv_has ls 10 [(0, .ref (AD 0)), (1, .int (nI i)), (2, .int (nI a)), (3, .int (nI b)), (4, .int (boR a b)), (5, .int (nI (20 + d)))] → W pP l eE ({ frames := 4, cells := 0, slots := 0, locals := 107 } : Room) sS mI aA bB mE cC H locs 0 0 (MQ bB (gQ Z A (some (.int (arR (mu M 1 0 0 0) i ns a b 181 0))) (wR Z AD (mu M 1 0 0 0) n)) aA sS 0 0 A) (F0 mI 59 ls []) := by
    intro fuQ
    induction fuQ with
    | zero =>
      intro d h1 h2
      exact absurd h2 (by omega)
    | succ fuQ ih59 =>
      intro d hleQ hfuQ hE H locs hG ls hl
      by_cases hlt : d < 181
      · refine lv_iload hx hb dX8_apart_59 (lv_at hl 5 rfl) ?_
        refine lv_sipush (v := 200) hx hb dX8_apart_61 (by decide) ?_
        refine lv_icmp_gt (tgt := 169) hx hb dX8_apart_64 (by decide) (fun h64 => absurd h64 (show ¬ (200 : Int32) < nI (20 + d) from nI_nlt (a := 200) (b := 20 + d) (by omega) (by decide))) (fun h64 => ?_)
        refine lv_iconst (v := 0) hx hb dX8_apart_67 (by decide) ?_
        refine lv_istore (lv' := [(6, .int 0), (0, .ref (AD 0)), (1, .int (nI i)), (2, .int (nI a)), (3, .int (nI b)), (4, .int (boR a b)), (5, .int (nI (20 + d)))]) hx hb dX8_apart_68 hl (by decide) rfl (fun ls hl => ?_)
        refine lv_iconst (v := 0) hx hb dX8_apart_70 (by decide) ?_
        refine lv_istore (lv' := [(7, .int 0), (6, .int 0), (0, .ref (AD 0)), (1, .int (nI i)), (2, .int (nI a)), (3, .int (nI b)), (4, .int (boR a b)), (5, .int (nI (20 + d)))]) hx hb dX8_apart_71 hl (by decide) rfl (fun ls hl => ?_)
        refine lv_iconst (v := nI 0) hx hb dX8_apart_73 rfl ?_
        refine lv_istore (lv' := [(8, .int (nI 0)), (7, .int 0), (6, .int 0), (0, .ref (AD 0)), (1, .int (nI i)), (2, .int (nI a)), (3, .int (nI b)), (4, .int (boR a b)), (5, .int (nI (20 + d)))]) hx hb dX8_apart_74 hl (by decide) rfl (fun ls hl => ?_)
        have loop76 : ∀ (fuQ u : Nat), u ≤ 101 → 101 + 1 ≤ u + fuQ → ∀ (H : Heap) (locs : List Loc), gG Z A sS (wR Z AD (mu M 1 0 0 0) n) H locs → ∀ ls : Array Slot, lv_has ls 10 [(0, .ref (AD 0)), (1, .int (nI i)), (2, .int (nI a)), (3, .int (nI b)), (4, .int (boR a b)), (5, .int (nI (20 + d))), (6, .int ((afR (mu M 1 0 0 0) i ns a b (nI (20 + d)) u).1)), (7, .int ((afR (mu M 1 0 0 0) i ns a b (nI (20 + d)) u).2)), (8, .int (nI u))] → W pP l eE ({ frames := 4, cells := 0, slots := 0, locals := 107 } : Room) sS mI aA bB mE cC H locs 0 0 (MQ bB (gQ Z A (some (.int (arR (mu M 1 0 0 0) i ns a b 181 0))) (wR Z AD (mu M 1 0 0 0) n)) aA sS 0 0 A) (F0 mI 76 ls []) := by
          intro fuQ
          induction fuQ with
          | zero =>
            intro u h1 h2
            exact absurd h2 (by omega)
          | succ fuQ ih76 =>
            intro u hleQ hfuQ H locs hG ls hl
            by_cases hltu : u < 101
            · refine lv_iload hx hb dX8_apart_76 (lv_at hl 8 rfl) ?_
              refine lv_bipush (v := 100) hx hb dX8_apart_78 (by decide) ?_
              refine lv_icmp_gt (tgt := 150) hx hb dX8_apart_80 (by decide) (fun h80 => absurd h80 (show ¬ (100 : Int32) < nI u from (nI_nlt (a := 100) (b := u) (by omega) (by omega)))) (fun h80 => ?_)
              refine lv_aload_n hx hb dX8_apart_83 rfl (lv_at hl 0 rfl) ?_
              refine lv_iload_n hx hb dX8_apart_84 rfl (lv_at hl 1 rfl) ?_
              refine lv_aload_n hx hb dX8_apart_85 rfl (lv_at hl 0 rfl) ?_
              refine gg_get F hG (ci := 8) (v := .ref (AD (6 + 0))) 8 gcX8 rfl (gR_model hn) (by decide) w4_87 rfl dX8_apart_86 ?_
              refine gg_getN F hG (ci := 7) (v := .int ((mu M 1 0 0 0) 8 0 0)) 0 gcX7 rfl (gR_state (by omega) hn) (by decide) wn_38 rfl dX8_apart_89 ?_
              refine lv_iload hx hb dX8_apart_92 (lv_at hl 5 rfl) ?_
              refine lv_iload hx hb dX8_apart_94 (lv_at hl 8 rfl) ?_
              refine lv_aload_n hx hb dX8_apart_96 rfl (lv_at hl 0 rfl) ?_
              refine gg_get F hG (ci := 8) (v := .ref (AD (6 + 0))) 8 gcX8 rfl (gR_model hn) (by decide) w4_87 rfl dX8_apart_97 ?_
              refine gg_getN F hG (ci := 7) (v := .ref (AD (8 + 0))) 4 gcX7 rfl (gR_state (by omega) hn) (by decide) wn_42 rfl dX8_apart_100 ?_
              refine lv_iload_n hx hb dX8_apart_103 rfl (lv_at hl 1 rfl) ?_
              refine gg_ialdN F hG i (gR_crys (by omega) hn) rfl (by omega) (by omega) dX8_apart_104 ?_
              refine lv_iload hx hb dX8_apart_105 (lv_at hl 4 rfl) ?_
              refine gg_callV F hG (ci := 8) (As := [.int (nI i), .int ((mu M 1 0 0 0) 8 0 0), .int (nI (20 + d)), .int (nI u), .int ((mu M 1 0 0 0) 12 0 i), .int (boR a b)]) (rest := []) (c_X8_heard Z l AD (mu M 1 0 0 0) _ hn _ _ i hN (by omega) ((mu M 1 0 0 0) 8 0 0) (nI (20 + d)) (nI u) ((mu M 1 0 0 0) 12 0 i) (boR a b) (htd d u hlt hltu)) kY_X8_heard kV_X8_heard (gR_model hn) rfl rfl w4_215 rfl ⟨rfl, rfl⟩ ⟨(Nat.le_of_ble_eq_true rfl), (Nat.le_of_ble_eq_true rfl)⟩ rfl (Nat.le_of_ble_eq_true rfl) hl.1 ⟨Nat.zero_le _, Nat.zero_le _⟩ dX8_apart_107 rfl (fun H locs hG => ?_)
              rw [show (heR (mu M 1 0 0 0) i ((mu M 1 0 0 0) 8 0 0) (nI (20 + d)) (nI u) ((mu M 1 0 0 0) 12 0 i) (boR a b) ns : Int32) = avR (mu M 1 0 0 0) i ns a b (nI (20 + d)) u from rfl]
              refine lv_istore (lv' := [(9, .int (avR (mu M 1 0 0 0) i ns a b (nI (20 + d)) u)), (0, .ref (AD 0)), (1, .int (nI i)), (2, .int (nI a)), (3, .int (nI b)), (4, .int (boR a b)), (5, .int (nI (20 + d))), (6, .int ((afR (mu M 1 0 0 0) i ns a b (nI (20 + d)) u).1)), (7, .int ((afR (mu M 1 0 0 0) i ns a b (nI (20 + d)) u).2)), (8, .int (nI u))]) hx hb dX8_apart_110 hl (by decide) rfl (fun ls hl => ?_)
              refine lv_iload hx hb dX8_apart_112 (lv_at hl 7 rfl) ?_
              refine lv_iload hx hb dX8_apart_114 (lv_at hl 0 rfl) ?_
              refine lv_iload_n hx hb dX8_apart_116 rfl (lv_at hl 3 rfl) ?_
              refine lv_icmp_ne (tgt := 124) hx hb dX8_apart_117 (by decide) (fun h117 => ?_) (fun h117 => ?_)
              · refine lv_iconst (v := 0) hx hb dX8_apart_124 (by decide) ?_
                refine lv_ior hx hb dX8_apart_125 ?_
                refine lv_istore (lv' := [(6, .int (((afR (mu M 1 0 0 0) i ns a b (nI (20 + d)) u).1) ||| 0)), (9, .int (avR (mu M 1 0 0 0) i ns a b (nI (20 + d)) u)), (0, .ref (AD 0)), (1, .int (nI i)), (2, .int (nI a)), (3, .int (nI b)), (4, .int (boR a b)), (5, .int (nI (20 + d))), (7, .int ((afR (mu M 1 0 0 0) i ns a b (nI (20 + d)) u).2)), (8, .int (nI u))]) hx hb dX8_apart_126 hl (by decide) rfl (fun ls hl => ?_)
                refine lv_iload hx hb dX8_apart_128 (lv_at hl 8 rfl) ?_
                refine lv_iload hx hb dX8_apart_130 (lv_at hl 1 rfl) ?_
                refine lv_iload_n hx hb dX8_apart_132 rfl (lv_at hl 5 rfl) ?_
                refine lv_icmp_ne (tgt := 140) hx hb dX8_apart_133 (by decide) (fun h133 => ?_) (fun h133 => ?_)
                · refine lv_iconst (v := 0) hx hb dX8_apart_140 (by decide) ?_
                  refine lv_ior hx hb dX8_apart_141 ?_
                  refine lv_istore (lv' := [(7, .int (((afR (mu M 1 0 0 0) i ns a b (nI (20 + d)) u).2) ||| 0)), (6, .int (((afR (mu M 1 0 0 0) i ns a b (nI (20 + d)) u).1) ||| 0)), (9, .int (avR (mu M 1 0 0 0) i ns a b (nI (20 + d)) u)), (0, .ref (AD 0)), (1, .int (nI i)), (2, .int (nI a)), (3, .int (nI b)), (4, .int (boR a b)), (5, .int (nI (20 + d))), (8, .int (nI u))]) hx hb dX8_apart_142 hl (by decide) rfl (fun ls hl => ?_)
                  refine lv_iinc (v := nI (u + 1)) (lv' := [(8, .int (nI (u + 1))), (7, .int (((afR (mu M 1 0 0 0) i ns a b (nI (20 + d)) u).2) ||| 0)), (6, .int (((afR (mu M 1 0 0 0) i ns a b (nI (20 + d)) u).1) ||| 0)), (9, .int (avR (mu M 1 0 0 0) i ns a b (nI (20 + d)) u)), (0, .ref (AD 0)), (1, .int (nI i)), (2, .int (nI a)), (3, .int (nI b)), (4, .int (boR a b)), (5, .int (nI (20 + d)))]) hx hb dX8_apart_144 hl (k := 9) rfl (nI_1 _) (by decide) rfl (fun ls hl => ?_)
                  refine lv_goto (tgt := 76) hx hb dX8_apart_147 (by decide) ?_
                  have e9 : afR (mu M 1 0 0 0) i ns a b (nI (20 + d)) (u + 1) = ((afR (mu M 1 0 0 0) i ns a b (nI (20 + d)) u).1 ||| 0, (afR (mu M 1 0 0 0) i ns a b (nI (20 + d)) u).2 ||| 0) := Prod.ext (congrArg ((afR (mu M 1 0 0 0) i ns a b (nI (20 + d)) u).1 ||| ·) (if_neg h117)) (congrArg ((afR (mu M 1 0 0 0) i ns a b (nI (20 + d)) u).2 ||| ·) (if_neg h133))
                  exact ih76 (u + 1) (by omega) (by omega) _ _ hG ls (by rw [e9]; exact lv_sub hl [4, 5, 6, 7, 8, 9, 2, 1, 0] rfl)
                · refine lv_iconst (v := 1) hx hb dX8_apart_136 (by decide) ?_
                  refine lv_goto (tgt := 141) hx hb dX8_apart_137 (by decide) ?_
                  refine lv_ior hx hb dX8_apart_141 ?_
                  refine lv_istore (lv' := [(7, .int (((afR (mu M 1 0 0 0) i ns a b (nI (20 + d)) u).2) ||| 1)), (6, .int (((afR (mu M 1 0 0 0) i ns a b (nI (20 + d)) u).1) ||| 0)), (9, .int (avR (mu M 1 0 0 0) i ns a b (nI (20 + d)) u)), (0, .ref (AD 0)), (1, .int (nI i)), (2, .int (nI a)), (3, .int (nI b)), (4, .int (boR a b)), (5, .int (nI (20 + d))), (8, .int (nI u))]) hx hb dX8_apart_142 hl (by decide) rfl (fun ls hl => ?_)
                  refine lv_iinc (v := nI (u + 1)) (lv' := [(8, .int (nI (u + 1))), (7, .int (((afR (mu M 1 0 0 0) i ns a b (nI (20 + d)) u).2) ||| 1)), (6, .int (((afR (mu M 1 0 0 0) i ns a b (nI (20 + d)) u).1) ||| 0)), (9, .int (avR (mu M 1 0 0 0) i ns a b (nI (20 + d)) u)), (0, .ref (AD 0)), (1, .int (nI i)), (2, .int (nI a)), (3, .int (nI b)), (4, .int (boR a b)), (5, .int (nI (20 + d)))]) hx hb dX8_apart_144 hl (k := 9) rfl (nI_1 _) (by decide) rfl (fun ls hl => ?_)
                  refine lv_goto (tgt := 76) hx hb dX8_apart_147 (by decide) ?_
                  have e9 : afR (mu M 1 0 0 0) i ns a b (nI (20 + d)) (u + 1) = ((afR (mu M 1 0 0 0) i ns a b (nI (20 + d)) u).1 ||| 0, (afR (mu M 1 0 0 0) i ns a b (nI (20 + d)) u).2 ||| 1) := Prod.ext (congrArg ((afR (mu M 1 0 0 0) i ns a b (nI (20 + d)) u).1 ||| ·) (if_neg h117)) (congrArg ((afR (mu M 1 0 0 0) i ns a b (nI (20 + d)) u).2 ||| ·) (if_pos h133))
                  exact ih76 (u + 1) (by omega) (by omega) _ _ hG ls (by rw [e9]; exact lv_sub hl [4, 5, 6, 7, 8, 9, 2, 1, 0] rfl)
              · refine lv_iconst (v := 1) hx hb dX8_apart_120 (by decide) ?_
                refine lv_goto (tgt := 125) hx hb dX8_apart_121 (by decide) ?_
                refine lv_ior hx hb dX8_apart_125 ?_
                refine lv_istore (lv' := [(6, .int (((afR (mu M 1 0 0 0) i ns a b (nI (20 + d)) u).1) ||| 1)), (9, .int (avR (mu M 1 0 0 0) i ns a b (nI (20 + d)) u)), (0, .ref (AD 0)), (1, .int (nI i)), (2, .int (nI a)), (3, .int (nI b)), (4, .int (boR a b)), (5, .int (nI (20 + d))), (7, .int ((afR (mu M 1 0 0 0) i ns a b (nI (20 + d)) u).2)), (8, .int (nI u))]) hx hb dX8_apart_126 hl (by decide) rfl (fun ls hl => ?_)
                refine lv_iload hx hb dX8_apart_128 (lv_at hl 8 rfl) ?_
                refine lv_iload hx hb dX8_apart_130 (lv_at hl 1 rfl) ?_
                refine lv_iload_n hx hb dX8_apart_132 rfl (lv_at hl 5 rfl) ?_
                refine lv_icmp_ne (tgt := 140) hx hb dX8_apart_133 (by decide) (fun h133 => ?_) (fun h133 => ?_)
                · refine lv_iconst (v := 0) hx hb dX8_apart_140 (by decide) ?_
                  refine lv_ior hx hb dX8_apart_141 ?_
                  refine lv_istore (lv' := [(7, .int (((afR (mu M 1 0 0 0) i ns a b (nI (20 + d)) u).2) ||| 0)), (6, .int (((afR (mu M 1 0 0 0) i ns a b (nI (20 + d)) u).1) ||| 1)), (9, .int (avR (mu M 1 0 0 0) i ns a b (nI (20 + d)) u)), (0, .ref (AD 0)), (1, .int (nI i)), (2, .int (nI a)), (3, .int (nI b)), (4, .int (boR a b)), (5, .int (nI (20 + d))), (8, .int (nI u))]) hx hb dX8_apart_142 hl (by decide) rfl (fun ls hl => ?_)
                  refine lv_iinc (v := nI (u + 1)) (lv' := [(8, .int (nI (u + 1))), (7, .int (((afR (mu M 1 0 0 0) i ns a b (nI (20 + d)) u).2) ||| 0)), (6, .int (((afR (mu M 1 0 0 0) i ns a b (nI (20 + d)) u).1) ||| 1)), (9, .int (avR (mu M 1 0 0 0) i ns a b (nI (20 + d)) u)), (0, .ref (AD 0)), (1, .int (nI i)), (2, .int (nI a)), (3, .int (nI b)), (4, .int (boR a b)), (5, .int (nI (20 + d)))]) hx hb dX8_apart_144 hl (k := 9) rfl (nI_1 _) (by decide) rfl (fun ls hl => ?_)
                  refine lv_goto (tgt := 76) hx hb dX8_apart_147 (by decide) ?_
                  have e9 : afR (mu M 1 0 0 0) i ns a b (nI (20 + d)) (u + 1) = ((afR (mu M 1 0 0 0) i ns a b (nI (20 + d)) u).1 ||| 1, (afR (mu M 1 0 0 0) i ns a b (nI (20 + d)) u).2 ||| 0) := Prod.ext (congrArg ((afR (mu M 1 0 0 0) i ns a b (nI (20 + d)) u).1 ||| ·) (if_pos h117)) (congrArg ((afR (mu M 1 0 0 0) i ns a b (nI (20 + d)) u).2 ||| ·) (if_neg h133))
                  exact ih76 (u + 1) (by omega) (by omega) _ _ hG ls (by rw [e9]; exact lv_sub hl [4, 5, 6, 7, 8, 9, 2, 1, 0] rfl)
                · refine lv_iconst (v := 1) hx hb dX8_apart_136 (by decide) ?_
                  refine lv_goto (tgt := 141) hx hb dX8_apart_137 (by decide) ?_
                  refine lv_ior hx hb dX8_apart_141 ?_
                  refine lv_istore (lv' := [(7, .int (((afR (mu M 1 0 0 0) i ns a b (nI (20 + d)) u).2) ||| 1)), (6, .int (((afR (mu M 1 0 0 0) i ns a b (nI (20 + d)) u).1) ||| 1)), (9, .int (avR (mu M 1 0 0 0) i ns a b (nI (20 + d)) u)), (0, .ref (AD 0)), (1, .int (nI i)), (2, .int (nI a)), (3, .int (nI b)), (4, .int (boR a b)), (5, .int (nI (20 + d))), (8, .int (nI u))]) hx hb dX8_apart_142 hl (by decide) rfl (fun ls hl => ?_)
                  refine lv_iinc (v := nI (u + 1)) (lv' := [(8, .int (nI (u + 1))), (7, .int (((afR (mu M 1 0 0 0) i ns a b (nI (20 + d)) u).2) ||| 1)), (6, .int (((afR (mu M 1 0 0 0) i ns a b (nI (20 + d)) u).1) ||| 1)), (9, .int (avR (mu M 1 0 0 0) i ns a b (nI (20 + d)) u)), (0, .ref (AD 0)), (1, .int (nI i)), (2, .int (nI a)), (3, .int (nI b)), (4, .int (boR a b)), (5, .int (nI (20 + d)))]) hx hb dX8_apart_144 hl (k := 9) rfl (nI_1 _) (by decide) rfl (fun ls hl => ?_)
                  refine lv_goto (tgt := 76) hx hb dX8_apart_147 (by decide) ?_
                  have e9 : afR (mu M 1 0 0 0) i ns a b (nI (20 + d)) (u + 1) = ((afR (mu M 1 0 0 0) i ns a b (nI (20 + d)) u).1 ||| 1, (afR (mu M 1 0 0 0) i ns a b (nI (20 + d)) u).2 ||| 1) := Prod.ext (congrArg ((afR (mu M 1 0 0 0) i ns a b (nI (20 + d)) u).1 ||| ·) (if_pos h117)) (congrArg ((afR (mu M 1 0 0 0) i ns a b (nI (20 + d)) u).2 ||| ·) (if_pos h133))
                  exact ih76 (u + 1) (by omega) (by omega) _ _ hG ls (by rw [e9]; exact lv_sub hl [4, 5, 6, 7, 8, 9, 2, 1, 0] rfl)
            · have hN : 101 = u := by omega
              subst hN
              refine lv_iload hx hb dX8_apart_76 (lv_at hl 8 rfl) ?_
              refine lv_bipush (v := 100) hx hb dX8_apart_78 (by decide) ?_
              refine lv_icmp_gt (tgt := 150) hx hb dX8_apart_80 (by decide) (fun h80 => ?_) (fun h80 => absurd (show (100 : Int32) < nI 101 by decide) h80)
              refine lv_iload hx hb dX8_apart_150 (lv_at hl 6 rfl) ?_
              refine lv_if_eq (tgt := 163) hx hb dX8_apart_152 (by decide) (fun h152 => ?_) (fun h152 => ?_)
              · refine lv_iinc (v := nI ((20 + d) + 1)) (lv' := [(5, .int (nI ((20 + d) + 1))), (0, .ref (AD 0)), (1, .int (nI i)), (2, .int (nI a)), (3, .int (nI b)), (4, .int (boR a b)), (6, .int ((afR (mu M 1 0 0 0) i ns a b (nI (20 + d)) 101).1)), (7, .int ((afR (mu M 1 0 0 0) i ns a b (nI (20 + d)) 101).2)), (8, .int (nI 101))]) hx hb dX8_apart_163 hl (k := 5) rfl (nI_1 _) (by decide) rfl (fun ls hl => ?_)
                refine lv_goto (tgt := 59) hx hb dX8_apart_166 (by decide) ?_
                exact ih59 (d + 1) (by omega) (by omega) (hE.trans (by rw [show 181 - d = (181 - (d + 1)) + 1 by omega]; exact if_pos h152)) _ _ hG ls (lv_sub hl [1, 2, 3, 4, 5, 0] rfl)
              · refine lv_iload hx hb dX8_apart_155 (lv_at hl 7 rfl) ?_
                refine lv_if_eq (tgt := 163) hx hb dX8_apart_157 (by decide) (fun h157 => ?_) (fun h157 => ?_)
                · refine lv_iinc (v := nI ((20 + d) + 1)) (lv' := [(5, .int (nI ((20 + d) + 1))), (0, .ref (AD 0)), (1, .int (nI i)), (2, .int (nI a)), (3, .int (nI b)), (4, .int (boR a b)), (6, .int ((afR (mu M 1 0 0 0) i ns a b (nI (20 + d)) 101).1)), (7, .int ((afR (mu M 1 0 0 0) i ns a b (nI (20 + d)) 101).2)), (8, .int (nI 101))]) hx hb dX8_apart_163 hl (k := 5) rfl (nI_1 _) (by decide) rfl (fun ls hl => ?_)
                  refine lv_goto (tgt := 59) hx hb dX8_apart_166 (by decide) ?_
                  exact ih59 (d + 1) (by omega) (by omega) (hE.trans (by rw [show 181 - d = (181 - (d + 1)) + 1 by omega]; exact (if_neg h152).trans (if_pos h157))) _ _ hG ls (lv_sub hl [1, 2, 3, 4, 5, 0] rfl)
                · refine lv_iload hx hb dX8_apart_160 (lv_at hl 5 rfl) ?_
                  exact gg_iret F hG rfl (Eq.symm (hE.trans (by rw [show 181 - d = (181 - (d + 1)) + 1 by omega]; exact (if_neg h152).trans (if_neg h157)))) rfl dX8_apart_162
        exact loop76 (101 + 1) 0 (Nat.zero_le _) (by omega) _ _ hG ls (lv_sub hl [3, 4, 5, 6, 7, 8, 2, 1, 0] rfl)
      · have hN : 181 = d := by omega
        subst hN
        refine lv_iload hx hb dX8_apart_59 (lv_at hl 5 rfl) ?_
        refine lv_sipush (v := 200) hx hb dX8_apart_61 (by decide) ?_
        refine lv_icmp_gt (tgt := 169) hx hb dX8_apart_64 (by decide) (fun h64 => ?_) (fun h64 => absurd (show (200 : Int32) < nI (20 + 181) by decide) h64)
        refine lv_iconst (v := (-1)) hx hb dX8_apart_169 (by decide) ?_
        exact gg_iret F hG rfl (Eq.symm (hE.trans rfl)) rfl dX8_apart_170
  exact loop59 (181 + 1) 0 (Nat.zero_le _) (by omega) rfl _ _ hG ls (lv_sub hl [2, 3, 4, 5, 1, 0] rfl)
set_option maxRecDepth 100000 in
set_option maxHeartbeats 4000000 in
theorem c_X8_apart_m (Z : gZ) (l : Launch) (AD : Nat → Nat) (M : St) (n : Nat) (hn : 16 ≤ n) (ns nm : Nat) (hN : okN M ns nm) (x y z : Int32) (hxo : x < 0 ∨ nI nm ≤ x) : gM Z l yX8_apart cX8_apart 10 (some .int) ({ frames := 2, cells := 0, slots := 0, locals := 43 } : Room) [.ref (AD 0), .int x, .int y, .int z] (wR Z AD M n) (some (.int 0)) (wR Z AD (mu (mu M 1 0 0 0) 1 0 0 1) n) 0 0 := by
  refine gM_of (by decide +kernel) (Nat.le_of_ble_eq_true rfl) ?_
  intro pP eE sS mI aA bB mE cC A F hname hG ls hl
  have hx := F.1
  have hb := F.2.1
  have hl : lv_has ls 10 [(0, .ref (AD 0)), (1, .int x), (2, .int y), (3, .int z)] := hl
  refine lv_aload_n hx hb dX8_apart_0 rfl (lv_at hl 0 rfl) ?_
  refine lv_iconst (v := 0) hx hb dX8_apart_1 (by decide) ?_
  refine gg_put F hG (ci := 8) 0 gcX8 rfl (gR_model hn) (by decide) w4_75 rfl rfl rfl (Nat.le_of_ble_eq_true rfl) (pR_1) dX8_apart_2 (fun H locs hG => ?_)
  have hG : gG Z A sS (wR Z AD (mu M 1 0 0 0) n) H locs := hG
  refine lv_aload_n hx hb dX8_apart_5 rfl (lv_at hl 0 rfl) ?_
  refine lv_iload_n hx hb dX8_apart_6 rfl (lv_at hl 1 rfl) ?_
  refine gg_callV F hG (ci := 8) (As := [.int x]) (rest := []) (c_X8_isMember_no Z l AD (mu M 1 0 0 0) _ hn _ _ hN x hxo) kY_X8_isMember kV_X8_isMember (gR_model hn) rfl rfl w4_136 rfl ⟨rfl, rfl⟩ ⟨(Nat.le_of_ble_eq_true rfl), (Nat.le_of_ble_eq_true rfl)⟩ rfl (Nat.le_of_ble_eq_true rfl) hl.1 ⟨Nat.zero_le _, Nat.zero_le _⟩ dX8_apart_7 rfl (fun H locs hG => ?_)
  refine lv_if_eq (tgt := 29) hx hb dX8_apart_10 (by decide) (fun h10 => ?_) (fun h10 => absurd rfl h10)
  refine lv_aload_n hx hb dX8_apart_29 rfl (lv_at hl 0 rfl) ?_
  refine lv_iconst (v := 1) hx hb dX8_apart_30 (by decide) ?_
  refine gg_callV F hG (ci := 8) (As := [.int 1]) (rest := []) (c_X8_no Z l AD (mu M 1 0 0 0) _ hn 1) kY_X8_no kV_X8_no (gR_model hn) rfl rfl w4_121 rfl ⟨rfl, rfl⟩ ⟨(Nat.le_of_ble_eq_true rfl), (Nat.le_of_ble_eq_true rfl)⟩ rfl (Nat.le_of_ble_eq_true rfl) hl.1 ⟨Nat.zero_le _, Nat.zero_le _⟩ dX8_apart_31 rfl (fun H locs hG => ?_)
  exact gg_iret F hG rfl rfl rfl dX8_apart_34
set_option maxRecDepth 100000 in
set_option maxHeartbeats 4000000 in
theorem c_X8_apart_1 (Z : gZ) (l : Launch) (AD : Nat → Nat) (M : St) (n : Nat) (hn : 16 ≤ n) (ns nm i : Nat) (hN : okN M ns nm) (hi : i < nm) (y z : Int32) (hxo : y < 0 ∨ nI ns ≤ y) : gM Z l yX8_apart cX8_apart 10 (some .int) ({ frames := 2, cells := 0, slots := 0, locals := 43 } : Room) [.ref (AD 0), .int (nI i), .int y, .int z] (wR Z AD M n) (some (.int 0)) (wR Z AD (mu (mu M 1 0 0 0) 1 0 0 1) n) 0 0 := by
  refine gM_of (by decide +kernel) (Nat.le_of_ble_eq_true rfl) ?_
  intro pP eE sS mI aA bB mE cC A F hname hG ls hl
  have hx := F.1
  have hb := F.2.1
  have hl : lv_has ls 10 [(0, .ref (AD 0)), (1, .int (nI i)), (2, .int y), (3, .int z)] := hl
  refine lv_aload_n hx hb dX8_apart_0 rfl (lv_at hl 0 rfl) ?_
  refine lv_iconst (v := 0) hx hb dX8_apart_1 (by decide) ?_
  refine gg_put F hG (ci := 8) 0 gcX8 rfl (gR_model hn) (by decide) w4_75 rfl rfl rfl (Nat.le_of_ble_eq_true rfl) (pR_1) dX8_apart_2 (fun H locs hG => ?_)
  have hG : gG Z A sS (wR Z AD (mu M 1 0 0 0) n) H locs := hG
  refine lv_aload_n hx hb dX8_apart_5 rfl (lv_at hl 0 rfl) ?_
  refine lv_iload_n hx hb dX8_apart_6 rfl (lv_at hl 1 rfl) ?_
  refine gg_callV F hG (ci := 8) (As := [.int (nI i)]) (rest := []) (c_X8_isMember Z l AD (mu M 1 0 0 0) _ hn _ _ i hN hi) kY_X8_isMember kV_X8_isMember (gR_model hn) rfl rfl w4_136 rfl ⟨rfl, rfl⟩ ⟨(Nat.le_of_ble_eq_true rfl), (Nat.le_of_ble_eq_true rfl)⟩ rfl (Nat.le_of_ble_eq_true rfl) hl.1 ⟨Nat.zero_le _, Nat.zero_le _⟩ dX8_apart_7 rfl (fun H locs hG => ?_)
  refine lv_if_eq (tgt := 29) hx hb dX8_apart_10 (by decide) (fun h10 => absurd h10 (by decide)) (fun h10 => ?_)
  refine lv_aload_n hx hb dX8_apart_13 rfl (lv_at hl 0 rfl) ?_
  refine lv_iload_n hx hb dX8_apart_14 rfl (lv_at hl 2 rfl) ?_
  refine gg_callV F hG (ci := 8) (As := [.int y]) (rest := []) (c_X8_isStation_no Z l AD (mu M 1 0 0 0) _ hn _ _ hN y hxo) kY_X8_isStation kV_X8_isStation (gR_model hn) rfl rfl w4_156 rfl ⟨rfl, rfl⟩ ⟨(Nat.le_of_ble_eq_true rfl), (Nat.le_of_ble_eq_true rfl)⟩ rfl (Nat.le_of_ble_eq_true rfl) hl.1 ⟨Nat.zero_le _, Nat.zero_le _⟩ dX8_apart_15 rfl (fun H locs hG => ?_)
  refine lv_if_eq (tgt := 29) hx hb dX8_apart_18 (by decide) (fun h18 => ?_) (fun h18 => absurd rfl h18)
  refine lv_aload_n hx hb dX8_apart_29 rfl (lv_at hl 0 rfl) ?_
  refine lv_iconst (v := 1) hx hb dX8_apart_30 (by decide) ?_
  refine gg_callV F hG (ci := 8) (As := [.int 1]) (rest := []) (c_X8_no Z l AD (mu M 1 0 0 0) _ hn 1) kY_X8_no kV_X8_no (gR_model hn) rfl rfl w4_121 rfl ⟨rfl, rfl⟩ ⟨(Nat.le_of_ble_eq_true rfl), (Nat.le_of_ble_eq_true rfl)⟩ rfl (Nat.le_of_ble_eq_true rfl) hl.1 ⟨Nat.zero_le _, Nat.zero_le _⟩ dX8_apart_31 rfl (fun H locs hG => ?_)
  exact gg_iret F hG rfl rfl rfl dX8_apart_34
set_option maxRecDepth 100000 in
set_option maxHeartbeats 4000000 in
theorem c_X8_apart_2 (Z : gZ) (l : Launch) (AD : Nat → Nat) (M : St) (n : Nat) (hn : 16 ≤ n) (ns nm i a : Nat) (hN : okN M ns nm) (hi : i < nm) (ha : a < ns) (z : Int32) (hxo : z < 0 ∨ nI ns ≤ z) : gM Z l yX8_apart cX8_apart 10 (some .int) ({ frames := 2, cells := 0, slots := 0, locals := 43 } : Room) [.ref (AD 0), .int (nI i), .int (nI a), .int z] (wR Z AD M n) (some (.int 0)) (wR Z AD (mu (mu M 1 0 0 0) 1 0 0 1) n) 0 0 := by
  refine gM_of (by decide +kernel) (Nat.le_of_ble_eq_true rfl) ?_
  intro pP eE sS mI aA bB mE cC A F hname hG ls hl
  have hx := F.1
  have hb := F.2.1
  have hl : lv_has ls 10 [(0, .ref (AD 0)), (1, .int (nI i)), (2, .int (nI a)), (3, .int z)] := hl
  refine lv_aload_n hx hb dX8_apart_0 rfl (lv_at hl 0 rfl) ?_
  refine lv_iconst (v := 0) hx hb dX8_apart_1 (by decide) ?_
  refine gg_put F hG (ci := 8) 0 gcX8 rfl (gR_model hn) (by decide) w4_75 rfl rfl rfl (Nat.le_of_ble_eq_true rfl) (pR_1) dX8_apart_2 (fun H locs hG => ?_)
  have hG : gG Z A sS (wR Z AD (mu M 1 0 0 0) n) H locs := hG
  refine lv_aload_n hx hb dX8_apart_5 rfl (lv_at hl 0 rfl) ?_
  refine lv_iload_n hx hb dX8_apart_6 rfl (lv_at hl 1 rfl) ?_
  refine gg_callV F hG (ci := 8) (As := [.int (nI i)]) (rest := []) (c_X8_isMember Z l AD (mu M 1 0 0 0) _ hn _ _ i hN hi) kY_X8_isMember kV_X8_isMember (gR_model hn) rfl rfl w4_136 rfl ⟨rfl, rfl⟩ ⟨(Nat.le_of_ble_eq_true rfl), (Nat.le_of_ble_eq_true rfl)⟩ rfl (Nat.le_of_ble_eq_true rfl) hl.1 ⟨Nat.zero_le _, Nat.zero_le _⟩ dX8_apart_7 rfl (fun H locs hG => ?_)
  refine lv_if_eq (tgt := 29) hx hb dX8_apart_10 (by decide) (fun h10 => absurd h10 (by decide)) (fun h10 => ?_)
  refine lv_aload_n hx hb dX8_apart_13 rfl (lv_at hl 0 rfl) ?_
  refine lv_iload_n hx hb dX8_apart_14 rfl (lv_at hl 2 rfl) ?_
  refine gg_callV F hG (ci := 8) (As := [.int (nI a)]) (rest := []) (c_X8_isStation Z l AD (mu M 1 0 0 0) _ hn _ _ a hN ha) kY_X8_isStation kV_X8_isStation (gR_model hn) rfl rfl w4_156 rfl ⟨rfl, rfl⟩ ⟨(Nat.le_of_ble_eq_true rfl), (Nat.le_of_ble_eq_true rfl)⟩ rfl (Nat.le_of_ble_eq_true rfl) hl.1 ⟨Nat.zero_le _, Nat.zero_le _⟩ dX8_apart_15 rfl (fun H locs hG => ?_)
  refine lv_if_eq (tgt := 29) hx hb dX8_apart_18 (by decide) (fun h18 => absurd h18 (by decide)) (fun h18 => ?_)
  refine lv_aload_n hx hb dX8_apart_21 rfl (lv_at hl 0 rfl) ?_
  refine lv_iload_n hx hb dX8_apart_22 rfl (lv_at hl 3 rfl) ?_
  refine gg_callV F hG (ci := 8) (As := [.int z]) (rest := []) (c_X8_isStation_no Z l AD (mu M 1 0 0 0) _ hn _ _ hN z hxo) kY_X8_isStation kV_X8_isStation (gR_model hn) rfl rfl w4_156 rfl ⟨rfl, rfl⟩ ⟨(Nat.le_of_ble_eq_true rfl), (Nat.le_of_ble_eq_true rfl)⟩ rfl (Nat.le_of_ble_eq_true rfl) hl.1 ⟨Nat.zero_le _, Nat.zero_le _⟩ dX8_apart_23 rfl (fun H locs hG => ?_)
  refine lv_if_ne (tgt := 35) hx hb dX8_apart_26 (by decide) (fun h26 => absurd rfl h26) (fun h26 => ?_)
  refine lv_aload_n hx hb dX8_apart_29 rfl (lv_at hl 0 rfl) ?_
  refine lv_iconst (v := 1) hx hb dX8_apart_30 (by decide) ?_
  refine gg_callV F hG (ci := 8) (As := [.int 1]) (rest := []) (c_X8_no Z l AD (mu M 1 0 0 0) _ hn 1) kY_X8_no kV_X8_no (gR_model hn) rfl rfl w4_121 rfl ⟨rfl, rfl⟩ ⟨(Nat.le_of_ble_eq_true rfl), (Nat.le_of_ble_eq_true rfl)⟩ rfl (Nat.le_of_ble_eq_true rfl) hl.1 ⟨Nat.zero_le _, Nat.zero_le _⟩ dX8_apart_31 rfl (fun H locs hG => ?_)
  exact gg_iret F hG rfl rfl rfl dX8_apart_34
set_option maxRecDepth 100000 in
set_option maxHeartbeats 4000000 in
theorem c_X8_apart_e (Z : gZ) (l : Launch) (AD : Nat → Nat) (M : St) (n : Nat) (hn : 16 ≤ n) (ns nm i a b : Nat) (hN : okN M ns nm) (hi : i < nm) (ha : a < ns) (hbb : b < ns) (hab : nI a = nI b) : gM Z l yX8_apart cX8_apart 10 (some .int) ({ frames := 2, cells := 0, slots := 0, locals := 43 } : Room) [.ref (AD 0), .int (nI i), .int (nI a), .int (nI b)] (wR Z AD M n) (some (.int 0)) (wR Z AD (mu (mu M 1 0 0 0) 1 0 0 2) n) 0 0 := by
  refine gM_of (by decide +kernel) (Nat.le_of_ble_eq_true rfl) ?_
  intro pP eE sS mI aA bB mE cC A F hname hG ls hl
  have hx := F.1
  have hb := F.2.1
  have hl : lv_has ls 10 [(0, .ref (AD 0)), (1, .int (nI i)), (2, .int (nI a)), (3, .int (nI b))] := hl
  refine lv_aload_n hx hb dX8_apart_0 rfl (lv_at hl 0 rfl) ?_
  refine lv_iconst (v := 0) hx hb dX8_apart_1 (by decide) ?_
  refine gg_put F hG (ci := 8) 0 gcX8 rfl (gR_model hn) (by decide) w4_75 rfl rfl rfl (Nat.le_of_ble_eq_true rfl) (pR_1) dX8_apart_2 (fun H locs hG => ?_)
  have hG : gG Z A sS (wR Z AD (mu M 1 0 0 0) n) H locs := hG
  refine lv_aload_n hx hb dX8_apart_5 rfl (lv_at hl 0 rfl) ?_
  refine lv_iload_n hx hb dX8_apart_6 rfl (lv_at hl 1 rfl) ?_
  refine gg_callV F hG (ci := 8) (As := [.int (nI i)]) (rest := []) (c_X8_isMember Z l AD (mu M 1 0 0 0) _ hn _ _ i hN hi) kY_X8_isMember kV_X8_isMember (gR_model hn) rfl rfl w4_136 rfl ⟨rfl, rfl⟩ ⟨(Nat.le_of_ble_eq_true rfl), (Nat.le_of_ble_eq_true rfl)⟩ rfl (Nat.le_of_ble_eq_true rfl) hl.1 ⟨Nat.zero_le _, Nat.zero_le _⟩ dX8_apart_7 rfl (fun H locs hG => ?_)
  refine lv_if_eq (tgt := 29) hx hb dX8_apart_10 (by decide) (fun h10 => absurd h10 (by decide)) (fun h10 => ?_)
  refine lv_aload_n hx hb dX8_apart_13 rfl (lv_at hl 0 rfl) ?_
  refine lv_iload_n hx hb dX8_apart_14 rfl (lv_at hl 2 rfl) ?_
  refine gg_callV F hG (ci := 8) (As := [.int (nI a)]) (rest := []) (c_X8_isStation Z l AD (mu M 1 0 0 0) _ hn _ _ a hN ha) kY_X8_isStation kV_X8_isStation (gR_model hn) rfl rfl w4_156 rfl ⟨rfl, rfl⟩ ⟨(Nat.le_of_ble_eq_true rfl), (Nat.le_of_ble_eq_true rfl)⟩ rfl (Nat.le_of_ble_eq_true rfl) hl.1 ⟨Nat.zero_le _, Nat.zero_le _⟩ dX8_apart_15 rfl (fun H locs hG => ?_)
  refine lv_if_eq (tgt := 29) hx hb dX8_apart_18 (by decide) (fun h18 => absurd h18 (by decide)) (fun h18 => ?_)
  refine lv_aload_n hx hb dX8_apart_21 rfl (lv_at hl 0 rfl) ?_
  refine lv_iload_n hx hb dX8_apart_22 rfl (lv_at hl 3 rfl) ?_
  refine gg_callV F hG (ci := 8) (As := [.int (nI b)]) (rest := []) (c_X8_isStation Z l AD (mu M 1 0 0 0) _ hn _ _ b hN hbb) kY_X8_isStation kV_X8_isStation (gR_model hn) rfl rfl w4_156 rfl ⟨rfl, rfl⟩ ⟨(Nat.le_of_ble_eq_true rfl), (Nat.le_of_ble_eq_true rfl)⟩ rfl (Nat.le_of_ble_eq_true rfl) hl.1 ⟨Nat.zero_le _, Nat.zero_le _⟩ dX8_apart_23 rfl (fun H locs hG => ?_)
  refine lv_if_ne (tgt := 35) hx hb dX8_apart_26 (by decide) (fun h26 => ?_) (fun h26 => absurd h26 (by decide))
  refine lv_iload_n hx hb dX8_apart_35 rfl (lv_at hl 2 rfl) ?_
  refine lv_iload_n hx hb dX8_apart_36 rfl (lv_at hl 3 rfl) ?_
  refine lv_icmp_ne (tgt := 46) hx hb dX8_apart_37 (by decide) (fun h37 => absurd hab h37) (fun h37 => ?_)
  refine lv_aload_n hx hb dX8_apart_40 rfl (lv_at hl 0 rfl) ?_
  refine lv_iconst (v := 2) hx hb dX8_apart_41 (by decide) ?_
  refine gg_callV F hG (ci := 8) (As := [.int 2]) (rest := []) (c_X8_no Z l AD (mu M 1 0 0 0) _ hn 2) kY_X8_no kV_X8_no (gR_model hn) rfl rfl w4_121 rfl ⟨rfl, rfl⟩ ⟨(Nat.le_of_ble_eq_true rfl), (Nat.le_of_ble_eq_true rfl)⟩ rfl (Nat.le_of_ble_eq_true rfl) hl.1 ⟨Nat.zero_le _, Nat.zero_le _⟩ dX8_apart_42 rfl (fun H locs hG => ?_)
  exact gg_iret F hG rfl rfl rfl dX8_apart_45
set_option maxRecDepth 100000 in
set_option maxHeartbeats 4000000 in
theorem c_X8_foresee_0 (Z : gZ) (l : Launch) (AD : Nat → Nat) (M : St) (n : Nat) (hn : 16 ≤ n) (ns nm h : Nat) (hh : h ≤ 240) (h1 : 1 ≤ h) (hI : ∀ i, i < h → okR (paR (beR (mu M 1 0 0 0) 1 0) 1 ns nm i) 1 ns nm) : gM Z l yX8_foresee cX8_foresee 3 (some .int) ({ frames := 6, cells := 0, slots := 0, locals := 154 } : Room) [.ref (AD 0), .int (nI h), .int 0] (wR Z AD M n) (some (.int (frR M ns nm h 10 1 0 - frR M ns nm h 10 0 0))) (wR Z AD (frR M ns nm h) n) 0 0 := by
  refine gM_of (by decide +kernel) (Nat.le_of_ble_eq_true rfl) ?_
  intro pP eE sS mI aA bB mE cC A F hname hG ls hl
  have hx := F.1
  have hb := F.2.1
  have hl : lv_has ls 3 [(0, .ref (AD 0)), (1, .int (nI h)), (2, .int 0)] := hl
  refine lv_aload_n hx hb dX8_foresee_0 rfl (lv_at hl 0 rfl) ?_
  refine lv_iconst (v := 0) hx hb dX8_foresee_1 (by decide) ?_
  refine gg_put F hG (ci := 8) 0 gcX8 rfl (gR_model hn) (by decide) w4_75 rfl rfl rfl (Nat.le_of_ble_eq_true rfl) (pR_1) dX8_foresee_2 (fun H locs hG => ?_)
  have hG : gG Z A sS (wR Z AD (mu M 1 0 0 0) n) H locs := hG
  refine lv_iload_n hx hb dX8_foresee_5 rfl (lv_at hl 1 rfl) ?_
  refine lv_iconst (v := 1) hx hb dX8_foresee_6 (by decide) ?_
  refine lv_sipush (v := 240) hx hb dX8_foresee_7 (by decide) ?_
  refine gg_callS F hG (As := [.int (nI h), .int 1, .int 240]) (rest := []) (c_X8_isIn Z l (nI h) 1 240 _) kY_X8_isIn kV_X8_isIn w4_118 rfl ⟨rfl, rfl⟩ ⟨(Nat.le_of_ble_eq_true rfl), (Nat.le_of_ble_eq_true rfl)⟩ rfl (Nat.le_of_ble_eq_true rfl) hl.1 ⟨Nat.zero_le _, Nat.zero_le _⟩ dX8_foresee_10 rfl (fun H locs hG => ?_)
  rw [show (wthF (nI h) 1 240 : Int32) = 1 from wth_1 (nI_nlt (b := 1) h1 (by omega)) (nI_nlt (a := 240) hh (by decide))]
  refine lv_if_ne (tgt := 22) hx hb dX8_foresee_13 (by decide) (fun h13 => ?_) (fun h13 => absurd h13 (by decide))
  refine lv_iload_n hx hb dX8_foresee_22 rfl (lv_at hl 2 rfl) ?_
  refine lv_iconst (v := 0) hx hb dX8_foresee_23 (by decide) ?_
  refine lv_iconst (v := 1) hx hb dX8_foresee_24 (by decide) ?_
  refine gg_callS F hG (As := [.int 0, .int 0, .int 1]) (rest := []) (c_X8_isIn Z l 0 0 1 _) kY_X8_isIn kV_X8_isIn w4_118 rfl ⟨rfl, rfl⟩ ⟨(Nat.le_of_ble_eq_true rfl), (Nat.le_of_ble_eq_true rfl)⟩ rfl (Nat.le_of_ble_eq_true rfl) hl.1 ⟨Nat.zero_le _, Nat.zero_le _⟩ dX8_foresee_25 rfl (fun H locs hG => ?_)
  rw [show (wthF 0 0 1 : Int32) = 1 from rfl]
  refine lv_if_ne (tgt := 37) hx hb dX8_foresee_28 (by decide) (fun h28 => ?_) (fun h28 => absurd h28 (by decide))
  refine lv_aload_n hx hb dX8_foresee_37 rfl (lv_at hl 0 rfl) ?_
  refine gg_get F hG (ci := 8) (v := .ref (AD (6 + 1))) 9 gcX8 rfl (gR_model hn) (by decide) w4_88 rfl dX8_foresee_38 ?_
  refine lv_aload_n hx hb dX8_foresee_41 rfl (lv_at hl 0 rfl) ?_
  refine gg_get F hG (ci := 8) (v := .ref (AD (6 + 0))) 8 gcX8 rfl (gR_model hn) (by decide) w4_87 rfl dX8_foresee_42 ?_
  refine gg_callV F hG (ci := 7) (As := [.ref (AD (6 + 0))]) (rest := []) (c_X7_become Z l AD (mu M 1 0 0 0) _ hn 1 0 (by omega) (by omega)) kY_X7_become kV_X7_become (gR_state (by omega) hn) rfl rfl w5_48 rfl ⟨rfl, rfl⟩ ⟨(Nat.le_of_ble_eq_true rfl), (Nat.le_of_ble_eq_true rfl)⟩ rfl (Nat.le_of_ble_eq_true rfl) hl.1 ⟨Nat.zero_le _, Nat.zero_le _⟩ dX8_foresee_45 rfl (fun H locs hG => ?_)
  refine lv_aload_n hx hb dX8_foresee_48 rfl (lv_at hl 0 rfl) ?_
  refine gg_get F hG (ci := 8) (v := .ref (AD (6 + 1))) 9 gcX8 rfl (gR_model hn) (by decide) w4_88 rfl dX8_foresee_49 ?_
  refine lv_iload_n hx hb dX8_foresee_52 rfl (lv_at hl 1 rfl) ?_
  refine gg_callV F hG (ci := 7) (As := [.int (nI h)]) (rest := []) (c_X7_pass Z l AD (beR (mu M 1 0 0 0) 1 0) _ hn 1 ns nm h (by omega) hh hI) kY_X7_pass kV_X7_pass (gR_state (by omega) hn) rfl rfl w4_235 rfl ⟨rfl, rfl⟩ ⟨(Nat.le_of_ble_eq_true rfl), (Nat.le_of_ble_eq_true rfl)⟩ rfl (Nat.le_of_ble_eq_true rfl) hl.1 ⟨Nat.zero_le _, Nat.zero_le _⟩ dX8_foresee_53 rfl (fun H locs hG => ?_)
  refine lv_iload_n hx hb dX8_foresee_56 rfl (lv_at hl 2 rfl) ?_
  refine lv_if_ne (tgt := 78) hx hb dX8_foresee_57 (by decide) (fun h57 => absurd rfl h57) (fun h57 => ?_)
  refine lv_aload_n hx hb dX8_foresee_60 rfl (lv_at hl 0 rfl) ?_
  refine gg_get F hG (ci := 8) (v := .ref (AD (6 + 1))) 9 gcX8 rfl (gR_model hn) (by decide) w4_88 rfl dX8_foresee_61 ?_
  refine gg_getN F hG (ci := 7) (v := .int ((paR (beR (mu M 1 0 0 0) 1 0) 1 ns nm h) 10 1 0)) 2 gcX7 rfl (gR_state (by omega) hn) (by decide) wn_40 rfl dX8_foresee_64 ?_
  refine lv_aload_n hx hb dX8_foresee_67 rfl (lv_at hl 0 rfl) ?_
  refine gg_get F hG (ci := 8) (v := .ref (AD (6 + 0))) 8 gcX8 rfl (gR_model hn) (by decide) w4_87 rfl dX8_foresee_68 ?_
  refine gg_getN F hG (ci := 7) (v := .int ((paR (beR (mu M 1 0 0 0) 1 0) 1 ns nm h) 10 0 0)) 2 gcX7 rfl (gR_state (by omega) hn) (by decide) wn_40 rfl dX8_foresee_71 ?_
  refine lv_isub hx hb dX8_foresee_74 ?_
  refine lv_goto (tgt := 93) hx hb dX8_foresee_75 (by decide) ?_
  exact gg_iret F hG rfl rfl rfl dX8_foresee_93
set_option maxRecDepth 100000 in
set_option maxHeartbeats 4000000 in
theorem c_X8_foresee_1 (Z : gZ) (l : Launch) (AD : Nat → Nat) (M : St) (n : Nat) (hn : 16 ≤ n) (ns nm h : Nat) (hh : h ≤ 240) (h1 : 1 ≤ h) (hI : ∀ i, i < h → okR (paR (beR (mu M 1 0 0 0) 1 0) 1 ns nm i) 1 ns nm) : gM Z l yX8_foresee cX8_foresee 3 (some .int) ({ frames := 6, cells := 0, slots := 0, locals := 154 } : Room) [.ref (AD 0), .int (nI h), .int 1] (wR Z AD M n) (some (.int (frR M ns nm h 11 1 0 - frR M ns nm h 11 0 0))) (wR Z AD (frR M ns nm h) n) 0 0 := by
  refine gM_of (by decide +kernel) (Nat.le_of_ble_eq_true rfl) ?_
  intro pP eE sS mI aA bB mE cC A F hname hG ls hl
  have hx := F.1
  have hb := F.2.1
  have hl : lv_has ls 3 [(0, .ref (AD 0)), (1, .int (nI h)), (2, .int 1)] := hl
  refine lv_aload_n hx hb dX8_foresee_0 rfl (lv_at hl 0 rfl) ?_
  refine lv_iconst (v := 0) hx hb dX8_foresee_1 (by decide) ?_
  refine gg_put F hG (ci := 8) 0 gcX8 rfl (gR_model hn) (by decide) w4_75 rfl rfl rfl (Nat.le_of_ble_eq_true rfl) (pR_1) dX8_foresee_2 (fun H locs hG => ?_)
  have hG : gG Z A sS (wR Z AD (mu M 1 0 0 0) n) H locs := hG
  refine lv_iload_n hx hb dX8_foresee_5 rfl (lv_at hl 1 rfl) ?_
  refine lv_iconst (v := 1) hx hb dX8_foresee_6 (by decide) ?_
  refine lv_sipush (v := 240) hx hb dX8_foresee_7 (by decide) ?_
  refine gg_callS F hG (As := [.int (nI h), .int 1, .int 240]) (rest := []) (c_X8_isIn Z l (nI h) 1 240 _) kY_X8_isIn kV_X8_isIn w4_118 rfl ⟨rfl, rfl⟩ ⟨(Nat.le_of_ble_eq_true rfl), (Nat.le_of_ble_eq_true rfl)⟩ rfl (Nat.le_of_ble_eq_true rfl) hl.1 ⟨Nat.zero_le _, Nat.zero_le _⟩ dX8_foresee_10 rfl (fun H locs hG => ?_)
  rw [show (wthF (nI h) 1 240 : Int32) = 1 from wth_1 (nI_nlt (b := 1) h1 (by omega)) (nI_nlt (a := 240) hh (by decide))]
  refine lv_if_ne (tgt := 22) hx hb dX8_foresee_13 (by decide) (fun h13 => ?_) (fun h13 => absurd h13 (by decide))
  refine lv_iload_n hx hb dX8_foresee_22 rfl (lv_at hl 2 rfl) ?_
  refine lv_iconst (v := 0) hx hb dX8_foresee_23 (by decide) ?_
  refine lv_iconst (v := 1) hx hb dX8_foresee_24 (by decide) ?_
  refine gg_callS F hG (As := [.int 1, .int 0, .int 1]) (rest := []) (c_X8_isIn Z l 1 0 1 _) kY_X8_isIn kV_X8_isIn w4_118 rfl ⟨rfl, rfl⟩ ⟨(Nat.le_of_ble_eq_true rfl), (Nat.le_of_ble_eq_true rfl)⟩ rfl (Nat.le_of_ble_eq_true rfl) hl.1 ⟨Nat.zero_le _, Nat.zero_le _⟩ dX8_foresee_25 rfl (fun H locs hG => ?_)
  rw [show (wthF 1 0 1 : Int32) = 1 from rfl]
  refine lv_if_ne (tgt := 37) hx hb dX8_foresee_28 (by decide) (fun h28 => ?_) (fun h28 => absurd h28 (by decide))
  refine lv_aload_n hx hb dX8_foresee_37 rfl (lv_at hl 0 rfl) ?_
  refine gg_get F hG (ci := 8) (v := .ref (AD (6 + 1))) 9 gcX8 rfl (gR_model hn) (by decide) w4_88 rfl dX8_foresee_38 ?_
  refine lv_aload_n hx hb dX8_foresee_41 rfl (lv_at hl 0 rfl) ?_
  refine gg_get F hG (ci := 8) (v := .ref (AD (6 + 0))) 8 gcX8 rfl (gR_model hn) (by decide) w4_87 rfl dX8_foresee_42 ?_
  refine gg_callV F hG (ci := 7) (As := [.ref (AD (6 + 0))]) (rest := []) (c_X7_become Z l AD (mu M 1 0 0 0) _ hn 1 0 (by omega) (by omega)) kY_X7_become kV_X7_become (gR_state (by omega) hn) rfl rfl w5_48 rfl ⟨rfl, rfl⟩ ⟨(Nat.le_of_ble_eq_true rfl), (Nat.le_of_ble_eq_true rfl)⟩ rfl (Nat.le_of_ble_eq_true rfl) hl.1 ⟨Nat.zero_le _, Nat.zero_le _⟩ dX8_foresee_45 rfl (fun H locs hG => ?_)
  refine lv_aload_n hx hb dX8_foresee_48 rfl (lv_at hl 0 rfl) ?_
  refine gg_get F hG (ci := 8) (v := .ref (AD (6 + 1))) 9 gcX8 rfl (gR_model hn) (by decide) w4_88 rfl dX8_foresee_49 ?_
  refine lv_iload_n hx hb dX8_foresee_52 rfl (lv_at hl 1 rfl) ?_
  refine gg_callV F hG (ci := 7) (As := [.int (nI h)]) (rest := []) (c_X7_pass Z l AD (beR (mu M 1 0 0 0) 1 0) _ hn 1 ns nm h (by omega) hh hI) kY_X7_pass kV_X7_pass (gR_state (by omega) hn) rfl rfl w4_235 rfl ⟨rfl, rfl⟩ ⟨(Nat.le_of_ble_eq_true rfl), (Nat.le_of_ble_eq_true rfl)⟩ rfl (Nat.le_of_ble_eq_true rfl) hl.1 ⟨Nat.zero_le _, Nat.zero_le _⟩ dX8_foresee_53 rfl (fun H locs hG => ?_)
  refine lv_iload_n hx hb dX8_foresee_56 rfl (lv_at hl 2 rfl) ?_
  refine lv_if_ne (tgt := 78) hx hb dX8_foresee_57 (by decide) (fun h57 => ?_) (fun h57 => absurd h57 (by decide))
  refine lv_aload_n hx hb dX8_foresee_78 rfl (lv_at hl 0 rfl) ?_
  refine gg_get F hG (ci := 8) (v := .ref (AD (6 + 1))) 9 gcX8 rfl (gR_model hn) (by decide) w4_88 rfl dX8_foresee_79 ?_
  refine gg_getN F hG (ci := 7) (v := .int ((paR (beR (mu M 1 0 0 0) 1 0) 1 ns nm h) 11 1 0)) 3 gcX7 rfl (gR_state (by omega) hn) (by decide) wn_41 rfl dX8_foresee_82 ?_
  refine lv_aload_n hx hb dX8_foresee_85 rfl (lv_at hl 0 rfl) ?_
  refine gg_get F hG (ci := 8) (v := .ref (AD (6 + 0))) 8 gcX8 rfl (gR_model hn) (by decide) w4_87 rfl dX8_foresee_86 ?_
  refine gg_getN F hG (ci := 7) (v := .int ((paR (beR (mu M 1 0 0 0) 1 0) 1 ns nm h) 11 0 0)) 3 gcX7 rfl (gR_state (by omega) hn) (by decide) wn_41 rfl dX8_foresee_89 ?_
  refine lv_isub hx hb dX8_foresee_92 ?_
  exact gg_iret F hG rfl rfl rfl dX8_foresee_93
set_option maxRecDepth 100000 in
set_option maxHeartbeats 4000000 in
theorem c_X8_foresee_a (Z : gZ) (l : Launch) (AD : Nat → Nat) (M : St) (n : Nat) (hn : 16 ≤ n) (x y : Int32) (ho : x < 1 ∨ 240 < x) : gM Z l yX8_foresee cX8_foresee 3 (some .int) ({ frames := 1, cells := 0, slots := 0, locals := 22 } : Room) [.ref (AD 0), .int x, .int y] (wR Z AD M n) (some (.int 0)) (wR Z AD (mu (mu M 1 0 0 0) 1 0 0 1) n) 0 0 := by
  refine gM_of (by decide +kernel) (Nat.le_of_ble_eq_true rfl) ?_
  intro pP eE sS mI aA bB mE cC A F hname hG ls hl
  have hx := F.1
  have hb := F.2.1
  have hl : lv_has ls 3 [(0, .ref (AD 0)), (1, .int x), (2, .int y)] := hl
  refine lv_aload_n hx hb dX8_foresee_0 rfl (lv_at hl 0 rfl) ?_
  refine lv_iconst (v := 0) hx hb dX8_foresee_1 (by decide) ?_
  refine gg_put F hG (ci := 8) 0 gcX8 rfl (gR_model hn) (by decide) w4_75 rfl rfl rfl (Nat.le_of_ble_eq_true rfl) (pR_1) dX8_foresee_2 (fun H locs hG => ?_)
  have hG : gG Z A sS (wR Z AD (mu M 1 0 0 0) n) H locs := hG
  refine lv_iload_n hx hb dX8_foresee_5 rfl (lv_at hl 1 rfl) ?_
  refine lv_iconst (v := 1) hx hb dX8_foresee_6 (by decide) ?_
  refine lv_sipush (v := 240) hx hb dX8_foresee_7 (by decide) ?_
  refine gg_callS F hG (As := [.int x, .int 1, .int 240]) (rest := []) (c_X8_isIn Z l x 1 240 _) kY_X8_isIn kV_X8_isIn w4_118 rfl ⟨rfl, rfl⟩ ⟨(Nat.le_of_ble_eq_true rfl), (Nat.le_of_ble_eq_true rfl)⟩ rfl (Nat.le_of_ble_eq_true rfl) hl.1 ⟨Nat.zero_le _, Nat.zero_le _⟩ dX8_foresee_10 rfl (fun H locs hG => ?_)
  rw [show (wthF x 1 240 : Int32) = 0 from wth_0 ho]
  refine lv_if_ne (tgt := 22) hx hb dX8_foresee_13 (by decide) (fun h13 => absurd rfl h13) (fun h13 => ?_)
  refine lv_aload_n hx hb dX8_foresee_16 rfl (lv_at hl 0 rfl) ?_
  refine lv_iconst (v := 1) hx hb dX8_foresee_17 (by decide) ?_
  refine gg_callV F hG (ci := 8) (As := [.int 1]) (rest := []) (c_X8_no Z l AD (mu M 1 0 0 0) _ hn 1) kY_X8_no kV_X8_no (gR_model hn) rfl rfl w4_121 rfl ⟨rfl, rfl⟩ ⟨(Nat.le_of_ble_eq_true rfl), (Nat.le_of_ble_eq_true rfl)⟩ rfl (Nat.le_of_ble_eq_true rfl) hl.1 ⟨Nat.zero_le _, Nat.zero_le _⟩ dX8_foresee_18 rfl (fun H locs hG => ?_)
  exact gg_iret F hG rfl rfl rfl dX8_foresee_21
set_option maxRecDepth 100000 in
set_option maxHeartbeats 4000000 in
theorem c_X8_foresee_w (Z : gZ) (l : Launch) (AD : Nat → Nat) (M : St) (n : Nat) (hn : 16 ≤ n) (h : Nat) (hh : h ≤ 240) (h1 : 1 ≤ h) (y : Int32) (hyo : wthF y 0 1 = 0) : gM Z l yX8_foresee cX8_foresee 3 (some .int) ({ frames := 1, cells := 0, slots := 0, locals := 22 } : Room) [.ref (AD 0), .int (nI h), .int y] (wR Z AD M n) (some (.int 0)) (wR Z AD (mu (mu M 1 0 0 0) 1 0 0 2) n) 0 0 := by
  refine gM_of (by decide +kernel) (Nat.le_of_ble_eq_true rfl) ?_
  intro pP eE sS mI aA bB mE cC A F hname hG ls hl
  have hx := F.1
  have hb := F.2.1
  have hl : lv_has ls 3 [(0, .ref (AD 0)), (1, .int (nI h)), (2, .int y)] := hl
  refine lv_aload_n hx hb dX8_foresee_0 rfl (lv_at hl 0 rfl) ?_
  refine lv_iconst (v := 0) hx hb dX8_foresee_1 (by decide) ?_
  refine gg_put F hG (ci := 8) 0 gcX8 rfl (gR_model hn) (by decide) w4_75 rfl rfl rfl (Nat.le_of_ble_eq_true rfl) (pR_1) dX8_foresee_2 (fun H locs hG => ?_)
  have hG : gG Z A sS (wR Z AD (mu M 1 0 0 0) n) H locs := hG
  refine lv_iload_n hx hb dX8_foresee_5 rfl (lv_at hl 1 rfl) ?_
  refine lv_iconst (v := 1) hx hb dX8_foresee_6 (by decide) ?_
  refine lv_sipush (v := 240) hx hb dX8_foresee_7 (by decide) ?_
  refine gg_callS F hG (As := [.int (nI h), .int 1, .int 240]) (rest := []) (c_X8_isIn Z l (nI h) 1 240 _) kY_X8_isIn kV_X8_isIn w4_118 rfl ⟨rfl, rfl⟩ ⟨(Nat.le_of_ble_eq_true rfl), (Nat.le_of_ble_eq_true rfl)⟩ rfl (Nat.le_of_ble_eq_true rfl) hl.1 ⟨Nat.zero_le _, Nat.zero_le _⟩ dX8_foresee_10 rfl (fun H locs hG => ?_)
  rw [show (wthF (nI h) 1 240 : Int32) = 1 from wth_1 (nI_nlt (b := 1) h1 (by omega)) (nI_nlt (a := 240) hh (by decide))]
  refine lv_if_ne (tgt := 22) hx hb dX8_foresee_13 (by decide) (fun h13 => ?_) (fun h13 => absurd h13 (by decide))
  refine lv_iload_n hx hb dX8_foresee_22 rfl (lv_at hl 2 rfl) ?_
  refine lv_iconst (v := 0) hx hb dX8_foresee_23 (by decide) ?_
  refine lv_iconst (v := 1) hx hb dX8_foresee_24 (by decide) ?_
  refine gg_callS F hG (As := [.int y, .int 0, .int 1]) (rest := []) (c_X8_isIn Z l y 0 1 _) kY_X8_isIn kV_X8_isIn w4_118 rfl ⟨rfl, rfl⟩ ⟨(Nat.le_of_ble_eq_true rfl), (Nat.le_of_ble_eq_true rfl)⟩ rfl (Nat.le_of_ble_eq_true rfl) hl.1 ⟨Nat.zero_le _, Nat.zero_le _⟩ dX8_foresee_25 rfl (fun H locs hG => ?_)
  rw [show (wthF y 0 1 : Int32) = 0 from hyo]
  refine lv_if_ne (tgt := 37) hx hb dX8_foresee_28 (by decide) (fun h28 => absurd rfl h28) (fun h28 => ?_)
  refine lv_aload_n hx hb dX8_foresee_31 rfl (lv_at hl 0 rfl) ?_
  refine lv_iconst (v := 2) hx hb dX8_foresee_32 (by decide) ?_
  refine gg_callV F hG (ci := 8) (As := [.int 2]) (rest := []) (c_X8_no Z l AD (mu M 1 0 0 0) _ hn 2) kY_X8_no kV_X8_no (gR_model hn) rfl rfl w4_121 rfl ⟨rfl, rfl⟩ ⟨(Nat.le_of_ble_eq_true rfl), (Nat.le_of_ble_eq_true rfl)⟩ rfl (Nat.le_of_ble_eq_true rfl) hl.1 ⟨Nat.zero_le _, Nat.zero_le _⟩ dX8_foresee_33 rfl (fun H locs hG => ?_)
  exact gg_iret F hG rfl rfl rfl dX8_foresee_36
set_option maxRecDepth 100000 in
set_option maxHeartbeats 4000000 in
theorem c_X8_digest (Z : gZ) (l : Launch) (AD : Nat → Nat) (M : St) (n : Nat) (hn : 16 ≤ n) (ns nm : Nat) (hN : okN M ns nm) (hX : okX M 0 nm) (hY : okY M 0) : gM Z l yX8_digest cX8_digest 5 (some .long) ({ frames := 3, cells := 0, slots := 0, locals := 70 } : Room) [.ref (AD 0)] (wR Z AD M n) (some (.long (dgR (mu M 1 0 0 0) ns nm))) (wR Z AD (mu M 1 0 0 0) n) 0 0 := by
  refine gM_of (by decide +kernel) (Nat.le_of_ble_eq_true rfl) ?_
  intro pP eE sS mI aA bB mE cC A F hname hG ls hl
  have hx := F.1
  have hb := F.2.1
  have hl : lv_has ls 5 [(0, .ref (AD 0))] := hl
  have hns2 := hN.2.1
  have hnm2 := hN.2.2.2.1
  have hY2 := hY.2.1
  refine lv_aload_n hx hb dX8_digest_0 rfl (lv_at hl 0 rfl) ?_
  refine lv_iconst (v := 0) hx hb dX8_digest_1 (by decide) ?_
  refine gg_put F hG (ci := 8) 0 gcX8 rfl (gR_model hn) (by decide) w4_75 rfl rfl rfl (Nat.le_of_ble_eq_true rfl) (pR_1) dX8_digest_2 (fun H locs hG => ?_)
  have hG : gG Z A sS (wR Z AD (mu M 1 0 0 0) n) H locs := hG
  refine lv_ldc2 hx hb F.2.2.2.1 (F.2.2.2.2.1 _ w5_65) dX8_digest_5 ?_
  refine lv_lstore_n (lv' := [(1, .long 701), (0, .ref (AD 0))]) hx hb dX8_digest_8 rfl hl (by decide) rfl (fun ls hl => ?_)
  refine lv_iconst (v := nI 0) hx hb dX8_digest_9 rfl ?_
  refine lv_istore_n (lv' := [(3, .int (nI 0)), (1, .long 701), (0, .ref (AD 0))]) hx hb dX8_digest_10 rfl hl (by decide) rfl (fun ls hl => ?_)
  have loop11 : ∀ (fuQ v : Nat), v ≤ 8 → 8 + 1 ≤ v + fuQ → ∀ (H : Heap) (locs : List Loc), gG Z A sS (wR Z AD (mu M 1 0 0 0) n) H locs → ∀ ls : Array Slot, lv_has ls 5 [(0, .ref (AD 0)), (1, .long (dgN (tcR (mu M 1 0 0 0) ns nm) 701 v)), (3, .int (nI v))] → W pP l eE ({ frames := 3, cells := 0, slots := 0, locals := 70 } : Room) sS mI aA bB mE cC H locs 0 0 (MQ bB (gQ Z A (some (.long (dgR (mu M 1 0 0 0) ns nm))) (wR Z AD (mu M 1 0 0 0) n)) aA sS 0 0 A) (F0 mI 11 ls []) := by
    intro fuQ
    induction fuQ with
    | zero =>
      intro v h1 h2
      exact absurd h2 (by omega)
    | succ fuQ ih11 =>
      intro v hleQ hfuQ H locs hG ls hl
      by_cases hltv : v < 8
      · refine lv_iload_n hx hb dX8_digest_11 rfl (lv_at hl 2 rfl) ?_
        refine lv_bipush (v := 8) hx hb dX8_digest_12 (by decide) ?_
        refine lv_icmp_ge (tgt := 36) hx hb dX8_digest_14 (by decide) (fun h14 => absurd h14 (show ¬ (8 : Int32) ≤ nI v from nI_ge (b := 8) hltv (by decide))) (fun h14 => ?_)
        refine lv_lload_n hx hb dX8_digest_17 rfl (lv_at hl 1 rfl) ?_
        refine lv_ldc2 hx hb F.2.2.2.1 (F.2.2.2.2.1 _ w5_66) dX8_digest_18 ?_
        refine lv_lmul hx hb dX8_digest_21 ?_
        refine lv_aload_n hx hb dX8_digest_22 rfl (lv_at hl 0 rfl) ?_
        refine lv_iload_n hx hb dX8_digest_23 rfl (lv_at hl 2 rfl) ?_
        refine gg_callV F hG (ci := 8) (As := [.int (nI v)]) (rest := [.long ((dgN (tcR (mu M 1 0 0 0) ns nm) 701 v) * 31)]) (c_X8_counted Z l AD (mu M 1 0 0 0) _ hn ns nm hN v hltv) kY_X8_counted kV_X8_counted (gR_model hn) rfl rfl w5_19 rfl ⟨rfl, rfl⟩ ⟨(Nat.le_of_ble_eq_true rfl), (Nat.le_of_ble_eq_true rfl)⟩ rfl (Nat.le_of_ble_eq_true rfl) hl.1 ⟨Nat.zero_le _, Nat.zero_le _⟩ dX8_digest_24 rfl (fun H locs hG => ?_)
        refine lv_i2l hx hb dX8_digest_27 rfl ?_
        refine lv_ladd hx hb dX8_digest_28 ?_
        refine lv_lstore_n (lv' := [(1, .long (((dgN (tcR (mu M 1 0 0 0) ns nm) 701 v) * 31) + ((tcR (mu M 1 0 0 0) ns nm v).toInt64))), (0, .ref (AD 0)), (3, .int (nI v))]) hx hb dX8_digest_29 rfl hl (by decide) rfl (fun ls hl => ?_)
        refine lv_iinc (v := nI (v + 1)) (lv' := [(3, .int (nI (v + 1))), (1, .long (((dgN (tcR (mu M 1 0 0 0) ns nm) 701 v) * 31) + ((tcR (mu M 1 0 0 0) ns nm v).toInt64))), (0, .ref (AD 0))]) hx hb dX8_digest_30 hl (k := 2) rfl (nI_1 _) (by decide) rfl (fun ls hl => ?_)
        refine lv_goto (tgt := 11) hx hb dX8_digest_33 (by decide) ?_
        exact ih11 (v + 1) (by omega) (by omega) _ _ hG ls (lv_sub hl [2, 1, 0] rfl)
      · have hN : 8 = v := by omega
        subst hN
        refine lv_iload_n hx hb dX8_digest_11 rfl (lv_at hl 2 rfl) ?_
        refine lv_bipush (v := 8) hx hb dX8_digest_12 (by decide) ?_
        refine lv_icmp_ge (tgt := 36) hx hb dX8_digest_14 (by decide) (fun h14 => ?_) (fun h14 => absurd (show (8 : Int32) ≤ nI 8 by decide) h14)
        refine lv_iconst (v := nI 0) hx hb dX8_digest_36 rfl ?_
        refine lv_istore_n (lv' := [(3, .int (nI 0)), (0, .ref (AD 0)), (1, .long (dgN (tcR (mu M 1 0 0 0) ns nm) 701 8))]) hx hb dX8_digest_37 rfl hl (by decide) rfl (fun ls hl => ?_)
        have loop38 : ∀ (fuQ k : Nat), k ≤ ns → ns + 1 ≤ k + fuQ → ∀ (H : Heap) (locs : List Loc), gG Z A sS (wR Z AD (mu M 1 0 0 0) n) H locs → ∀ ls : Array Slot, lv_has ls 5 [(0, .ref (AD 0)), (1, .long (dsR (mu M 1 0 0 0) ns nm (dgN (tcR (mu M 1 0 0 0) ns nm) 701 8) k)), (3, .int (nI k))] → W pP l eE ({ frames := 3, cells := 0, slots := 0, locals := 70 } : Room) sS mI aA bB mE cC H locs 0 0 (MQ bB (gQ Z A (some (.long (dgR (mu M 1 0 0 0) ns nm))) (wR Z AD (mu M 1 0 0 0) n)) aA sS 0 0 A) (F0 mI 38 ls []) := by
          intro fuQ
          induction fuQ with
          | zero =>
            intro k h1 h2
            exact absurd h2 (by omega)
          | succ fuQ ih38 =>
            intro k hleQ hfuQ H locs hG ls hl
            by_cases hltk : k < ns
            · refine lv_iload_n hx hb dX8_digest_38 rfl (lv_at hl 2 rfl) ?_
              refine lv_aload_n hx hb dX8_digest_39 rfl (lv_at hl 0 rfl) ?_
              refine gg_get F hG (ci := 8) (v := .int (nI ns)) 1 gcX8 rfl (gR_model hn) (by decide) w4_76 (congrArg (fun z => some (Value.int z)) hN.1) dX8_digest_40 ?_
              refine lv_icmp_ge (tgt := 83) hx hb dX8_digest_43 (by decide) (fun h43 => absurd h43 (nI_ge hltk (by omega))) (fun h43 => ?_)
              refine lv_iconst (v := nI 0) hx hb dX8_digest_46 rfl ?_
              refine lv_istore (lv' := [(4, .int (nI 0)), (0, .ref (AD 0)), (1, .long (dsR (mu M 1 0 0 0) ns nm (dgN (tcR (mu M 1 0 0 0) ns nm) 701 8) k)), (3, .int (nI k))]) hx hb dX8_digest_47 hl (by decide) rfl (fun ls hl => ?_)
              have loop49 : ∀ (fuQ v : Nat), v ≤ 6 → 6 + 1 ≤ v + fuQ → ∀ (H : Heap) (locs : List Loc), gG Z A sS (wR Z AD (mu M 1 0 0 0) n) H locs → ∀ ls : Array Slot, lv_has ls 5 [(0, .ref (AD 0)), (1, .long (dgN (tsR (mu M 1 0 0 0) ns nm k) (dsR (mu M 1 0 0 0) ns nm (dgN (tcR (mu M 1 0 0 0) ns nm) 701 8) k) v)), (3, .int (nI k)), (4, .int (nI v))] → W pP l eE ({ frames := 3, cells := 0, slots := 0, locals := 70 } : Room) sS mI aA bB mE cC H locs 0 0 (MQ bB (gQ Z A (some (.long (dgR (mu M 1 0 0 0) ns nm))) (wR Z AD (mu M 1 0 0 0) n)) aA sS 0 0 A) (F0 mI 49 ls []) := by
                intro fuQ
                induction fuQ with
                | zero =>
                  intro v h1 h2
                  exact absurd h2 (by omega)
                | succ fuQ ih49 =>
                  intro v hleQ hfuQ H locs hG ls hl
                  by_cases hltv : v < 6
                  · refine lv_iload hx hb dX8_digest_49 (lv_at hl 3 rfl) ?_
                    refine lv_bipush (v := 6) hx hb dX8_digest_51 (by decide) ?_
                    refine lv_icmp_ge (tgt := 77) hx hb dX8_digest_53 (by decide) (fun h53 => absurd h53 (show ¬ (6 : Int32) ≤ nI v from nI_ge (b := 6) hltv (by decide))) (fun h53 => ?_)
                    refine lv_lload_n hx hb dX8_digest_56 rfl (lv_at hl 1 rfl) ?_
                    refine lv_ldc2 hx hb F.2.2.2.1 (F.2.2.2.2.1 _ w5_66) dX8_digest_57 ?_
                    refine lv_lmul hx hb dX8_digest_60 ?_
                    refine lv_aload_n hx hb dX8_digest_61 rfl (lv_at hl 0 rfl) ?_
                    refine lv_iload_n hx hb dX8_digest_62 rfl (lv_at hl 2 rfl) ?_
                    refine lv_iload hx hb dX8_digest_63 (lv_at hl 3 rfl) ?_
                    refine gg_callV F hG (ci := 8) (As := [.int (nI k), .int (nI v)]) (rest := [.long ((dgN (tsR (mu M 1 0 0 0) ns nm k) (dsR (mu M 1 0 0 0) ns nm (dgN (tcR (mu M 1 0 0 0) ns nm) 701 8) k) v) * 31)]) (c_X8_stationTold Z l AD (mu M 1 0 0 0) _ hn ns nm k hN hX hltk v hltv) kY_X8_stationTold kV_X8_stationTold (gR_model hn) rfl rfl w4_160 rfl ⟨rfl, rfl⟩ ⟨(Nat.le_of_ble_eq_true rfl), (Nat.le_of_ble_eq_true rfl)⟩ rfl (Nat.le_of_ble_eq_true rfl) hl.1 ⟨Nat.zero_le _, Nat.zero_le _⟩ dX8_digest_65 rfl (fun H locs hG => ?_)
                    refine lv_i2l hx hb dX8_digest_68 rfl ?_
                    refine lv_ladd hx hb dX8_digest_69 ?_
                    refine lv_lstore_n (lv' := [(1, .long (((dgN (tsR (mu M 1 0 0 0) ns nm k) (dsR (mu M 1 0 0 0) ns nm (dgN (tcR (mu M 1 0 0 0) ns nm) 701 8) k) v) * 31) + ((tsR (mu M 1 0 0 0) ns nm k v).toInt64))), (0, .ref (AD 0)), (3, .int (nI k)), (4, .int (nI v))]) hx hb dX8_digest_70 rfl hl (by decide) rfl (fun ls hl => ?_)
                    refine lv_iinc (v := nI (v + 1)) (lv' := [(4, .int (nI (v + 1))), (1, .long (((dgN (tsR (mu M 1 0 0 0) ns nm k) (dsR (mu M 1 0 0 0) ns nm (dgN (tcR (mu M 1 0 0 0) ns nm) 701 8) k) v) * 31) + ((tsR (mu M 1 0 0 0) ns nm k v).toInt64))), (0, .ref (AD 0)), (3, .int (nI k))]) hx hb dX8_digest_71 hl (k := 3) rfl (nI_1 _) (by decide) rfl (fun ls hl => ?_)
                    refine lv_goto (tgt := 49) hx hb dX8_digest_74 (by decide) ?_
                    exact ih49 (v + 1) (by omega) (by omega) _ _ hG ls (lv_sub hl [2, 1, 3, 0] rfl)
                  · have hN : 6 = v := by omega
                    subst hN
                    refine lv_iload hx hb dX8_digest_49 (lv_at hl 3 rfl) ?_
                    refine lv_bipush (v := 6) hx hb dX8_digest_51 (by decide) ?_
                    refine lv_icmp_ge (tgt := 77) hx hb dX8_digest_53 (by decide) (fun h53 => ?_) (fun h53 => absurd (show (6 : Int32) ≤ nI 6 by decide) h53)
                    refine lv_iinc (v := nI (k + 1)) (lv' := [(3, .int (nI (k + 1))), (0, .ref (AD 0)), (1, .long (dgN (tsR (mu M 1 0 0 0) ns nm k) (dsR (mu M 1 0 0 0) ns nm (dgN (tcR (mu M 1 0 0 0) ns nm) 701 8) k) 6)), (4, .int (nI 6))]) hx hb dX8_digest_77 hl (k := 2) rfl (nI_1 _) (by decide) rfl (fun ls hl => ?_)
                    refine lv_goto (tgt := 38) hx hb dX8_digest_80 (by decide) ?_
                    exact ih38 (k + 1) (by omega) (by omega) _ _ hG ls (lv_sub hl [1, 2, 0] rfl)
              exact loop49 (6 + 1) 0 (Nat.zero_le _) (by omega) _ _ hG ls (lv_sub hl [1, 2, 3, 0] rfl)
            · have hN : ns = k := by omega
              subst hN
              refine lv_iload_n hx hb dX8_digest_38 rfl (lv_at hl 2 rfl) ?_
              refine lv_aload_n hx hb dX8_digest_39 rfl (lv_at hl 0 rfl) ?_
              refine gg_get F hG (ci := 8) (v := .int (nI ns)) 1 gcX8 rfl (gR_model hn) (by decide) w4_76 (congrArg (fun z => some (Value.int z)) hN.1) dX8_digest_40 ?_
              refine lv_icmp_ge (tgt := 83) hx hb dX8_digest_43 (by decide) (fun h43 => ?_) (fun h43 => absurd (nI_le (Nat.le_refl _) (by omega)) h43)
              refine lv_iconst (v := nI 0) hx hb dX8_digest_83 rfl ?_
              refine lv_istore_n (lv' := [(3, .int (nI 0)), (0, .ref (AD 0)), (1, .long (dsR (mu M 1 0 0 0) ns nm (dgN (tcR (mu M 1 0 0 0) ns nm) 701 8) ns))]) hx hb dX8_digest_84 rfl hl (by decide) rfl (fun ls hl => ?_)
              have loop85 : ∀ (fuQ i : Nat), i ≤ nm → nm + 1 ≤ i + fuQ → ∀ (H : Heap) (locs : List Loc), gG Z A sS (wR Z AD (mu M 1 0 0 0) n) H locs → ∀ ls : Array Slot, lv_has ls 5 [(0, .ref (AD 0)), (1, .long (dmR (mu M 1 0 0 0) ns (dsR (mu M 1 0 0 0) ns nm (dgN (tcR (mu M 1 0 0 0) ns nm) 701 8) ns) i)), (3, .int (nI i))] → W pP l eE ({ frames := 3, cells := 0, slots := 0, locals := 70 } : Room) sS mI aA bB mE cC H locs 0 0 (MQ bB (gQ Z A (some (.long (dgR (mu M 1 0 0 0) ns nm))) (wR Z AD (mu M 1 0 0 0) n)) aA sS 0 0 A) (F0 mI 85 ls []) := by
                intro fuQ
                induction fuQ with
                | zero =>
                  intro i h1 h2
                  exact absurd h2 (by omega)
                | succ fuQ ih85 =>
                  intro i hleQ hfuQ H locs hG ls hl
                  by_cases hlti : i < nm
                  · refine lv_iload_n hx hb dX8_digest_85 rfl (lv_at hl 2 rfl) ?_
                    refine lv_aload_n hx hb dX8_digest_86 rfl (lv_at hl 0 rfl) ?_
                    refine gg_get F hG (ci := 8) (v := .int (nI nm)) 2 gcX8 rfl (gR_model hn) (by decide) w4_78 (congrArg (fun z => some (Value.int z)) hN.2.2.1) dX8_digest_87 ?_
                    refine lv_icmp_ge (tgt := 179) hx hb dX8_digest_90 (by decide) (fun h90 => absurd h90 (nI_ge hlti (by omega))) (fun h90 => ?_)
                    refine lv_iconst (v := nI 0) hx hb dX8_digest_93 rfl ?_
                    refine lv_istore (lv' := [(4, .int (nI 0)), (0, .ref (AD 0)), (1, .long (dmR (mu M 1 0 0 0) ns (dsR (mu M 1 0 0 0) ns nm (dgN (tcR (mu M 1 0 0 0) ns nm) 701 8) ns) i)), (3, .int (nI i))]) hx hb dX8_digest_94 hl (by decide) rfl (fun ls hl => ?_)
                    have loop96 : ∀ (fuQ v : Nat), v ≤ 10 → 10 + 1 ≤ v + fuQ → ∀ (H : Heap) (locs : List Loc), gG Z A sS (wR Z AD (mu M 1 0 0 0) n) H locs → ∀ ls : Array Slot, lv_has ls 5 [(0, .ref (AD 0)), (1, .long (dgN (tmR (mu M 1 0 0 0) ns i) (dmR (mu M 1 0 0 0) ns (dsR (mu M 1 0 0 0) ns nm (dgN (tcR (mu M 1 0 0 0) ns nm) 701 8) ns) i) v)), (3, .int (nI i)), (4, .int (nI v))] → W pP l eE ({ frames := 3, cells := 0, slots := 0, locals := 70 } : Room) sS mI aA bB mE cC H locs 0 0 (MQ bB (gQ Z A (some (.long (dgR (mu M 1 0 0 0) ns nm))) (wR Z AD (mu M 1 0 0 0) n)) aA sS 0 0 A) (F0 mI 96 ls []) := by
                      intro fuQ
                      induction fuQ with
                      | zero =>
                        intro v h1 h2
                        exact absurd h2 (by omega)
                      | succ fuQ ih96 =>
                        intro v hleQ hfuQ H locs hG ls hl
                        by_cases hltv : v < 10
                        · refine lv_iload hx hb dX8_digest_96 (lv_at hl 3 rfl) ?_
                          refine lv_bipush (v := 10) hx hb dX8_digest_98 (by decide) ?_
                          refine lv_icmp_ge (tgt := 124) hx hb dX8_digest_100 (by decide) (fun h100 => absurd h100 (show ¬ (10 : Int32) ≤ nI v from nI_ge (b := 10) hltv (by decide))) (fun h100 => ?_)
                          refine lv_lload_n hx hb dX8_digest_103 rfl (lv_at hl 1 rfl) ?_
                          refine lv_ldc2 hx hb F.2.2.2.1 (F.2.2.2.2.1 _ w5_66) dX8_digest_104 ?_
                          refine lv_lmul hx hb dX8_digest_107 ?_
                          refine lv_aload_n hx hb dX8_digest_108 rfl (lv_at hl 0 rfl) ?_
                          refine lv_iload_n hx hb dX8_digest_109 rfl (lv_at hl 2 rfl) ?_
                          refine lv_iload hx hb dX8_digest_110 (lv_at hl 3 rfl) ?_
                          refine gg_callV F hG (ci := 8) (As := [.int (nI i), .int (nI v)]) (rest := [.long ((dgN (tmR (mu M 1 0 0 0) ns i) (dmR (mu M 1 0 0 0) ns (dsR (mu M 1 0 0 0) ns nm (dgN (tcR (mu M 1 0 0 0) ns nm) 701 8) ns) i) v) * 31)]) (c_X8_memberTold Z l AD (mu M 1 0 0 0) _ hn ns nm i hN hX hlti v hltv) kY_X8_memberTold kV_X8_memberTold (gR_model hn) rfl rfl w4_187 rfl ⟨rfl, rfl⟩ ⟨(Nat.le_of_ble_eq_true rfl), (Nat.le_of_ble_eq_true rfl)⟩ rfl (Nat.le_of_ble_eq_true rfl) hl.1 ⟨Nat.zero_le _, Nat.zero_le _⟩ dX8_digest_112 rfl (fun H locs hG => ?_)
                          refine lv_i2l hx hb dX8_digest_115 rfl ?_
                          refine lv_ladd hx hb dX8_digest_116 ?_
                          refine lv_lstore_n (lv' := [(1, .long (((dgN (tmR (mu M 1 0 0 0) ns i) (dmR (mu M 1 0 0 0) ns (dsR (mu M 1 0 0 0) ns nm (dgN (tcR (mu M 1 0 0 0) ns nm) 701 8) ns) i) v) * 31) + ((tmR (mu M 1 0 0 0) ns i v).toInt64))), (0, .ref (AD 0)), (3, .int (nI i)), (4, .int (nI v))]) hx hb dX8_digest_117 rfl hl (by decide) rfl (fun ls hl => ?_)
                          refine lv_iinc (v := nI (v + 1)) (lv' := [(4, .int (nI (v + 1))), (1, .long (((dgN (tmR (mu M 1 0 0 0) ns i) (dmR (mu M 1 0 0 0) ns (dsR (mu M 1 0 0 0) ns nm (dgN (tcR (mu M 1 0 0 0) ns nm) 701 8) ns) i) v) * 31) + ((tmR (mu M 1 0 0 0) ns i v).toInt64))), (0, .ref (AD 0)), (3, .int (nI i))]) hx hb dX8_digest_118 hl (k := 3) rfl (nI_1 _) (by decide) rfl (fun ls hl => ?_)
                          refine lv_goto (tgt := 96) hx hb dX8_digest_121 (by decide) ?_
                          exact ih96 (v + 1) (by omega) (by omega) _ _ hG ls (lv_sub hl [2, 1, 3, 0] rfl)
                        · have hN : 10 = v := by omega
                          subst hN
                          refine lv_iload hx hb dX8_digest_96 (lv_at hl 3 rfl) ?_
                          refine lv_bipush (v := 10) hx hb dX8_digest_98 (by decide) ?_
                          refine lv_icmp_ge (tgt := 124) hx hb dX8_digest_100 (by decide) (fun h100 => ?_) (fun h100 => absurd (show (10 : Int32) ≤ nI 10 by decide) h100)
                          refine lv_iconst (v := nI 0) hx hb dX8_digest_124 rfl ?_
                          refine lv_istore (lv' := [(4, .int (nI 0)), (0, .ref (AD 0)), (1, .long (dgN (tmR (mu M 1 0 0 0) ns i) (dmR (mu M 1 0 0 0) ns (dsR (mu M 1 0 0 0) ns nm (dgN (tcR (mu M 1 0 0 0) ns nm) 701 8) ns) i) 10)), (3, .int (nI i))]) hx hb dX8_digest_125 hl (by decide) rfl (fun ls hl => ?_)
                          have loop127 : ∀ (fuQ u : Nat), u ≤ (4 * szR M 0 i) → (4 * szR M 0 i) + 1 ≤ u + fuQ → ∀ (H : Heap) (locs : List Loc), gG Z A sS (wR Z AD (mu M 1 0 0 0) n) H locs → ∀ ls : Array Slot, lv_has ls 5 [(0, .ref (AD 0)), (1, .long (dgN (fun k => (mu M 1 0 0 0) 14 0 (160 * i + k)) (dgN (tmR (mu M 1 0 0 0) ns i) (dmR (mu M 1 0 0 0) ns (dsR (mu M 1 0 0 0) ns nm (dgN (tcR (mu M 1 0 0 0) ns nm) 701 8) ns) i) 10) u)), (3, .int (nI i)), (4, .int (nI u))] → W pP l eE ({ frames := 3, cells := 0, slots := 0, locals := 70 } : Room) sS mI aA bB mE cC H locs 0 0 (MQ bB (gQ Z A (some (.long (dgR (mu M 1 0 0 0) ns nm))) (wR Z AD (mu M 1 0 0 0) n)) aA sS 0 0 A) (F0 mI 127 ls []) := by
                            intro fuQ
                            induction fuQ with
                            | zero =>
                              intro u h1 h2
                              exact absurd h2 (by omega)
                            | succ fuQ ih127 =>
                              intro u hleQ hfuQ H locs hG ls hl
                              by_cases hltu : u < (4 * szR M 0 i)
                              · have hXi2 := (hX i hlti).2
                                refine lv_iload hx hb dX8_digest_127 (lv_at hl 3 rfl) ?_
                                refine lv_iconst (v := 4) hx hb dX8_digest_129 (by decide) ?_
                                refine lv_aload_n hx hb dX8_digest_130 rfl (lv_at hl 0 rfl) ?_
                                refine gg_get F hG (ci := 8) (v := .ref (AD (6 + 0))) 8 gcX8 rfl (gR_model hn) (by decide) w4_87 rfl dX8_digest_131 ?_
                                refine gg_getN F hG (ci := 7) (v := .ref (AD (10 + 0))) 5 gcX7 rfl (gR_state (by omega) hn) (by decide) wn_43 rfl dX8_digest_134 ?_
                                refine lv_iload_n hx hb dX8_digest_137 rfl (lv_at hl 2 rfl) ?_
                                refine gg_ialdN F hG i (gR_lines (by omega) hn) rfl (by omega) (by omega) dX8_digest_138 ?_
                                rw [show (mu M 1 0 0 0) 13 0 i = nI (szR M 0 i) from (hX i hlti).1]
                                refine lv_imul hx hb dX8_digest_139 ?_
                                rw [show (4 * (nI (szR M 0 i)) : Int32) = nI (4 * szR M 0 i) from pk_mul 4 _]
                                refine lv_icmp_ge (tgt := 173) hx hb dX8_digest_140 (by decide) (fun h140 => absurd h140 (nI_ge hltu (by omega))) (fun h140 => ?_)
                                refine lv_lload_n hx hb dX8_digest_143 rfl (lv_at hl 1 rfl) ?_
                                refine lv_ldc2 hx hb F.2.2.2.1 (F.2.2.2.2.1 _ w5_66) dX8_digest_144 ?_
                                refine lv_lmul hx hb dX8_digest_147 ?_
                                refine lv_aload_n hx hb dX8_digest_148 rfl (lv_at hl 0 rfl) ?_
                                refine gg_get F hG (ci := 8) (v := .ref (AD (6 + 0))) 8 gcX8 rfl (gR_model hn) (by decide) w4_87 rfl dX8_digest_149 ?_
                                refine gg_getN F hG (ci := 7) (v := .ref (AD (12 + 0))) 6 gcX7 rfl (gR_state (by omega) hn) (by decide) wn_44 rfl dX8_digest_152 ?_
                                refine lv_sipush (v := 160) hx hb dX8_digest_155 (by decide) ?_
                                refine lv_iload_n hx hb dX8_digest_158 rfl (lv_at hl 2 rfl) ?_
                                refine lv_imul hx hb dX8_digest_159 ?_
                                rw [show (160 * (nI i) : Int32) = nI (160 * i) from pk_mul 160 i]
                                refine lv_iload hx hb dX8_digest_160 (lv_at hl 3 rfl) ?_
                                refine lv_iadd hx hb dX8_digest_162 ?_
                                rw [show ((nI (160 * i)) + (nI u) : Int32) = nI (160 * i + u) from nI_add _ _]
                                refine gg_ialdN F hG (160 * i + u) (gR_log (by omega) hn) rfl (by have := (hX i hlti).2; omega) (by omega) dX8_digest_163 ?_
                                refine lv_i2l hx hb dX8_digest_164 rfl ?_
                                refine lv_ladd hx hb dX8_digest_165 ?_
                                refine lv_lstore_n (lv' := [(1, .long (((dgN (fun k => (mu M 1 0 0 0) 14 0 (160 * i + k)) (dgN (tmR (mu M 1 0 0 0) ns i) (dmR (mu M 1 0 0 0) ns (dsR (mu M 1 0 0 0) ns nm (dgN (tcR (mu M 1 0 0 0) ns nm) 701 8) ns) i) 10) u) * 31) + (((mu M 1 0 0 0) 14 0 (160 * i + u)).toInt64))), (0, .ref (AD 0)), (3, .int (nI i)), (4, .int (nI u))]) hx hb dX8_digest_166 rfl hl (by decide) rfl (fun ls hl => ?_)
                                refine lv_iinc (v := nI (u + 1)) (lv' := [(4, .int (nI (u + 1))), (1, .long (((dgN (fun k => (mu M 1 0 0 0) 14 0 (160 * i + k)) (dgN (tmR (mu M 1 0 0 0) ns i) (dmR (mu M 1 0 0 0) ns (dsR (mu M 1 0 0 0) ns nm (dgN (tcR (mu M 1 0 0 0) ns nm) 701 8) ns) i) 10) u) * 31) + (((mu M 1 0 0 0) 14 0 (160 * i + u)).toInt64))), (0, .ref (AD 0)), (3, .int (nI i))]) hx hb dX8_digest_167 hl (k := 3) rfl (nI_1 _) (by decide) rfl (fun ls hl => ?_)
                                refine lv_goto (tgt := 127) hx hb dX8_digest_170 (by decide) ?_
                                exact ih127 (u + 1) (by omega) (by omega) _ _ hG ls (lv_sub hl [2, 1, 3, 0] rfl)
                              · have hN : (4 * szR M 0 i) = u := by omega
                                subst hN
                                have hXi2 := (hX i hlti).2
                                refine lv_iload hx hb dX8_digest_127 (lv_at hl 3 rfl) ?_
                                refine lv_iconst (v := 4) hx hb dX8_digest_129 (by decide) ?_
                                refine lv_aload_n hx hb dX8_digest_130 rfl (lv_at hl 0 rfl) ?_
                                refine gg_get F hG (ci := 8) (v := .ref (AD (6 + 0))) 8 gcX8 rfl (gR_model hn) (by decide) w4_87 rfl dX8_digest_131 ?_
                                refine gg_getN F hG (ci := 7) (v := .ref (AD (10 + 0))) 5 gcX7 rfl (gR_state (by omega) hn) (by decide) wn_43 rfl dX8_digest_134 ?_
                                refine lv_iload_n hx hb dX8_digest_137 rfl (lv_at hl 2 rfl) ?_
                                refine gg_ialdN F hG i (gR_lines (by omega) hn) rfl (by omega) (by omega) dX8_digest_138 ?_
                                rw [show (mu M 1 0 0 0) 13 0 i = nI (szR M 0 i) from (hX i hlti).1]
                                refine lv_imul hx hb dX8_digest_139 ?_
                                rw [show (4 * (nI (szR M 0 i)) : Int32) = nI (4 * szR M 0 i) from pk_mul 4 _]
                                refine lv_icmp_ge (tgt := 173) hx hb dX8_digest_140 (by decide) (fun h140 => ?_) (fun h140 => absurd (nI_le (Nat.le_refl _) (by omega)) h140)
                                refine lv_iinc (v := nI (i + 1)) (lv' := [(3, .int (nI (i + 1))), (0, .ref (AD 0)), (1, .long (dgN (fun k => (mu M 1 0 0 0) 14 0 (160 * i + k)) (dgN (tmR (mu M 1 0 0 0) ns i) (dmR (mu M 1 0 0 0) ns (dsR (mu M 1 0 0 0) ns nm (dgN (tcR (mu M 1 0 0 0) ns nm) 701 8) ns) i) 10) (4 * szR M 0 i))), (4, .int (nI (4 * szR M 0 i)))]) hx hb dX8_digest_173 hl (k := 2) rfl (nI_1 _) (by decide) rfl (fun ls hl => ?_)
                                refine lv_goto (tgt := 85) hx hb dX8_digest_176 (by decide) ?_
                                exact ih85 (i + 1) (by omega) (by omega) _ _ hG ls (lv_sub hl [1, 2, 0] rfl)
                          exact loop127 ((4 * szR M 0 i) + 1) 0 (Nat.zero_le _) (by omega) _ _ hG ls (lv_sub hl [1, 2, 3, 0] rfl)
                    exact loop96 (10 + 1) 0 (Nat.zero_le _) (by omega) _ _ hG ls (lv_sub hl [1, 2, 3, 0] rfl)
                  · have hN : nm = i := by omega
                    subst hN
                    refine lv_iload_n hx hb dX8_digest_85 rfl (lv_at hl 2 rfl) ?_
                    refine lv_aload_n hx hb dX8_digest_86 rfl (lv_at hl 0 rfl) ?_
                    refine gg_get F hG (ci := 8) (v := .int (nI nm)) 2 gcX8 rfl (gR_model hn) (by decide) w4_78 (congrArg (fun z => some (Value.int z)) hN.2.2.1) dX8_digest_87 ?_
                    refine lv_icmp_ge (tgt := 179) hx hb dX8_digest_90 (by decide) (fun h90 => ?_) (fun h90 => absurd (nI_le (Nat.le_refl _) (by omega)) h90)
                    refine lv_iconst (v := nI 0) hx hb dX8_digest_179 rfl ?_
                    refine lv_istore_n (lv' := [(3, .int (nI 0)), (0, .ref (AD 0)), (1, .long (dmR (mu M 1 0 0 0) ns (dsR (mu M 1 0 0 0) ns nm (dgN (tcR (mu M 1 0 0 0) ns nm) 701 8) ns) nm))]) hx hb dX8_digest_180 rfl hl (by decide) rfl (fun ls hl => ?_)
                    have loop181 : ∀ (fuQ k : Nat), k ≤ (ltR M 0) → (ltR M 0) + 1 ≤ k + fuQ → ∀ (H : Heap) (locs : List Loc), gG Z A sS (wR Z AD (mu M 1 0 0 0) n) H locs → ∀ ls : Array Slot, lv_has ls 5 [(0, .ref (AD 0)), (1, .long (dlt (mu M 1 0 0 0) (dmR (mu M 1 0 0 0) ns (dsR (mu M 1 0 0 0) ns nm (dgN (tcR (mu M 1 0 0 0) ns nm) 701 8) ns) nm) k)), (3, .int (nI k))] → W pP l eE ({ frames := 3, cells := 0, slots := 0, locals := 70 } : Room) sS mI aA bB mE cC H locs 0 0 (MQ bB (gQ Z A (some (.long (dgR (mu M 1 0 0 0) ns nm))) (wR Z AD (mu M 1 0 0 0) n)) aA sS 0 0 A) (F0 mI 181 ls []) := by
                      intro fuQ
                      induction fuQ with
                      | zero =>
                        intro k h1 h2
                        exact absurd h2 (by omega)
                      | succ fuQ ih181 =>
                        intro k hleQ hfuQ H locs hG ls hl
                        by_cases hltk : k < (ltR M 0)
                        · refine lv_iload_n hx hb dX8_digest_181 rfl (lv_at hl 2 rfl) ?_
                          refine lv_aload_n hx hb dX8_digest_182 rfl (lv_at hl 0 rfl) ?_
                          refine gg_get F hG (ci := 8) (v := .ref (AD (6 + 0))) 8 gcX8 rfl (gR_model hn) (by decide) w4_87 rfl dX8_digest_183 ?_
                          refine gg_getN F hG (ci := 7) (v := .int (nI (ltR M 0))) 1 gcX7 rfl (gR_state (by omega) hn) (by decide) wn_39 (congrArg (fun z => some (Value.int z)) hY.1) dX8_digest_186 ?_
                          refine lv_icmp_ge (tgt := 263) hx hb dX8_digest_189 (by decide) (fun h189 => absurd h189 (nI_ge hltk (by omega))) (fun h189 => ?_)
                          refine lv_lload_n hx hb dX8_digest_192 rfl (lv_at hl 1 rfl) ?_
                          refine lv_ldc2 hx hb F.2.2.2.1 (F.2.2.2.2.1 _ w5_66) dX8_digest_193 ?_
                          refine lv_lmul hx hb dX8_digest_196 ?_
                          refine lv_aload_n hx hb dX8_digest_197 rfl (lv_at hl 0 rfl) ?_
                          refine gg_get F hG (ci := 8) (v := .ref (AD (6 + 0))) 8 gcX8 rfl (gR_model hn) (by decide) w4_87 rfl dX8_digest_198 ?_
                          refine gg_getN F hG (ci := 7) (v := .ref (AD (14 + 0))) 7 gcX7 rfl (gR_state (by omega) hn) (by decide) wn_45 rfl dX8_digest_201 ?_
                          refine lv_iconst (v := 2) hx hb dX8_digest_204 (by decide) ?_
                          refine lv_iload_n hx hb dX8_digest_205 rfl (lv_at hl 2 rfl) ?_
                          refine lv_imul hx hb dX8_digest_206 ?_
                          rw [show (2 * (nI k) : Int32) = nI (2 * k) from pk_mul 2 k]
                          refine gg_ialdN F hG (2 * k) (gR_mail (by omega) hn) rfl (by omega) (by omega) dX8_digest_207 ?_
                          refine lv_bipush (v := 40) hx hb dX8_digest_208 (by decide) ?_
                          refine lv_idiv hx hb dX8_digest_210 (by decide) ?_
                          refine lv_i2l hx hb dX8_digest_211 rfl ?_
                          refine lv_ladd hx hb dX8_digest_212 ?_
                          refine lv_lstore_n (lv' := [(1, .long (((dlt (mu M 1 0 0 0) (dmR (mu M 1 0 0 0) ns (dsR (mu M 1 0 0 0) ns nm (dgN (tcR (mu M 1 0 0 0) ns nm) 701 8) ns) nm) k) * 31) + ((((mu M 1 0 0 0) 15 0 (2 * k)) / 40).toInt64))), (0, .ref (AD 0)), (3, .int (nI k))]) hx hb dX8_digest_213 rfl hl (by decide) rfl (fun ls hl => ?_)
                          refine lv_lload_n hx hb dX8_digest_214 rfl (lv_at hl 0 rfl) ?_
                          refine lv_ldc2 hx hb F.2.2.2.1 (F.2.2.2.2.1 _ w5_66) dX8_digest_215 ?_
                          refine lv_lmul hx hb dX8_digest_218 ?_
                          refine lv_aload_n hx hb dX8_digest_219 rfl (lv_at hl 1 rfl) ?_
                          refine gg_get F hG (ci := 8) (v := .ref (AD (6 + 0))) 8 gcX8 rfl (gR_model hn) (by decide) w4_87 rfl dX8_digest_220 ?_
                          refine gg_getN F hG (ci := 7) (v := .ref (AD (14 + 0))) 7 gcX7 rfl (gR_state (by omega) hn) (by decide) wn_45 rfl dX8_digest_223 ?_
                          refine lv_iconst (v := 2) hx hb dX8_digest_226 (by decide) ?_
                          refine lv_iload_n hx hb dX8_digest_227 rfl (lv_at hl 2 rfl) ?_
                          refine lv_imul hx hb dX8_digest_228 ?_
                          rw [show (2 * (nI k) : Int32) = nI (2 * k) from pk_mul 2 k]
                          refine gg_ialdN F hG (2 * k) (gR_mail (by omega) hn) rfl (by omega) (by omega) dX8_digest_229 ?_
                          refine lv_bipush (v := 40) hx hb dX8_digest_230 (by decide) ?_
                          refine lv_irem hx hb dX8_digest_232 (by decide) ?_
                          refine lv_i2l hx hb dX8_digest_233 rfl ?_
                          refine lv_ladd hx hb dX8_digest_234 ?_
                          refine lv_lstore_n (lv' := [(1, .long (((((dlt (mu M 1 0 0 0) (dmR (mu M 1 0 0 0) ns (dsR (mu M 1 0 0 0) ns nm (dgN (tcR (mu M 1 0 0 0) ns nm) 701 8) ns) nm) k) * 31) + ((((mu M 1 0 0 0) 15 0 (2 * k)) / 40).toInt64)) * 31) + ((((mu M 1 0 0 0) 15 0 (2 * k)) - ((mu M 1 0 0 0) 15 0 (2 * k)) / 40 * 40).toInt64))), (0, .ref (AD 0)), (3, .int (nI k))]) hx hb dX8_digest_235 rfl hl (by decide) rfl (fun ls hl => ?_)
                          refine lv_lload_n hx hb dX8_digest_236 rfl (lv_at hl 0 rfl) ?_
                          refine lv_ldc2 hx hb F.2.2.2.1 (F.2.2.2.2.1 _ w5_66) dX8_digest_237 ?_
                          refine lv_lmul hx hb dX8_digest_240 ?_
                          refine lv_aload_n hx hb dX8_digest_241 rfl (lv_at hl 1 rfl) ?_
                          refine gg_get F hG (ci := 8) (v := .ref (AD (6 + 0))) 8 gcX8 rfl (gR_model hn) (by decide) w4_87 rfl dX8_digest_242 ?_
                          refine gg_getN F hG (ci := 7) (v := .ref (AD (14 + 0))) 7 gcX7 rfl (gR_state (by omega) hn) (by decide) wn_45 rfl dX8_digest_245 ?_
                          refine lv_iconst (v := 2) hx hb dX8_digest_248 (by decide) ?_
                          refine lv_iload_n hx hb dX8_digest_249 rfl (lv_at hl 2 rfl) ?_
                          refine lv_imul hx hb dX8_digest_250 ?_
                          rw [show (2 * (nI k) : Int32) = nI (2 * k) from pk_mul 2 k]
                          refine lv_iconst (v := 1) hx hb dX8_digest_251 (by decide) ?_
                          refine lv_iadd hx hb dX8_digest_252 ?_
                          rw [show ((nI (2 * k)) + 1 : Int32) = nI (2 * k + 1) from nI_add _ _]
                          refine gg_ialdN F hG (2 * k + 1) (gR_mail (by omega) hn) rfl (by omega) (by omega) dX8_digest_253 ?_
                          refine lv_i2l hx hb dX8_digest_254 rfl ?_
                          refine lv_ladd hx hb dX8_digest_255 ?_
                          refine lv_lstore_n (lv' := [(1, .long (((((((dlt (mu M 1 0 0 0) (dmR (mu M 1 0 0 0) ns (dsR (mu M 1 0 0 0) ns nm (dgN (tcR (mu M 1 0 0 0) ns nm) 701 8) ns) nm) k) * 31) + ((((mu M 1 0 0 0) 15 0 (2 * k)) / 40).toInt64)) * 31) + ((((mu M 1 0 0 0) 15 0 (2 * k)) - ((mu M 1 0 0 0) 15 0 (2 * k)) / 40 * 40).toInt64)) * 31) + (((mu M 1 0 0 0) 15 0 (2 * k + 1)).toInt64))), (0, .ref (AD 0)), (3, .int (nI k))]) hx hb dX8_digest_256 rfl hl (by decide) rfl (fun ls hl => ?_)
                          refine lv_iinc (v := nI (k + 1)) (lv' := [(3, .int (nI (k + 1))), (1, .long (((((((dlt (mu M 1 0 0 0) (dmR (mu M 1 0 0 0) ns (dsR (mu M 1 0 0 0) ns nm (dgN (tcR (mu M 1 0 0 0) ns nm) 701 8) ns) nm) k) * 31) + ((((mu M 1 0 0 0) 15 0 (2 * k)) / 40).toInt64)) * 31) + ((((mu M 1 0 0 0) 15 0 (2 * k)) - ((mu M 1 0 0 0) 15 0 (2 * k)) / 40 * 40).toInt64)) * 31) + (((mu M 1 0 0 0) 15 0 (2 * k + 1)).toInt64))), (0, .ref (AD 0))]) hx hb dX8_digest_257 hl (k := 2) rfl (nI_1 _) (by decide) rfl (fun ls hl => ?_)
                          refine lv_goto (tgt := 181) hx hb dX8_digest_260 (by decide) ?_
                          exact ih181 (k + 1) (by omega) (by omega) _ _ hG ls (lv_sub hl [2, 1, 0] rfl)
                        · have hN : (ltR M 0) = k := by omega
                          subst hN
                          refine lv_iload_n hx hb dX8_digest_181 rfl (lv_at hl 2 rfl) ?_
                          refine lv_aload_n hx hb dX8_digest_182 rfl (lv_at hl 0 rfl) ?_
                          refine gg_get F hG (ci := 8) (v := .ref (AD (6 + 0))) 8 gcX8 rfl (gR_model hn) (by decide) w4_87 rfl dX8_digest_183 ?_
                          refine gg_getN F hG (ci := 7) (v := .int (nI (ltR M 0))) 1 gcX7 rfl (gR_state (by omega) hn) (by decide) wn_39 (congrArg (fun z => some (Value.int z)) hY.1) dX8_digest_186 ?_
                          refine lv_icmp_ge (tgt := 263) hx hb dX8_digest_189 (by decide) (fun h189 => ?_) (fun h189 => absurd (nI_le (Nat.le_refl _) (by omega)) h189)
                          refine lv_lload_n hx hb dX8_digest_263 rfl (lv_at hl 1 rfl) ?_
                          exact gg_lret F hG rfl rfl dX8_digest_264
                    exact loop181 ((ltR M 0) + 1) 0 (Nat.zero_le _) (by omega) _ _ hG ls (lv_sub hl [1, 2, 0] rfl)
              exact loop85 (nm + 1) 0 (Nat.zero_le _) (by omega) _ _ hG ls (lv_sub hl [1, 2, 0] rfl)
        exact loop38 (ns + 1) 0 (Nat.zero_le _) (by omega) _ _ hG ls (lv_sub hl [1, 2, 0] rfl)
  exact loop11 (8 + 1) 0 (Nat.zero_le _) (by omega) _ _ hG ls (lv_sub hl [2, 1, 0] rfl)
