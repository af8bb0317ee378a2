/-! a club's copy, a new station, a new member -/
theorem cp_S {M : St} {c e ns n k : Nat} {x y : Int32} (hce : c ≠ e) (h : okS M e ns n) : okS (cpA (mu (mu M 3 c 0 x) 1 c 0 y) c ns k) e ns n := by
  unfold okS at h ⊢
  rw [cpA_of (by omega), mu_ne (by omega), mu_ne (by omega), show cpA (mu (mu M 3 c 0 x) 1 c 0 y) c ns k 17 e = M 17 e by rw [cpA_of (by omega), mu_ne (by omega), mu_ne (by omega)]]
  exact h
theorem cp1_of {M : St} {c e ns f a : Nat} (h : ¬ ((f = 3 ∨ f = 1 ∨ f = 17) ∧ a = c)) : cp1 M c e ns f a = M f a := by
  unfold cp1
  rw [cpA_of (by omega), mu_ne (by omega), mu_ne (by omega)]
set_option maxRecDepth 100000 in
set_option maxHeartbeats 4000000 in
theorem c_X0_copyFrom (Z : gZ) (l : Launch) (AD : Nat → Nat) (M : St) (n : Nat) (hn : 78 ≤ n) (c e ns nm : Nat) (hc : c < 2) (he : e < 2) (hce : c ≠ e) (hS : okS M e ns n) (hM : okM M e nm) (h14 : ∀ i, i < nm → M 14 (8 * e + i) 0 = 0 ∨ M 14 (8 * e + i) 0 = 1) : gM Z l yX0_copyFrom cX0_copyFrom 5 none ({ frames := 2, cells := 0, slots := 0, locals := 43 } : Room) [.ref (AD (1 + c)), .ref (AD (1 + e))] (wC Z AD M n) (none) (wC Z AD (cpC M c e ns nm) n) 0 0 := by
  refine gM_of (by decide +kernel) (Nat.le_of_ble_eq_true rfl) ?_
  intro pP eE sS mI aA bB mE cC A F hname hG ls hl
  have hx := F.1
  have hb := F.2.1
  have hl : lv_has ls 5 [(0, .ref (AD (1 + c))), (1, .ref (AD (1 + e)))] := hl
  have hns2 := hS.2.1
  have hns3 := hS.2.2.1
  have hnm2 := hM.2
  refine lv_aload_n hx hb dX0_copyFrom_0 rfl (lv_at hl 0 rfl) ?_
  refine lv_aload_n hx hb dX0_copyFrom_1 rfl (lv_at hl 1 rfl) ?_
  refine gg_get F hG (ci := 0) (v := .int (M 3 e 0)) 6 gcX0 rfl (gC_club he hn) (by decide) w1_149 rfl dX0_copyFrom_2 ?_
  refine gg_put F hG (ci := 0) 6 gcX0 rfl (gC_club hc hn) (by decide) w1_149 rfl rfl rfl (Nat.le_of_ble_eq_true rfl) (pC_3 hc) dX0_copyFrom_5 (fun H locs hG => ?_)
  have hG : gG Z A sS (wC Z AD (mu M 3 c 0 (M 3 e 0)) n) H locs := hG
  refine lv_aload_n hx hb dX0_copyFrom_8 rfl (lv_at hl 0 rfl) ?_
  refine lv_aload_n hx hb dX0_copyFrom_9 rfl (lv_at hl 1 rfl) ?_
  refine gg_get F hG (ci := 0) (v := .int (nI ns)) 4 gcX0 rfl (gC_club he hn) (by decide) w1_145 (congrArg (fun z => some (Value.int z)) hS.1) dX0_copyFrom_10 ?_
  refine gg_put F hG (ci := 0) 4 gcX0 rfl (gC_club hc hn) (by decide) w1_145 rfl rfl rfl (Nat.le_of_ble_eq_true rfl) (pC_1 hc) dX0_copyFrom_13 (fun H locs hG => ?_)
  have hG : gG Z A sS (wC Z AD (mu (mu M 3 c 0 (M 3 e 0)) 1 c 0 (nI ns)) n) H locs := hG
  refine lv_iconst (v := nI 0) hx hb dX0_copyFrom_16 rfl ?_
  refine lv_istore_n (lv' := [(2, .int (nI 0)), (0, .ref (AD (1 + c))), (1, .ref (AD (1 + e)))]) hx hb dX0_copyFrom_17 rfl hl (by decide) rfl (fun ls hl => ?_)
  have loop18 : ∀ (fuQ k : Nat), k ≤ 12 → 12 + 1 ≤ k + fuQ → ∀ (H : Heap) (locs : List Loc), gG Z A sS (wC Z AD (cpA (mu (mu M 3 c 0 (M 3 e 0)) 1 c 0 (nI ns)) c ns k) n) H locs → ∀ ls : Array Slot, lv_has ls 5 [(0, .ref (AD (1 + c))), (1, .ref (AD (1 + e))), (2, .int (nI k))] → W pP l eE ({ frames := 2, cells := 0, slots := 0, locals := 43 } : Room) sS mI aA bB mE cC H locs 0 0 (MQ bB (gQ Z A (none) (wC Z AD (cpC M c e ns nm) n)) aA sS 0 0 A) (F0 mI 18 ls []) := by
    intro fuQ
    induction fuQ with
    | zero =>
      intro k h1 h2
      exact absurd h2 (by omega)
    | succ fuQ ih18 =>
      intro k hleQ hfuQ H locs hG ls hl
      by_cases hlt : k < 12
      · refine lv_iload_n hx hb dX0_copyFrom_18 rfl (lv_at hl 2 rfl) ?_
        refine lv_aload_n hx hb dX0_copyFrom_19 rfl (lv_at hl 0 rfl) ?_
        refine gg_get F hG (ci := 0) (v := .ref (AD (3 + c))) 0 gcX0 rfl (gC_club hc hn) (by decide) w1_140 rfl dX0_copyFrom_20 ?_
        refine gg_alen F hG (t0 := 2) (v := 12) (gC_sarr hc hn) rfl rfl dX0_copyFrom_23 ?_
        refine lv_icmp_ge (tgt := 44) hx hb dX0_copyFrom_24 (by decide) (fun h24 => absurd h24 (show ¬ (12 : Int32) ≤ nI k from nI_ge (b := 12) hlt (by decide))) (fun h24 => ?_)
        by_cases hk : k < ns
        · refine lv_aload_n hx hb dX0_copyFrom_27 rfl (lv_at hl 0 rfl) ?_
          refine gg_get F hG (ci := 0) (v := .ref (AD (3 + c))) 0 gcX0 rfl (gC_club hc hn) (by decide) w1_140 rfl dX0_copyFrom_28 ?_
          refine lv_iload_n hx hb dX0_copyFrom_31 rfl (lv_at hl 2 rfl) ?_
          refine lv_aload_n hx hb dX0_copyFrom_32 rfl (lv_at hl 1 rfl) ?_
          refine lv_iload_n hx hb dX0_copyFrom_33 rfl (lv_at hl 2 rfl) ?_
          refine gg_callV F hG (ci := 0) (As := [.int (nI k)]) (rest := [.int (nI k), .ref (AD (3 + c))]) (c_X0_stationAt Z l AD (cpA (mu (mu M 3 c 0 (M 3 e 0)) 1 c 0 (nI ns)) c ns k) _ hn e he _ k (cp_S hce hS) hk) kY_X0_stationAt kV_X0_stationAt (gC_club he hn) rfl rfl w1_224 rfl ⟨rfl, rfl⟩ ⟨(Nat.le_of_ble_eq_true rfl), (Nat.le_of_ble_eq_true rfl)⟩ rfl (Nat.le_of_ble_eq_true rfl) hl.1 ⟨Nat.zero_le _, Nat.zero_le _⟩ dX0_copyFrom_34 rfl (fun H locs hG => ?_)
          refine gg_aastR (ws' := (wC Z AD (mu (cpA (mu (mu M 3 c 0 (M 3 e 0)) 1 c 0 (nI ns)) c ns k) 17 c k 1) n)) F hG (t0 := 2) (ci := 4) (r := (RX4, TX4, 6)) (gC_sarr hc hn) rfl (gC_stat (by omega)) rfl (vp_in_nI (by omega) (by decide)) (by rw [nI_clamp (by omega)]; exact pC_17 hc (if_neg (by decide))) dX0_copyFrom_37 (fun H locs hG => ?_)
          have hG : gG Z A sS (wC Z AD (mu (cpA (mu (mu M 3 c 0 (M 3 e 0)) 1 c 0 (nI ns)) c ns k) 17 c k 1) n) H locs := hG
          refine lv_iinc (v := nI (k + 1)) (lv' := [(2, .int (nI (k + 1))), (0, .ref (AD (1 + c))), (1, .ref (AD (1 + e)))]) hx hb dX0_copyFrom_38 hl (k := 2) rfl (nI_1 _) (by decide) rfl (fun ls hl => ?_)
          refine lv_goto (tgt := 18) hx hb dX0_copyFrom_41 (by decide) ?_
          exact ih18 (k + 1) (by omega) (by omega) _ _ (hG.to (congrArg (fun q => wC Z AD q n) (congrArg (fun z => mu (cpA (mu (mu M 3 c 0 (M 3 e 0)) 1 c 0 (nI ns)) c ns k) 17 c k z) (if_pos hk).symm))) ls (lv_sub hl [1, 2, 0] rfl)
        · refine lv_aload_n hx hb dX0_copyFrom_27 rfl (lv_at hl 0 rfl) ?_
          refine gg_get F hG (ci := 0) (v := .ref (AD (3 + c))) 0 gcX0 rfl (gC_club hc hn) (by decide) w1_140 rfl dX0_copyFrom_28 ?_
          refine lv_iload_n hx hb dX0_copyFrom_31 rfl (lv_at hl 2 rfl) ?_
          refine lv_aload_n hx hb dX0_copyFrom_32 rfl (lv_at hl 1 rfl) ?_
          refine lv_iload_n hx hb dX0_copyFrom_33 rfl (lv_at hl 2 rfl) ?_
          refine gg_callV F hG (ci := 0) (As := [.int (nI k)]) (rest := [.int (nI k), .ref (AD (3 + c))]) (c_X0_stationAt_no Z l AD (cpA (mu (mu M 3 c 0 (M 3 e 0)) 1 c 0 (nI ns)) c ns k) _ hn e he _ (cp_S hce hS) (nI k) (Or.inr (nI_le (by omega) (by omega)))) kY_X0_stationAt kV_X0_stationAt (gC_club he hn) rfl rfl w1_224 rfl ⟨rfl, rfl⟩ ⟨(Nat.le_of_ble_eq_true rfl), (Nat.le_of_ble_eq_true rfl)⟩ rfl (Nat.le_of_ble_eq_true rfl) hl.1 ⟨Nat.zero_le _, Nat.zero_le _⟩ dX0_copyFrom_34 rfl (fun H locs hG => ?_)
          refine gg_aastN (ws' := (wC Z AD (mu (cpA (mu (mu M 3 c 0 (M 3 e 0)) 1 c 0 (nI ns)) c ns k) 17 c k 0) n)) F hG (t0 := 2) (gC_sarr hc hn) rfl (vp_in_nI (by omega) (by decide)) (by rw [nI_clamp (by omega)]; exact pC_17 hc (if_pos rfl)) dX0_copyFrom_37 (fun H locs hG => ?_)
          have hG : gG Z A sS (wC Z AD (mu (cpA (mu (mu M 3 c 0 (M 3 e 0)) 1 c 0 (nI ns)) c ns k) 17 c k 0) n) H locs := hG
          refine lv_iinc (v := nI (k + 1)) (lv' := [(2, .int (nI (k + 1))), (0, .ref (AD (1 + c))), (1, .ref (AD (1 + e)))]) hx hb dX0_copyFrom_38 hl (k := 2) rfl (nI_1 _) (by decide) rfl (fun ls hl => ?_)
          refine lv_goto (tgt := 18) hx hb dX0_copyFrom_41 (by decide) ?_
          exact ih18 (k + 1) (by omega) (by omega) _ _ (hG.to (congrArg (fun q => wC Z AD q n) (congrArg (fun z => mu (cpA (mu (mu M 3 c 0 (M 3 e 0)) 1 c 0 (nI ns)) c ns k) 17 c k z) (if_neg hk).symm))) ls (lv_sub hl [1, 2, 0] rfl)
      · have hN : 12 = k := by omega
        subst hN
        refine lv_iload_n hx hb dX0_copyFrom_18 rfl (lv_at hl 2 rfl) ?_
        refine lv_aload_n hx hb dX0_copyFrom_19 rfl (lv_at hl 0 rfl) ?_
        refine gg_get F hG (ci := 0) (v := .ref (AD (3 + c))) 0 gcX0 rfl (gC_club hc hn) (by decide) w1_140 rfl dX0_copyFrom_20 ?_
        refine gg_alen F hG (t0 := 2) (v := 12) (gC_sarr hc hn) rfl rfl dX0_copyFrom_23 ?_
        refine lv_icmp_ge (tgt := 44) hx hb dX0_copyFrom_24 (by decide) (fun h24 => ?_) (fun h24 => absurd (show (12 : Int32) ≤ nI 12 by decide) h24)
        refine lv_aload_n hx hb dX0_copyFrom_44 rfl (lv_at hl 0 rfl) ?_
        refine lv_aload_n hx hb dX0_copyFrom_45 rfl (lv_at hl 1 rfl) ?_
        refine gg_get F hG (ci := 0) (v := .int (nI nm)) 5 gcX0 rfl (gC_club he hn) (by decide) w1_147 (congrArg (fun z => some (Value.int z)) (show cp1 M c e ns 2 e 0 = nI nm by rw [cp1_of (by omega)]; exact hM.1)) dX0_copyFrom_46 ?_
        refine gg_put F hG (ci := 0) 5 gcX0 rfl (gC_club hc hn) (by decide) w1_147 rfl rfl rfl (Nat.le_of_ble_eq_true rfl) (pC_2 hc) dX0_copyFrom_49 (fun H locs hG => ?_)
        have hG : gG Z A sS (wC Z AD (mu (cp1 M c e ns) 2 c 0 (nI nm)) n) H locs := hG
        refine lv_iconst (v := nI 0) hx hb dX0_copyFrom_52 rfl ?_
        refine lv_istore_n (lv' := [(2, .int (nI 0)), (0, .ref (AD (1 + c))), (1, .ref (AD (1 + e)))]) hx hb dX0_copyFrom_53 rfl hl (by decide) rfl (fun ls hl => ?_)
        have loop54 : ∀ (fuQ i : Nat), i ≤ nm → nm + 1 ≤ i + fuQ → ∀ (H : Heap) (locs : List Loc), gG Z A sS (wC Z AD (cpB (mu (cp1 M c e ns) 2 c 0 (nI nm)) c e i) n) H locs → ∀ ls : Array Slot, lv_has ls 5 [(0, .ref (AD (1 + c))), (1, .ref (AD (1 + e))), (2, .int (nI i))] → W pP l eE ({ frames := 2, cells := 0, slots := 0, locals := 43 } : Room) sS mI aA bB mE cC H locs 0 0 (MQ bB (gQ Z A (none) (wC Z AD (cpC M c e ns nm) n)) aA sS 0 0 A) (F0 mI 54 ls []) := by
          intro fuQ
          induction fuQ with
          | zero =>
            intro i h1 h2
            exact absurd h2 (by omega)
          | succ fuQ ih54 =>
            intro i hleQ hfuQ H locs hG ls hl
            by_cases hlt : i < nm
            · refine lv_iload_n hx hb dX0_copyFrom_54 rfl (lv_at hl 2 rfl) ?_
              refine lv_aload_n hx hb dX0_copyFrom_55 rfl (lv_at hl 0 rfl) ?_
              refine gg_get F hG (ci := 0) (v := .int (nI nm)) 5 gcX0 rfl (gC_club hc hn) (by decide) w1_147 (congrArg (fun z => some (Value.int z)) (show cpB (mu (cp1 M c e ns) 2 c 0 (nI nm)) c e i 2 c 0 = nI nm by rw [cpB_1 (by omega)]; exact mu_s)) dX0_copyFrom_56 ?_
              refine lv_icmp_ge (tgt := 96) hx hb dX0_copyFrom_59 (by decide) (fun h59 => absurd h59 (nI_ge hlt (by omega))) (fun h59 => ?_)
              refine lv_aload_n hx hb dX0_copyFrom_62 rfl (lv_at hl 0 rfl) ?_
              refine lv_iload_n hx hb dX0_copyFrom_63 rfl (lv_at hl 2 rfl) ?_
              refine gg_callV F hG (ci := 0) (As := [.int (nI i)]) (rest := []) (c_X0_memberAt Z l AD (cpB (mu (cp1 M c e ns) 2 c 0 (nI nm)) c e i) _ hn c hc _ i (show okM (cpB (mu (cp1 M c e ns) 2 c 0 (nI nm)) c e i) c nm from ⟨by rw [cpB_1 (by omega)]; exact mu_s, hM.2⟩) hlt) kY_X0_memberAt kV_X0_memberAt (gC_club hc hn) rfl rfl w1_186 rfl ⟨rfl, rfl⟩ ⟨(Nat.le_of_ble_eq_true rfl), (Nat.le_of_ble_eq_true rfl)⟩ rfl (Nat.le_of_ble_eq_true rfl) hl.1 ⟨Nat.zero_le _, Nat.zero_le _⟩ dX0_copyFrom_64 rfl (fun H locs hG => ?_)
              refine lv_astore_n (lv' := [(3, .ref (AD (26 + (8 * c + i)))), (0, .ref (AD (1 + c))), (1, .ref (AD (1 + e))), (2, .int (nI i))]) hx hb dX0_copyFrom_67 rfl hl (by decide) rfl (fun ls hl => ?_)
              refine lv_aload_n hx hb dX0_copyFrom_68 rfl (lv_at hl 2 rfl) ?_
              refine lv_iload_n hx hb dX0_copyFrom_69 rfl (lv_at hl 3 rfl) ?_
              refine gg_callV F hG (ci := 0) (As := [.int (nI i)]) (rest := []) (c_X0_memberAt Z l AD (cpB (mu (cp1 M c e ns) 2 c 0 (nI nm)) c e i) _ hn e he _ i (show okM (cpB (mu (cp1 M c e ns) 2 c 0 (nI nm)) c e i) e nm from ⟨by rw [cpB_1 (by omega), mu_ne (by omega), cp1_of (by omega)]; exact hM.1, hM.2⟩) hlt) kY_X0_memberAt kV_X0_memberAt (gC_club he hn) rfl rfl w1_186 rfl ⟨rfl, rfl⟩ ⟨(Nat.le_of_ble_eq_true rfl), (Nat.le_of_ble_eq_true rfl)⟩ rfl (Nat.le_of_ble_eq_true rfl) hl.1 ⟨Nat.zero_le _, Nat.zero_le _⟩ dX0_copyFrom_70 rfl (fun H locs hG => ?_)
              refine lv_astore (lv' := [(4, .ref (AD (26 + (8 * e + i)))), (3, .ref (AD (26 + (8 * c + i)))), (0, .ref (AD (1 + c))), (1, .ref (AD (1 + e))), (2, .int (nI i))]) hx hb dX0_copyFrom_73 hl (by decide) rfl (fun ls hl => ?_)
              refine lv_aload_n hx hb dX0_copyFrom_75 rfl (lv_at hl 1 rfl) ?_
              refine lv_ifnull hx hb dX0_copyFrom_76 ?_
              refine lv_aload hx hb dX0_copyFrom_79 (lv_at hl 0 rfl) ?_
              refine lv_ifnull hx hb dX0_copyFrom_81 ?_
              refine lv_aload_n hx hb dX0_copyFrom_84 rfl (lv_at hl 1 rfl) ?_
              refine lv_aload hx hb dX0_copyFrom_85 (lv_at hl 0 rfl) ?_
              refine gg_callV F hG (ci := 3) (As := [.ref (AD (26 + (8 * e + i)))]) (rest := []) (c_X3_copyFrom Z l AD (cpB (mu (cp1 M c e ns) 2 c 0 (nI nm)) c e i) _ hn (8 * c + i) (8 * e + i) (by omega) (by omega) (by omega) (by rw [cpB_of i (by omega), mu_ne (by omega), cp1_of (by omega)]; exact h14 i hlt)) kY_X3_copyFrom kV_X3_copyFrom (gC_memb (by omega) hn) rfl rfl w4_16 rfl ⟨rfl, rfl⟩ ⟨(Nat.le_of_ble_eq_true rfl), (Nat.le_of_ble_eq_true rfl)⟩ rfl (Nat.le_of_ble_eq_true rfl) hl.1 ⟨Nat.zero_le _, Nat.zero_le _⟩ dX0_copyFrom_87 rfl (fun H locs hG => ?_)
              refine lv_iinc (v := nI (i + 1)) (lv' := [(2, .int (nI (i + 1))), (4, .ref (AD (26 + (8 * e + i)))), (3, .ref (AD (26 + (8 * c + i)))), (0, .ref (AD (1 + c))), (1, .ref (AD (1 + e)))]) hx hb dX0_copyFrom_90 hl (k := 4) rfl (nI_1 _) (by decide) rfl (fun ls hl => ?_)
              refine lv_goto (tgt := 54) hx hb dX0_copyFrom_93 (by decide) ?_
              exact ih54 (i + 1) (by omega) (by omega) _ _ hG ls (lv_sub hl [3, 4, 0] rfl)
            · have hN : nm = i := by omega
              subst hN
              refine lv_iload_n hx hb dX0_copyFrom_54 rfl (lv_at hl 2 rfl) ?_
              refine lv_aload_n hx hb dX0_copyFrom_55 rfl (lv_at hl 0 rfl) ?_
              refine gg_get F hG (ci := 0) (v := .int (nI nm)) 5 gcX0 rfl (gC_club hc hn) (by decide) w1_147 (congrArg (fun z => some (Value.int z)) (show cpB (mu (cp1 M c e ns) 2 c 0 (nI nm)) c e nm 2 c 0 = nI nm by rw [cpB_1 (by omega)]; exact mu_s)) dX0_copyFrom_56 ?_
              refine lv_icmp_ge (tgt := 96) hx hb dX0_copyFrom_59 (by decide) (fun h59 => ?_) (fun h59 => absurd (nI_le (Nat.le_refl _) (by omega)) h59)
              refine lv_aload_n hx hb dX0_copyFrom_96 rfl (lv_at hl 0 rfl) ?_
              refine gg_get F hG (ci := 0) (v := .ref (AD (42 + (16 + c)))) 2 gcX0 rfl (gC_club hc hn) (by decide) w1_142 rfl dX0_copyFrom_97 ?_
              refine lv_aload_n hx hb dX0_copyFrom_100 rfl (lv_at hl 1 rfl) ?_
              refine gg_get F hG (ci := 0) (v := .ref (AD (42 + (16 + e)))) 2 gcX0 rfl (gC_club he hn) (by decide) w1_142 rfl dX0_copyFrom_101 ?_
              refine gg_callV F hG (ci := 5) (As := [.ref (AD (42 + (16 + e)))]) (rest := []) (c_X5_copyFrom Z l AD (cp2 M c e ns nm) _ hn (16 + c) (16 + e) 90 (by omega) (by omega) (by omega) (if_neg (by omega)) (if_neg (by omega)) (by omega)) kY_X5_copyFrom kV_X5_copyFrom (gC_tabl (by omega) hn) rfl rfl w4_25 rfl ⟨rfl, rfl⟩ ⟨(Nat.le_of_ble_eq_true rfl), (Nat.le_of_ble_eq_true rfl)⟩ rfl (Nat.le_of_ble_eq_true rfl) hl.1 ⟨Nat.zero_le _, Nat.zero_le _⟩ dX0_copyFrom_104 rfl (fun H locs hG => ?_)
              exact gg_vret F hG rfl dX0_copyFrom_107
        exact loop54 (nm + 1) 0 (Nat.zero_le _) (by omega) _ _ hG ls (lv_sub hl [1, 2, 0] rfl)
  exact loop18 (12 + 1) 0 (Nat.zero_le _) (by omega) _ _ hG ls (lv_sub hl [1, 2, 0] rfl)
set_option maxRecDepth 100000 in
set_option maxHeartbeats 4000000 in
theorem c_X0_found (Z : gZ) (l : Launch) (AD : Nat → Nat) (M : St) (n : Nat) (hn : 78 ≤ n) (c ns : Nat) (hc : c < 2) (h1 : M 1 c 0 = nI ns) (hns : ns < 12) (hn2 : 78 + ns < n) : gM Z l yX0_found cX0_found 3 (some .int) ({ frames := 0, cells := 0, slots := 0, locals := 0 } : Room) [.ref (AD (1 + c)), .ref (AD (78 + ns))] (wC Z AD M n) (some (.int (nI ns))) (wC Z AD (mu (mu M 17 c ns 1) 1 c 0 (nI (ns + 1))) n) 0 0 := by
  refine gM_of (by decide +kernel) (Nat.le_of_ble_eq_true rfl) ?_
  intro pP eE sS mI aA bB mE cC A F hname hG ls hl
  have hx := F.1
  have hb := F.2.1
  have hl : lv_has ls 3 [(0, .ref (AD (1 + c))), (1, .ref (AD (78 + ns)))] := hl
  refine lv_aload_n hx hb dX0_found_0 rfl (lv_at hl 0 rfl) ?_
  refine gg_get F hG (ci := 0) (v := .int (nI ns)) 4 gcX0 rfl (gC_club hc hn) (by decide) w1_145 (congrArg (fun z => some (Value.int z)) h1) dX0_found_1 ?_
  refine lv_istore_n (lv' := [(2, .int (nI ns)), (0, .ref (AD (1 + c))), (1, .ref (AD (78 + ns)))]) hx hb dX0_found_4 rfl hl (by decide) rfl (fun ls hl => ?_)
  refine lv_iload_n hx hb dX0_found_5 rfl (lv_at hl 0 rfl) ?_
  refine lv_if_lt (tgt := 35) hx hb dX0_found_6 (by decide) (fun h6 => absurd h6 (nI_pos (n := ns) (by omega))) (fun h6 => ?_)
  refine lv_iload_n hx hb dX0_found_9 rfl (lv_at hl 0 rfl) ?_
  refine lv_aload_n hx hb dX0_found_10 rfl (lv_at hl 1 rfl) ?_
  refine gg_get F hG (ci := 0) (v := .ref (AD (3 + c))) 0 gcX0 rfl (gC_club hc hn) (by decide) w1_140 rfl dX0_found_11 ?_
  refine gg_alen F hG (t0 := 2) (v := 12) (gC_sarr hc hn) rfl rfl dX0_found_14 ?_
  refine lv_icmp_ge (tgt := 35) hx hb dX0_found_15 (by decide) (fun h15 => absurd h15 (show ¬ (12 : Int32) ≤ nI ns from nI_ge (b := 12) hns (by decide))) (fun h15 => ?_)
  refine lv_aload_n hx hb dX0_found_18 rfl (lv_at hl 1 rfl) ?_
  refine gg_get F hG (ci := 0) (v := .ref (AD (3 + c))) 0 gcX0 rfl (gC_club hc hn) (by decide) w1_140 rfl dX0_found_19 ?_
  refine lv_iload_n hx hb dX0_found_22 rfl (lv_at hl 0 rfl) ?_
  refine lv_aload_n hx hb dX0_found_23 rfl (lv_at hl 2 rfl) ?_
  refine gg_aastR (ws' := (wC Z AD (mu M 17 c ns 1) n)) F hG (t0 := 2) (ci := 4) (r := (RX4, TX4, 6)) (gC_sarr hc hn) rfl (gC_stat hn2) rfl (vp_in_nI (by omega) (by decide)) (by rw [nI_clamp (by omega)]; exact pC_17 hc (if_neg (by decide))) dX0_found_24 (fun H locs hG => ?_)
  have hG : gG Z A sS (wC Z AD (mu M 17 c ns 1) n) H locs := hG
  refine lv_aload_n hx hb dX0_found_25 rfl (lv_at hl 1 rfl) ?_
  refine lv_dup hx hb dX0_found_26 rfl ?_
  refine gg_get F hG (ci := 0) (v := .int (nI ns)) 4 gcX0 rfl (gC_club hc hn) (by decide) w1_145 (congrArg (fun z => some (Value.int z)) h1) dX0_found_27 ?_
  refine lv_iconst (v := 1) hx hb dX0_found_30 (by decide) ?_
  refine lv_iadd hx hb dX0_found_31 ?_
  rw [show ((nI ns) + 1 : Int32) = nI (ns + 1) from nI_1 _]
  refine gg_put F hG (ci := 0) 4 gcX0 rfl (gC_club hc hn) (by decide) w1_145 rfl rfl rfl (Nat.le_of_ble_eq_true rfl) (pC_1 hc) dX0_found_32 (fun H locs hG => ?_)
  have hG : gG Z A sS (wC Z AD (mu (mu M 17 c ns 1) 1 c 0 (nI (ns + 1))) n) H locs := hG
  refine lv_iload_n hx hb dX0_found_35 rfl (lv_at hl 0 rfl) ?_
  exact gg_iret F hG rfl rfl rfl dX0_found_36
set_option maxRecDepth 100000 in
set_option maxHeartbeats 4000000 in
theorem c_X0_admit (Z : gZ) (l : Launch) (AD : Nat → Nat) (M : St) (n : Nat) (hn : 78 ≤ n) (c nm : Nat) (hc : c < 2) (h2 : M 2 c 0 = nI nm) (hnm : nm < 8) (t a : Int32) : gM Z l yX0_admit cX0_admit 5 (some .int) ({ frames := 3, cells := 0, slots := 0, locals := 68 } : Room) [.ref (AD (1 + c)), .int t, .int a] (wC Z AD M n) (some (.int (nI nm))) (wC Z AD (begF (mu M 2 c 0 (nI (nm + 1))) (8 * c + nm) t a) n) 0 0 := by
  refine gM_of (by decide +kernel) (Nat.le_of_ble_eq_true rfl) ?_
  intro pP eE sS mI aA bB mE cC A F hname hG ls hl
  have hx := F.1
  have hb := F.2.1
  have hl : lv_has ls 5 [(0, .ref (AD (1 + c))), (1, .int t), (2, .int a)] := hl
  refine lv_aload_n hx hb dX0_admit_0 rfl (lv_at hl 0 rfl) ?_
  refine gg_get F hG (ci := 0) (v := .int (nI nm)) 5 gcX0 rfl (gC_club hc hn) (by decide) w1_147 (congrArg (fun z => some (Value.int z)) h2) dX0_admit_1 ?_
  refine lv_istore_n (lv' := [(3, .int (nI nm)), (0, .ref (AD (1 + c))), (1, .int t), (2, .int a)]) hx hb dX0_admit_4 rfl hl (by decide) rfl (fun ls hl => ?_)
  refine lv_aload_n hx hb dX0_admit_5 rfl (lv_at hl 1 rfl) ?_
  refine lv_dup hx hb dX0_admit_6 rfl ?_
  refine gg_get F hG (ci := 0) (v := .int (nI nm)) 5 gcX0 rfl (gC_club hc hn) (by decide) w1_147 (congrArg (fun z => some (Value.int z)) h2) dX0_admit_7 ?_
  refine lv_iconst (v := 1) hx hb dX0_admit_10 (by decide) ?_
  refine lv_iadd hx hb dX0_admit_11 ?_
  rw [show ((nI nm) + 1 : Int32) = nI (nm + 1) from nI_1 _]
  refine gg_put F hG (ci := 0) 5 gcX0 rfl (gC_club hc hn) (by decide) w1_147 rfl rfl rfl (Nat.le_of_ble_eq_true rfl) (pC_2 hc) dX0_admit_12 (fun H locs hG => ?_)
  have hG : gG Z A sS (wC Z AD (mu M 2 c 0 (nI (nm + 1))) n) H locs := hG
  refine lv_aload_n hx hb dX0_admit_15 rfl (lv_at hl 1 rfl) ?_
  refine lv_iload_n hx hb dX0_admit_16 rfl (lv_at hl 0 rfl) ?_
  refine gg_callV F hG (ci := 0) (As := [.int (nI nm)]) (rest := []) (c_X0_memberAt Z l AD (mu M 2 c 0 (nI (nm + 1))) _ hn c hc _ nm (show okM (mu M 2 c 0 (nI (nm + 1))) c (nm + 1) from ⟨mu_s, by omega⟩) (by omega)) kY_X0_memberAt kV_X0_memberAt (gC_club hc hn) rfl rfl w1_186 rfl ⟨rfl, rfl⟩ ⟨(Nat.le_of_ble_eq_true rfl), (Nat.le_of_ble_eq_true rfl)⟩ rfl (Nat.le_of_ble_eq_true rfl) hl.1 ⟨Nat.zero_le _, Nat.zero_le _⟩ dX0_admit_17 rfl (fun H locs hG => ?_)
  refine lv_astore (lv' := [(4, .ref (AD (26 + (8 * c + nm)))), (3, .int (nI nm)), (0, .ref (AD (1 + c))), (1, .int t), (2, .int a)]) hx hb dX0_admit_20 hl (by decide) rfl (fun ls hl => ?_)
  refine lv_aload hx hb dX0_admit_22 (lv_at hl 0 rfl) ?_
  refine lv_ifnull hx hb dX0_admit_24 ?_
  refine lv_aload hx hb dX0_admit_27 (lv_at hl 0 rfl) ?_
  refine lv_iload_n hx hb dX0_admit_29 rfl (lv_at hl 3 rfl) ?_
  refine lv_iload_n hx hb dX0_admit_30 rfl (lv_at hl 4 rfl) ?_
  refine gg_callV F hG (ci := 3) (As := [.int t, .int a]) (rest := []) (c_X3_begin Z l AD (mu M 2 c 0 (nI (nm + 1))) _ hn (8 * c + nm) (by omega) t a) kY_X3_begin kV_X3_begin (gC_memb (by omega) hn) rfl rfl w2_185 rfl ⟨rfl, rfl⟩ ⟨(Nat.le_of_ble_eq_true rfl), (Nat.le_of_ble_eq_true rfl)⟩ rfl (Nat.le_of_ble_eq_true rfl) hl.1 ⟨Nat.zero_le _, Nat.zero_le _⟩ dX0_admit_31 rfl (fun H locs hG => ?_)
  refine lv_iload_n hx hb dX0_admit_34 rfl (lv_at hl 1 rfl) ?_
  exact gg_iret F hG rfl rfl rfl dX0_admit_35
