/-! a new station -/
def stM (M : St) (i : Nat) (x0 x1 x2 x3 x4 x5 : Int32) : St := mu (mu (mu (mu (mu (mu M 0 i 0 x0) 0 i 1 x1) 0 i 2 x2) 0 i 3 x3) 0 i 4 x4) 0 i 5 x5
theorem stM_of {M : St} {i f a : Nat} {x0 x1 x2 x3 x4 x5 : Int32} (h : ¬ (f = 0 ∧ a = i)) : stM M i x0 x1 x2 x3 x4 x5 f a = M f a := by
  unfold stM
  rw [mu_ne h, mu_ne h, mu_ne h, mu_ne h, mu_ne h, mu_ne h]
def flK (M : St) (n : Nat) : Prop := ∀ c i, c < 2 → ¬ M 17 c i = 0 → 78 + i < n
theorem reE_r (e : va_E) : reE e e := Or.inl rfl
theorem ctC_AD {Z : gZ} {AD AD2 : Nat → Nat} {M : St} {n k : Nat} (hn : 78 ≤ n) (hA : ∀ j, j < n → AD2 j = AD j) (hf : flK M n) : reE (ctC Z AD M k) (ctC Z AD2 M k) := by
  unfold ctC
  by_cases h0 : k < 1
  · rw [if_pos h0, if_pos h0, hA 1 (by omega), hA 2 (by omega), hA 25 (by omega)]
    exact reE_r _
  rw [if_neg h0, if_neg h0]
  by_cases h1 : k < 3
  · rw [if_pos h1, if_pos h1, hA (k + 2) (by omega), hA (k + 4) (by omega), hA (57 + k) (by omega), hA (k + 6) (by omega)]
    exact reE_r _
  rw [if_neg h1, if_neg h1]
  by_cases h2 : k < 5
  · rw [if_pos h2, if_pos h2]
    have e : (fun i => if M 17 (k - 3) i = 0 then none else some (AD (78 + i))) = (fun i => if M 17 (k - 3) i = 0 then none else some (AD2 (78 + i))) := funext fun i => by
      by_cases h : M 17 (k - 3) i = 0
      · rw [if_pos h, if_pos h]
      · rw [if_neg h, if_neg h, hA _ (hf _ _ (by omega) h)]
    rw [e]
    exact reE_r _
  rw [if_neg h2, if_neg h2]
  by_cases h3 : k < 7
  · rw [if_pos h3, if_pos h3]
    exact Or.inr ⟨_, _, _, _, rfl, rfl, fun j hj => by rw [hA _ (by omega)]⟩
  rw [if_neg h3, if_neg h3]
  by_cases h4 : k < 9
  · rw [if_pos h4, if_pos h4]
    exact reE_r _
  rw [if_neg h4, if_neg h4]
  by_cases h5 : k < 26
  · rw [if_pos h5, if_pos h5]
    exact reE_r _
  rw [if_neg h5, if_neg h5]
  by_cases h6 : k < 42
  · rw [if_pos h6, if_pos h6, hA (k - 17) (by omega), hA (k + 16) (by omega)]
    exact reE_r _
  rw [if_neg h6, if_neg h6]
  by_cases h7 : k < 60
  · rw [if_pos h7, if_pos h7, hA (k + 18) (by omega)]
    exact reE_r _
  rw [if_neg h7, if_neg h7]
  exact reE_r _
theorem wC_grow {Z : gZ} {D : va_G} {cl : List vw_C} {H : Heap} {A : Nat → Prop} {AD AD2 : Nat → Nat} {M : St} {ns q : Nat} {x0 x1 x2 x3 x4 x5 : Int32} (hA : ∀ j, j < 78 + ns → AD2 j = AD j) (hq : AD2 (78 + ns) = q) (hf : flK M (78 + ns)) (hP : va_P D cl ([(q, .inr (4, [.int x0, .int x1, .int x2, .int x3, .int x4, .int x5]))] ++ wC Z AD M (78 + ns)) H) (hD : va_D A ([(q, .inr (4, [.int x0, .int x1, .int x2, .int x3, .int x4, .int x5]))] ++ wC Z AD M (78 + ns))) : va_P D cl (wC Z AD2 (stM M ns x0 x1 x2 x3 x4 x5) (78 + ns + 1)) H ∧ va_D A (wC Z AD2 (stM M ns x0 x1 x2 x3 x4 x5) (78 + ns + 1)) := by
  refine pickPD (fun k => if k = 78 + ns then 0 else k + 1) (fun i hi j hj e => ?_) (fun k hk => ?_) hP hD
  · by_cases h1 : i = 78 + ns
    · by_cases h2 : j = 78 + ns
      · omega
      · simp only [if_pos h1, if_neg h2] at e
        omega
    · by_cases h2 : j = 78 + ns
      · simp only [if_neg h1, if_pos h2] at e
        omega
      · simp only [if_neg h1, if_neg h2] at e
        omega
  · by_cases h : k = 78 + ns
    · subst h
      refine ⟨.inr (4, [.int x0, .int x1, .int x2, .int x3, .int x4, .int x5]), ?_, Or.inl ?_⟩
      · simp only [if_pos trivial]
        rw [hq]
        rfl
      · rw [ctC_stat]
        simp [stM, mu, upd]
    · refine ⟨ctC Z AD M k, ?_, ?_⟩
      · simp only [if_neg h]
        show (wC Z AD M (78 + ns))[k]? = some (AD2 k, ctC Z AD M k)
        rw [hA k (by omega)]
        exact wm_get (by omega)
      · have e : ctC Z AD2 (stM M ns x0 x1 x2 x3 x4 x5) k = ctC Z AD2 M k := ctC_ext (fun f i hfi => stM_of (fun ⟨h1, h2⟩ => by
          subst h1; subst h2
          unfold owC at hfi
          simp at hfi
          omega))
        rw [e]
        exact ctC_AD (by omega) hA hf
set_option maxRecDepth 100000 in
set_option maxHeartbeats 4000000 in
theorem c_X6_addStation (Z : gZ) (l : Launch) (AD : Nat → Nat) (M : St) (ns : Nat) (hS : M 1 0 0 = nI ns) (hns : ns < 12) (hf : flK M (78 + ns)) (x0 x1 x2 x3 x4 x5 : Int32) (h0a : ¬ x0 < 300) (h0b : ¬ 3000 < x0) (h1a : ¬ x1 < 1) (h1b : ¬ 100 < x1) (h2a : ¬ x2 < 1) (h2b : ¬ 50 < x2) (h3a : ¬ x3 < 0) (h3b : ¬ 23 < x3) (h4a : ¬ x4 < 1) (h4b : ¬ 24 < x4) (h5a : ¬ x5 < 0) (h5b : ¬ 11 < x5) : gE Z l yX6_addStation cX6_addStation 7 (some .int) ({ frames := 2, cells := 1, slots := 6, locals := 60 } : Room) [.ref (AD 0), .int x0, .int x1, .int x2, .int x3, .int x4, .int x5] (wC Z AD M (78 + ns)) (some (.int (nI ns))) (fun w => ∃ AD2 : Nat → Nat, (∀ j, j < 78 + ns → AD2 j = AD j) ∧ w = wC Z AD2 (mu (mu (stM M ns x0 x1 x2 x3 x4 x5) 17 0 ns 1) 1 0 0 (nI (ns + 1))) (78 + ns + 1)) 1 6 := by
  refine gE_of (by decide +kernel) (Nat.le_of_ble_eq_true rfl) ?_
  intro pP eE sS mI aA bB mE cC A F hname hG ls hl
  have hx := F.1
  have hb := F.2.1
  have hn : 78 ≤ 78 + ns := by omega
  have hl : lv_has ls 7 [(0, .ref (AD 0)), (1, .int x0), (2, .int x1), (3, .int x2), (4, .int x3), (5, .int x4), (6, .int x5)] := hl
  refine lv_iload_n hx hb dX6_addStation_0 rfl (lv_at hl 1 rfl) ?_
  refine lv_sipush (v := 300) hx hb dX6_addStation_1 (by decide) ?_
  refine lv_sipush (v := 3000) hx hb dX6_addStation_4 (by decide) ?_
  refine gg_callS F hG (As := [.int x0, .int 300, .int 3000]) (rest := []) (c_X6_isWithin Z l x0 300 3000 _) kY_X6_isWithin kV_X6_isWithin w2_49 rfl ⟨rfl, rfl⟩ ⟨(Nat.le_of_ble_eq_true rfl), (Nat.le_of_ble_eq_true rfl)⟩ rfl (Nat.le_of_ble_eq_true rfl) hl.1 ⟨Nat.zero_le _, Nat.zero_le _⟩ dX6_addStation_7 rfl (fun H locs hG => ?_)
  rw [show (wthF x0 300 3000 : Int32) = 1 from wth_1 h0a h0b]
  refine lv_if_eq (tgt := 33) hx hb dX6_addStation_10 (by decide) (fun h10 => absurd h10 (by decide)) (fun h10 => ?_)
  refine lv_iload_n hx hb dX6_addStation_13 rfl (lv_at hl 2 rfl) ?_
  refine lv_iconst (v := 1) hx hb dX6_addStation_14 (by decide) ?_
  refine lv_bipush (v := 100) hx hb dX6_addStation_15 (by decide) ?_
  refine gg_callS F hG (As := [.int x1, .int 1, .int 100]) (rest := []) (c_X6_isWithin Z l x1 1 100 _) kY_X6_isWithin kV_X6_isWithin w2_49 rfl ⟨rfl, rfl⟩ ⟨(Nat.le_of_ble_eq_true rfl), (Nat.le_of_ble_eq_true rfl)⟩ rfl (Nat.le_of_ble_eq_true rfl) hl.1 ⟨Nat.zero_le _, Nat.zero_le _⟩ dX6_addStation_17 rfl (fun H locs hG => ?_)
  rw [show (wthF x1 1 100 : Int32) = 1 from wth_1 h1a h1b]
  refine lv_if_eq (tgt := 33) hx hb dX6_addStation_20 (by decide) (fun h20 => absurd h20 (by decide)) (fun h20 => ?_)
  refine lv_iload_n hx hb dX6_addStation_23 rfl (lv_at hl 3 rfl) ?_
  refine lv_iconst (v := 1) hx hb dX6_addStation_24 (by decide) ?_
  refine lv_bipush (v := 50) hx hb dX6_addStation_25 (by decide) ?_
  refine gg_callS F hG (As := [.int x2, .int 1, .int 50]) (rest := []) (c_X6_isWithin Z l x2 1 50 _) kY_X6_isWithin kV_X6_isWithin w2_49 rfl ⟨rfl, rfl⟩ ⟨(Nat.le_of_ble_eq_true rfl), (Nat.le_of_ble_eq_true rfl)⟩ rfl (Nat.le_of_ble_eq_true rfl) hl.1 ⟨Nat.zero_le _, Nat.zero_le _⟩ dX6_addStation_27 rfl (fun H locs hG => ?_)
  rw [show (wthF x2 1 50 : Int32) = 1 from wth_1 h2a h2b]
  refine lv_if_ne (tgt := 43) hx hb dX6_addStation_30 (by decide) (fun h30 => ?_) (fun h30 => absurd h30 (by decide))
  refine lv_iload hx hb dX6_addStation_43 (lv_at hl 4 rfl) ?_
  refine lv_iconst (v := 0) hx hb dX6_addStation_45 (by decide) ?_
  refine lv_bipush (v := 23) hx hb dX6_addStation_46 (by decide) ?_
  refine gg_callS F hG (As := [.int x3, .int 0, .int 23]) (rest := []) (c_X6_isWithin Z l x3 0 23 _) kY_X6_isWithin kV_X6_isWithin w2_49 rfl ⟨rfl, rfl⟩ ⟨(Nat.le_of_ble_eq_true rfl), (Nat.le_of_ble_eq_true rfl)⟩ rfl (Nat.le_of_ble_eq_true rfl) hl.1 ⟨Nat.zero_le _, Nat.zero_le _⟩ dX6_addStation_48 rfl (fun H locs hG => ?_)
  rw [show (wthF x3 0 23 : Int32) = 1 from wth_1 h3a h3b]
  refine lv_if_eq (tgt := 76) hx hb dX6_addStation_51 (by decide) (fun h51 => absurd h51 (by decide)) (fun h51 => ?_)
  refine lv_iload hx hb dX6_addStation_54 (lv_at hl 5 rfl) ?_
  refine lv_iconst (v := 1) hx hb dX6_addStation_56 (by decide) ?_
  refine lv_bipush (v := 24) hx hb dX6_addStation_57 (by decide) ?_
  refine gg_callS F hG (As := [.int x4, .int 1, .int 24]) (rest := []) (c_X6_isWithin Z l x4 1 24 _) kY_X6_isWithin kV_X6_isWithin w2_49 rfl ⟨rfl, rfl⟩ ⟨(Nat.le_of_ble_eq_true rfl), (Nat.le_of_ble_eq_true rfl)⟩ rfl (Nat.le_of_ble_eq_true rfl) hl.1 ⟨Nat.zero_le _, Nat.zero_le _⟩ dX6_addStation_59 rfl (fun H locs hG => ?_)
  rw [show (wthF x4 1 24 : Int32) = 1 from wth_1 h4a h4b]
  refine lv_if_eq (tgt := 76) hx hb dX6_addStation_62 (by decide) (fun h62 => absurd h62 (by decide)) (fun h62 => ?_)
  refine lv_iload hx hb dX6_addStation_65 (lv_at hl 6 rfl) ?_
  refine lv_iconst (v := 0) hx hb dX6_addStation_67 (by decide) ?_
  refine lv_bipush (v := 11) hx hb dX6_addStation_68 (by decide) ?_
  refine gg_callS F hG (As := [.int x5, .int 0, .int 11]) (rest := []) (c_X6_isWithin Z l x5 0 11 _) kY_X6_isWithin kV_X6_isWithin w2_49 rfl ⟨rfl, rfl⟩ ⟨(Nat.le_of_ble_eq_true rfl), (Nat.le_of_ble_eq_true rfl)⟩ rfl (Nat.le_of_ble_eq_true rfl) hl.1 ⟨Nat.zero_le _, Nat.zero_le _⟩ dX6_addStation_70 rfl (fun H locs hG => ?_)
  rw [show (wthF x5 0 11 : Int32) = 1 from wth_1 h5a h5b]
  refine lv_if_ne (tgt := 86) hx hb dX6_addStation_73 (by decide) (fun h73 => ?_) (fun h73 => absurd h73 (by decide))
  refine lv_aload_n hx hb dX6_addStation_86 rfl (lv_at hl 0 rfl) ?_
  refine gg_get F hG (ci := 6) (v := .ref (AD (1 + 0))) 0 gcX6 rfl (gC_root hn) (by decide) w1_168 rfl dX6_addStation_87 ?_
  refine gg_getN F hG (ci := 0) (v := .int (nI ns)) 4 gcX0 rfl (gC_club (by omega) hn) (by decide) wn_25 (congrArg (fun z => some (Value.int z)) hS) dX6_addStation_90 ?_
  refine lv_bipush (v := 12) hx hb dX6_addStation_93 (by decide) ?_
  refine lv_icmp_lt (tgt := 108) hx hb dX6_addStation_95 (by decide) (fun h95 => ?_) (fun h95 => absurd (nI_lt (b := 12) hns (by decide)) h95)
  refine lv_aload_n hx hb dX6_addStation_108 rfl (lv_at hl 0 rfl) ?_
  refine gg_get F hG (ci := 6) (v := .ref (AD (1 + 0))) 0 gcX6 rfl (gC_root hn) (by decide) w1_168 rfl dX6_addStation_109 ?_
  refine gg_new (ci := 4) (fs := [.int 0, .int 0, .int 0, .int 0, .int 0, .int 0]) F hG gcX4 w2_137 w2_138 w1_15 rfl (fun j hj => match j, hj with | 0, _ => rfl | 1, _ => rfl | 2, _ => rfl | 3, _ => rfl | 4, _ => rfl | 5, _ => rfl | j + 6, h => absurd h (by omega)) (Nat.le_of_ble_eq_true rfl) (Nat.le_of_ble_eq_true rfl) dX6_addStation_112 (fun q H hG => ?_)
  refine lv_dup hx hb dX6_addStation_115 rfl ?_
  refine lv_iload_n hx hb dX6_addStation_116 rfl (lv_at hl 1 rfl) ?_
  refine lv_iload_n hx hb dX6_addStation_117 rfl (lv_at hl 2 rfl) ?_
  refine lv_iload_n hx hb dX6_addStation_118 rfl (lv_at hl 3 rfl) ?_
  refine lv_iload hx hb dX6_addStation_119 (lv_at hl 4 rfl) ?_
  refine lv_iload hx hb dX6_addStation_121 (lv_at hl 5 rfl) ?_
  refine lv_iload hx hb dX6_addStation_123 (lv_at hl 6 rfl) ?_
  have hG := gG.comm hG
  refine ge_callI F hG (As := [.int x0, .int x1, .int x2, .int x3, .int x4, .int x5]) (rest := [.ref q, .ref (AD (1 + 0))]) (c_X4_init Z l q x0 x1 x2 x3 x4 x5) kY_X4_init kV_X4_init w2_139 rfl ⟨rfl, rfl⟩ ⟨(Nat.le_of_ble_eq_true rfl), (Nat.le_of_ble_eq_true rfl)⟩ rfl (Nat.le_of_ble_eq_true rfl) hl.1 ⟨(Nat.le_of_ble_eq_true rfl), (Nat.le_of_ble_eq_true rfl)⟩ dX6_addStation_125 rfl (fun H locs ws1 hw hG => ?_)
  have hw := hw
  subst hw
  obtain ⟨AD2, hA, hAq⟩ : ∃ AD2 : Nat → Nat, (∀ j, j < 78 + ns → AD2 j = AD j) ∧ AD2 (78 + ns) = q := ⟨fun k => if k = 78 + ns then q else AD k, fun j hj => if_neg (by omega), if_pos rfl⟩
  rw [← List.append_nil (_ ++ _)] at hG
  have hG : gG Z A sS (wC Z AD2 (stM M ns x0 x1 x2 x3 x4 x5) (78 + ns + 1)) H locs := by
    have h := gG.swap hG (fun A' h1 h2 => wC_grow hA hAq hf h1 h2)
    rw [List.append_nil] at h
    exact h
  rw [← hAq, ← hA (1 + 0) (by omega)]
  refine gg_callV F hG (ci := 0) (As := [.ref (AD2 (78 + ns))]) (rest := []) (c_X0_found Z l AD2 (stM M ns x0 x1 x2 x3 x4 x5) (78 + ns + 1) (by omega) 0 ns (by omega) hS hns (by omega)) kY_X0_found kV_X0_found (gC_club (by omega) (by omega)) rfl rfl w2_168 rfl ⟨rfl, rfl⟩ ⟨(Nat.le_of_ble_eq_true rfl), (Nat.le_of_ble_eq_true rfl)⟩ rfl (Nat.le_of_ble_eq_true rfl) hl.1 ⟨(Nat.le_of_ble_eq_true rfl), (Nat.le_of_ble_eq_true rfl)⟩ dX6_addStation_128 rfl (fun H locs hG => ?_)
  exact ge_iret F hG rfl rfl ⟨AD2, hA, rfl⟩ dX6_addStation_131
set_option maxRecDepth 100000 in
set_option maxHeartbeats 4000000 in
theorem x_X6_addStation_a (Z : gZ) (l : Launch) (hst : l.stackTraces = false) (AD : Nat → Nat) (M : St) (n : Nat) (hn : 78 ≤ n) (x0 x1 x2 x3 x4 x5 : Int32) (ho : wthF x0 300 3000 = 0 ∨ wthF x1 1 100 = 0 ∨ wthF x2 1 50 = 0) : gX Z l yX6_addStation cX6_addStation 7 (some .int) ({ frames := 6, cells := 1, slots := 6, locals := 82 } : Room) [.ref (AD 0), .int x0, .int x1, .int x2, .int x3, .int x4, .int x5] (wC Z AD M n) xIA 1 6 := by
  refine gX_of (by decide +kernel) (Nat.le_of_ble_eq_true rfl) ?_
  intro pP eE sS mI aA bB mE cC A F htab hxK hxZ hG ls hl
  have hx := F.1
  have hb := F.2.1
  have hl : lv_has ls 7 [(0, .ref (AD 0)), (1, .int x0), (2, .int x1), (3, .int x2), (4, .int x3), (5, .int x4), (6, .int x5)] := hl
  refine lv_iload_n hx hb dX6_addStation_0 rfl (lv_at hl 1 rfl) ?_
  refine lv_sipush (v := 300) hx hb dX6_addStation_1 (by decide) ?_
  refine lv_sipush (v := 3000) hx hb dX6_addStation_4 (by decide) ?_
  refine gg_callS F hG (As := [.int x0, .int 300, .int 3000]) (rest := []) (c_X6_isWithin Z l x0 300 3000 _) kY_X6_isWithin kV_X6_isWithin w2_49 rfl ⟨rfl, rfl⟩ ⟨(Nat.le_of_ble_eq_true rfl), (Nat.le_of_ble_eq_true rfl)⟩ rfl (Nat.le_of_ble_eq_true rfl) hl.1 ⟨Nat.zero_le _, Nat.zero_le _⟩ dX6_addStation_7 rfl (fun H locs hG => ?_)
  refine lv_if_eq (tgt := 33) hx hb dX6_addStation_10 (by decide) (fun h10 => ?_) (fun h10 => ?_)
  · exact gg_throw F htab hxK hxZ hG hst xE_IA (List.mem_of_getElem? (i := 0) rfl) hl.1 dX6_addStation_33 dX6_addStation_36 dX6_addStation_37 dX6_addStation_39 dX6_addStation_42 (Nat.le_of_ble_eq_true rfl) (Nat.le_of_ble_eq_true rfl) (Nat.le_of_ble_eq_true rfl) (Nat.le_of_ble_eq_true rfl) (Nat.le_of_ble_eq_true rfl) (Nat.le_of_ble_eq_true rfl)
  · refine lv_iload_n hx hb dX6_addStation_13 rfl (lv_at hl 2 rfl) ?_
    refine lv_iconst (v := 1) hx hb dX6_addStation_14 (by decide) ?_
    refine lv_bipush (v := 100) hx hb dX6_addStation_15 (by decide) ?_
    refine gg_callS F hG (As := [.int x1, .int 1, .int 100]) (rest := []) (c_X6_isWithin Z l x1 1 100 _) kY_X6_isWithin kV_X6_isWithin w2_49 rfl ⟨rfl, rfl⟩ ⟨(Nat.le_of_ble_eq_true rfl), (Nat.le_of_ble_eq_true rfl)⟩ rfl (Nat.le_of_ble_eq_true rfl) hl.1 ⟨Nat.zero_le _, Nat.zero_le _⟩ dX6_addStation_17 rfl (fun H locs hG => ?_)
    refine lv_if_eq (tgt := 33) hx hb dX6_addStation_20 (by decide) (fun h20 => ?_) (fun h20 => ?_)
    · exact gg_throw F htab hxK hxZ hG hst xE_IA (List.mem_of_getElem? (i := 0) rfl) hl.1 dX6_addStation_33 dX6_addStation_36 dX6_addStation_37 dX6_addStation_39 dX6_addStation_42 (Nat.le_of_ble_eq_true rfl) (Nat.le_of_ble_eq_true rfl) (Nat.le_of_ble_eq_true rfl) (Nat.le_of_ble_eq_true rfl) (Nat.le_of_ble_eq_true rfl) (Nat.le_of_ble_eq_true rfl)
    · refine lv_iload_n hx hb dX6_addStation_23 rfl (lv_at hl 3 rfl) ?_
      refine lv_iconst (v := 1) hx hb dX6_addStation_24 (by decide) ?_
      refine lv_bipush (v := 50) hx hb dX6_addStation_25 (by decide) ?_
      refine gg_callS F hG (As := [.int x2, .int 1, .int 50]) (rest := []) (c_X6_isWithin Z l x2 1 50 _) kY_X6_isWithin kV_X6_isWithin w2_49 rfl ⟨rfl, rfl⟩ ⟨(Nat.le_of_ble_eq_true rfl), (Nat.le_of_ble_eq_true rfl)⟩ rfl (Nat.le_of_ble_eq_true rfl) hl.1 ⟨Nat.zero_le _, Nat.zero_le _⟩ dX6_addStation_27 rfl (fun H locs hG => ?_)
      refine lv_if_ne (tgt := 43) hx hb dX6_addStation_30 (by decide) (fun h30 => absurd ((ho.resolve_left h10).resolve_left h20) h30) (fun h30 => ?_)
      exact gg_throw F htab hxK hxZ hG hst xE_IA (List.mem_of_getElem? (i := 0) rfl) hl.1 dX6_addStation_33 dX6_addStation_36 dX6_addStation_37 dX6_addStation_39 dX6_addStation_42 (Nat.le_of_ble_eq_true rfl) (Nat.le_of_ble_eq_true rfl) (Nat.le_of_ble_eq_true rfl) (Nat.le_of_ble_eq_true rfl) (Nat.le_of_ble_eq_true rfl) (Nat.le_of_ble_eq_true rfl)
set_option maxRecDepth 100000 in
set_option maxHeartbeats 4000000 in
theorem x_X6_addStation_b (Z : gZ) (l : Launch) (hst : l.stackTraces = false) (AD : Nat → Nat) (M : St) (n : Nat) (hn : 78 ≤ n) (x0 x1 x2 x3 x4 x5 : Int32) (h0 : wthF x0 300 3000 = 1) (h1 : wthF x1 1 100 = 1) (h2 : wthF x2 1 50 = 1) (ho : wthF x3 0 23 = 0 ∨ wthF x4 1 24 = 0 ∨ wthF x5 0 11 = 0) : gX Z l yX6_addStation cX6_addStation 7 (some .int) ({ frames := 6, cells := 1, slots := 6, locals := 82 } : Room) [.ref (AD 0), .int x0, .int x1, .int x2, .int x3, .int x4, .int x5] (wC Z AD M n) xIA 1 6 := by
  refine gX_of (by decide +kernel) (Nat.le_of_ble_eq_true rfl) ?_
  intro pP eE sS mI aA bB mE cC A F htab hxK hxZ hG ls hl
  have hx := F.1
  have hb := F.2.1
  have hl : lv_has ls 7 [(0, .ref (AD 0)), (1, .int x0), (2, .int x1), (3, .int x2), (4, .int x3), (5, .int x4), (6, .int x5)] := hl
  refine lv_iload_n hx hb dX6_addStation_0 rfl (lv_at hl 1 rfl) ?_
  refine lv_sipush (v := 300) hx hb dX6_addStation_1 (by decide) ?_
  refine lv_sipush (v := 3000) hx hb dX6_addStation_4 (by decide) ?_
  refine gg_callS F hG (As := [.int x0, .int 300, .int 3000]) (rest := []) (c_X6_isWithin Z l x0 300 3000 _) kY_X6_isWithin kV_X6_isWithin w2_49 rfl ⟨rfl, rfl⟩ ⟨(Nat.le_of_ble_eq_true rfl), (Nat.le_of_ble_eq_true rfl)⟩ rfl (Nat.le_of_ble_eq_true rfl) hl.1 ⟨Nat.zero_le _, Nat.zero_le _⟩ dX6_addStation_7 rfl (fun H locs hG => ?_)
  rw [show (wthF x0 300 3000 : Int32) = 1 from h0]
  refine lv_if_eq (tgt := 33) hx hb dX6_addStation_10 (by decide) (fun h10 => absurd h10 (by decide)) (fun h10 => ?_)
  refine lv_iload_n hx hb dX6_addStation_13 rfl (lv_at hl 2 rfl) ?_
  refine lv_iconst (v := 1) hx hb dX6_addStation_14 (by decide) ?_
  refine lv_bipush (v := 100) hx hb dX6_addStation_15 (by decide) ?_
  refine gg_callS F hG (As := [.int x1, .int 1, .int 100]) (rest := []) (c_X6_isWithin Z l x1 1 100 _) kY_X6_isWithin kV_X6_isWithin w2_49 rfl ⟨rfl, rfl⟩ ⟨(Nat.le_of_ble_eq_true rfl), (Nat.le_of_ble_eq_true rfl)⟩ rfl (Nat.le_of_ble_eq_true rfl) hl.1 ⟨Nat.zero_le _, Nat.zero_le _⟩ dX6_addStation_17 rfl (fun H locs hG => ?_)
  rw [show (wthF x1 1 100 : Int32) = 1 from h1]
  refine lv_if_eq (tgt := 33) hx hb dX6_addStation_20 (by decide) (fun h20 => absurd h20 (by decide)) (fun h20 => ?_)
  refine lv_iload_n hx hb dX6_addStation_23 rfl (lv_at hl 3 rfl) ?_
  refine lv_iconst (v := 1) hx hb dX6_addStation_24 (by decide) ?_
  refine lv_bipush (v := 50) hx hb dX6_addStation_25 (by decide) ?_
  refine gg_callS F hG (As := [.int x2, .int 1, .int 50]) (rest := []) (c_X6_isWithin Z l x2 1 50 _) kY_X6_isWithin kV_X6_isWithin w2_49 rfl ⟨rfl, rfl⟩ ⟨(Nat.le_of_ble_eq_true rfl), (Nat.le_of_ble_eq_true rfl)⟩ rfl (Nat.le_of_ble_eq_true rfl) hl.1 ⟨Nat.zero_le _, Nat.zero_le _⟩ dX6_addStation_27 rfl (fun H locs hG => ?_)
  rw [show (wthF x2 1 50 : Int32) = 1 from h2]
  refine lv_if_ne (tgt := 43) hx hb dX6_addStation_30 (by decide) (fun h30 => ?_) (fun h30 => absurd h30 (by decide))
  refine lv_iload hx hb dX6_addStation_43 (lv_at hl 4 rfl) ?_
  refine lv_iconst (v := 0) hx hb dX6_addStation_45 (by decide) ?_
  refine lv_bipush (v := 23) hx hb dX6_addStation_46 (by decide) ?_
  refine gg_callS F hG (As := [.int x3, .int 0, .int 23]) (rest := []) (c_X6_isWithin Z l x3 0 23 _) kY_X6_isWithin kV_X6_isWithin w2_49 rfl ⟨rfl, rfl⟩ ⟨(Nat.le_of_ble_eq_true rfl), (Nat.le_of_ble_eq_true rfl)⟩ rfl (Nat.le_of_ble_eq_true rfl) hl.1 ⟨Nat.zero_le _, Nat.zero_le _⟩ dX6_addStation_48 rfl (fun H locs hG => ?_)
  refine lv_if_eq (tgt := 76) hx hb dX6_addStation_51 (by decide) (fun h51 => ?_) (fun h51 => ?_)
  · exact gg_throw F htab hxK hxZ hG hst xE_IA (List.mem_of_getElem? (i := 1) rfl) hl.1 dX6_addStation_76 dX6_addStation_79 dX6_addStation_80 dX6_addStation_82 dX6_addStation_85 (Nat.le_of_ble_eq_true rfl) (Nat.le_of_ble_eq_true rfl) (Nat.le_of_ble_eq_true rfl) (Nat.le_of_ble_eq_true rfl) (Nat.le_of_ble_eq_true rfl) (Nat.le_of_ble_eq_true rfl)
  · refine lv_iload hx hb dX6_addStation_54 (lv_at hl 5 rfl) ?_
    refine lv_iconst (v := 1) hx hb dX6_addStation_56 (by decide) ?_
    refine lv_bipush (v := 24) hx hb dX6_addStation_57 (by decide) ?_
    refine gg_callS F hG (As := [.int x4, .int 1, .int 24]) (rest := []) (c_X6_isWithin Z l x4 1 24 _) kY_X6_isWithin kV_X6_isWithin w2_49 rfl ⟨rfl, rfl⟩ ⟨(Nat.le_of_ble_eq_true rfl), (Nat.le_of_ble_eq_true rfl)⟩ rfl (Nat.le_of_ble_eq_true rfl) hl.1 ⟨Nat.zero_le _, Nat.zero_le _⟩ dX6_addStation_59 rfl (fun H locs hG => ?_)
    refine lv_if_eq (tgt := 76) hx hb dX6_addStation_62 (by decide) (fun h62 => ?_) (fun h62 => ?_)
    · exact gg_throw F htab hxK hxZ hG hst xE_IA (List.mem_of_getElem? (i := 1) rfl) hl.1 dX6_addStation_76 dX6_addStation_79 dX6_addStation_80 dX6_addStation_82 dX6_addStation_85 (Nat.le_of_ble_eq_true rfl) (Nat.le_of_ble_eq_true rfl) (Nat.le_of_ble_eq_true rfl) (Nat.le_of_ble_eq_true rfl) (Nat.le_of_ble_eq_true rfl) (Nat.le_of_ble_eq_true rfl)
    · refine lv_iload hx hb dX6_addStation_65 (lv_at hl 6 rfl) ?_
      refine lv_iconst (v := 0) hx hb dX6_addStation_67 (by decide) ?_
      refine lv_bipush (v := 11) hx hb dX6_addStation_68 (by decide) ?_
      refine gg_callS F hG (As := [.int x5, .int 0, .int 11]) (rest := []) (c_X6_isWithin Z l x5 0 11 _) kY_X6_isWithin kV_X6_isWithin w2_49 rfl ⟨rfl, rfl⟩ ⟨(Nat.le_of_ble_eq_true rfl), (Nat.le_of_ble_eq_true rfl)⟩ rfl (Nat.le_of_ble_eq_true rfl) hl.1 ⟨Nat.zero_le _, Nat.zero_le _⟩ dX6_addStation_70 rfl (fun H locs hG => ?_)
      refine lv_if_ne (tgt := 86) hx hb dX6_addStation_73 (by decide) (fun h73 => absurd ((ho.resolve_left h51).resolve_left h62) h73) (fun h73 => ?_)
      exact gg_throw F htab hxK hxZ hG hst xE_IA (List.mem_of_getElem? (i := 1) rfl) hl.1 dX6_addStation_76 dX6_addStation_79 dX6_addStation_80 dX6_addStation_82 dX6_addStation_85 (Nat.le_of_ble_eq_true rfl) (Nat.le_of_ble_eq_true rfl) (Nat.le_of_ble_eq_true rfl) (Nat.le_of_ble_eq_true rfl) (Nat.le_of_ble_eq_true rfl) (Nat.le_of_ble_eq_true rfl)
set_option maxRecDepth 100000 in
set_option maxHeartbeats 4000000 in
theorem x_X6_addStation_s (Z : gZ) (l : Launch) (hst : l.stackTraces = false) (AD : Nat → Nat) (M : St) (n : Nat) (hn : 78 ≤ n) (x0 x1 x2 x3 x4 x5 : Int32) (ns : Nat) (hS : okS M 0 ns n) (hns : ¬ ns < 12) (h0 : wthF x0 300 3000 = 1) (h1 : wthF x1 1 100 = 1) (h2 : wthF x2 1 50 = 1) (h3 : wthF x3 0 23 = 1) (h4 : wthF x4 1 24 = 1) (h5 : wthF x5 0 11 = 1) : gX Z l yX6_addStation cX6_addStation 7 (some .int) ({ frames := 6, cells := 1, slots := 6, locals := 82 } : Room) [.ref (AD 0), .int x0, .int x1, .int x2, .int x3, .int x4, .int x5] (wC Z AD M n) xIS 1 6 := by
  refine gX_of (by decide +kernel) (Nat.le_of_ble_eq_true rfl) ?_
  intro pP eE sS mI aA bB mE cC A F htab hxK hxZ hG ls hl
  have hx := F.1
  have hb := F.2.1
  have hl : lv_has ls 7 [(0, .ref (AD 0)), (1, .int x0), (2, .int x1), (3, .int x2), (4, .int x3), (5, .int x4), (6, .int x5)] := hl
  have hns2 := hS.2.1
  refine lv_iload_n hx hb dX6_addStation_0 rfl (lv_at hl 1 rfl) ?_
  refine lv_sipush (v := 300) hx hb dX6_addStation_1 (by decide) ?_
  refine lv_sipush (v := 3000) hx hb dX6_addStation_4 (by decide) ?_
  refine gg_callS F hG (As := [.int x0, .int 300, .int 3000]) (rest := []) (c_X6_isWithin Z l x0 300 3000 _) kY_X6_isWithin kV_X6_isWithin w2_49 rfl ⟨rfl, rfl⟩ ⟨(Nat.le_of_ble_eq_true rfl), (Nat.le_of_ble_eq_true rfl)⟩ rfl (Nat.le_of_ble_eq_true rfl) hl.1 ⟨Nat.zero_le _, Nat.zero_le _⟩ dX6_addStation_7 rfl (fun H locs hG => ?_)
  rw [show (wthF x0 300 3000 : Int32) = 1 from h0]
  refine lv_if_eq (tgt := 33) hx hb dX6_addStation_10 (by decide) (fun h10 => absurd h10 (by decide)) (fun h10 => ?_)
  refine lv_iload_n hx hb dX6_addStation_13 rfl (lv_at hl 2 rfl) ?_
  refine lv_iconst (v := 1) hx hb dX6_addStation_14 (by decide) ?_
  refine lv_bipush (v := 100) hx hb dX6_addStation_15 (by decide) ?_
  refine gg_callS F hG (As := [.int x1, .int 1, .int 100]) (rest := []) (c_X6_isWithin Z l x1 1 100 _) kY_X6_isWithin kV_X6_isWithin w2_49 rfl ⟨rfl, rfl⟩ ⟨(Nat.le_of_ble_eq_true rfl), (Nat.le_of_ble_eq_true rfl)⟩ rfl (Nat.le_of_ble_eq_true rfl) hl.1 ⟨Nat.zero_le _, Nat.zero_le _⟩ dX6_addStation_17 rfl (fun H locs hG => ?_)
  rw [show (wthF x1 1 100 : Int32) = 1 from h1]
  refine lv_if_eq (tgt := 33) hx hb dX6_addStation_20 (by decide) (fun h20 => absurd h20 (by decide)) (fun h20 => ?_)
  refine lv_iload_n hx hb dX6_addStation_23 rfl (lv_at hl 3 rfl) ?_
  refine lv_iconst (v := 1) hx hb dX6_addStation_24 (by decide) ?_
  refine lv_bipush (v := 50) hx hb dX6_addStation_25 (by decide) ?_
  refine gg_callS F hG (As := [.int x2, .int 1, .int 50]) (rest := []) (c_X6_isWithin Z l x2 1 50 _) kY_X6_isWithin kV_X6_isWithin w2_49 rfl ⟨rfl, rfl⟩ ⟨(Nat.le_of_ble_eq_true rfl), (Nat.le_of_ble_eq_true rfl)⟩ rfl (Nat.le_of_ble_eq_true rfl) hl.1 ⟨Nat.zero_le _, Nat.zero_le _⟩ dX6_addStation_27 rfl (fun H locs hG => ?_)
  rw [show (wthF x2 1 50 : Int32) = 1 from h2]
  refine lv_if_ne (tgt := 43) hx hb dX6_addStation_30 (by decide) (fun h30 => ?_) (fun h30 => absurd h30 (by decide))
  refine lv_iload hx hb dX6_addStation_43 (lv_at hl 4 rfl) ?_
  refine lv_iconst (v := 0) hx hb dX6_addStation_45 (by decide) ?_
  refine lv_bipush (v := 23) hx hb dX6_addStation_46 (by decide) ?_
  refine gg_callS F hG (As := [.int x3, .int 0, .int 23]) (rest := []) (c_X6_isWithin Z l x3 0 23 _) kY_X6_isWithin kV_X6_isWithin w2_49 rfl ⟨rfl, rfl⟩ ⟨(Nat.le_of_ble_eq_true rfl), (Nat.le_of_ble_eq_true rfl)⟩ rfl (Nat.le_of_ble_eq_true rfl) hl.1 ⟨Nat.zero_le _, Nat.zero_le _⟩ dX6_addStation_48 rfl (fun H locs hG => ?_)
  rw [show (wthF x3 0 23 : Int32) = 1 from h3]
  refine lv_if_eq (tgt := 76) hx hb dX6_addStation_51 (by decide) (fun h51 => absurd h51 (by decide)) (fun h51 => ?_)
  refine lv_iload hx hb dX6_addStation_54 (lv_at hl 5 rfl) ?_
  refine lv_iconst (v := 1) hx hb dX6_addStation_56 (by decide) ?_
  refine lv_bipush (v := 24) hx hb dX6_addStation_57 (by decide) ?_
  refine gg_callS F hG (As := [.int x4, .int 1, .int 24]) (rest := []) (c_X6_isWithin Z l x4 1 24 _) kY_X6_isWithin kV_X6_isWithin w2_49 rfl ⟨rfl, rfl⟩ ⟨(Nat.le_of_ble_eq_true rfl), (Nat.le_of_ble_eq_true rfl)⟩ rfl (Nat.le_of_ble_eq_true rfl) hl.1 ⟨Nat.zero_le _, Nat.zero_le _⟩ dX6_addStation_59 rfl (fun H locs hG => ?_)
  rw [show (wthF x4 1 24 : Int32) = 1 from h4]
  refine lv_if_eq (tgt := 76) hx hb dX6_addStation_62 (by decide) (fun h62 => absurd h62 (by decide)) (fun h62 => ?_)
  refine lv_iload hx hb dX6_addStation_65 (lv_at hl 6 rfl) ?_
  refine lv_iconst (v := 0) hx hb dX6_addStation_67 (by decide) ?_
  refine lv_bipush (v := 11) hx hb dX6_addStation_68 (by decide) ?_
  refine gg_callS F hG (As := [.int x5, .int 0, .int 11]) (rest := []) (c_X6_isWithin Z l x5 0 11 _) kY_X6_isWithin kV_X6_isWithin w2_49 rfl ⟨rfl, rfl⟩ ⟨(Nat.le_of_ble_eq_true rfl), (Nat.le_of_ble_eq_true rfl)⟩ rfl (Nat.le_of_ble_eq_true rfl) hl.1 ⟨Nat.zero_le _, Nat.zero_le _⟩ dX6_addStation_70 rfl (fun H locs hG => ?_)
  rw [show (wthF x5 0 11 : Int32) = 1 from h5]
  refine lv_if_ne (tgt := 86) hx hb dX6_addStation_73 (by decide) (fun h73 => ?_) (fun h73 => absurd h73 (by decide))
  refine lv_aload_n hx hb dX6_addStation_86 rfl (lv_at hl 0 rfl) ?_
  refine gg_get F hG (ci := 6) (v := .ref (AD (1 + 0))) 0 gcX6 rfl (gC_root hn) (by decide) w1_168 rfl dX6_addStation_87 ?_
  refine gg_getN F hG (ci := 0) (v := .int (nI ns)) 4 gcX0 rfl (gC_club (by omega) hn) (by decide) wn_25 (congrArg (fun z => some (Value.int z)) hS.1) dX6_addStation_90 ?_
  refine lv_bipush (v := 12) hx hb dX6_addStation_93 (by decide) ?_
  refine lv_icmp_lt (tgt := 108) hx hb dX6_addStation_95 (by decide) (fun h95 => absurd h95 (nI_nlt (a := ns) (b := 12) (by omega) (by omega))) (fun h95 => ?_)
  exact gg_throw F htab hxK hxZ hG hst xE_IS (List.mem_of_getElem? (i := 2) rfl) hl.1 dX6_addStation_98 dX6_addStation_101 dX6_addStation_102 dX6_addStation_104 dX6_addStation_107 (Nat.le_of_ble_eq_true rfl) (Nat.le_of_ble_eq_true rfl) (Nat.le_of_ble_eq_true rfl) (Nat.le_of_ble_eq_true rfl) (Nat.le_of_ble_eq_true rfl) (Nat.le_of_ble_eq_true rfl)
