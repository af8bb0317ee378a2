/-! a club's constructor -/
abbrev a4 : Type := Nat × Nat × Nat × Nat
/-- a new member's cells: its table, the table's numbers, its set, itself -/
def cm (Z : gZ) (x : a4) : va_W := [(x.2.2.1, .inr (5, [.int 4, .ref x.2.2.2, .int 0])), (x.2.2.2, .inl (Z.2.1, 160, .inl (fun _ => 0))), (x.2.1, .inr (1, [.int 0, .int 0, .int 0, .int 0, .int 0, .int 0])), (x.1, .inr (3, [.ref x.2.1, .ref x.2.2.1, .int 0]))]
def mems (Z : gZ) (f : Nat → a4) : Nat → va_W
  | 0 => []
  | i + 1 => cm Z (f i) ++ mems Z f i
def mrow (f : Nat → a4) (i : Nat) : Nat → Option Nat := fun j => if j < i then some (f j).1 else none
def cbase (Z : gZ) (a q1 q2 : Nat) (r : Nat → Option Nat) : va_W := [(a, .inr (0, [.ref q1, .ref q2, .null, .null, .int 0, .int 0, .int 0])), (q1, .inl (Z.2.2.2, 12, .inr (.inr (.inr (.inr (fun _ => none)))))), (q2, .inl (Z.2.2.1, 8, .inr (.inr (.inr (.inr r)))))]
def clubE (Z : gZ) (a q1 q2 : Nat) (f : Nat → a4) (q3 q4 q5 : Nat) : va_W := [(q5, .inr (2, [.int 0, .int 0, .int 0, .int 0])), (q3, .inr (5, [.int 3, .ref q4, .int 0])), (q4, .inl (Z.2.1, 90, .inl (fun _ => 0)))] ++ (mems Z f 8 ++ [(a, .inr (0, [.ref q1, .ref q2, .ref q3, .ref q5, .int 0, .int 0, .int 0])), (q1, .inl (Z.2.2.2, 12, .inr (.inr (.inr (.inr (fun _ => none)))))), (q2, .inl (Z.2.2.1, 8, .inr (.inr (.inr (.inr (mrow f 8))))))])
theorem mems_c {Z : gZ} {f g : Nat → a4} : ∀ i, (∀ j, j < i → f j = g j) → mems Z f i = mems Z g i
  | 0, _ => rfl
  | i + 1, h => by
    show cm Z (f i) ++ mems Z f i = cm Z (g i) ++ mems Z g i
    rw [h i (by omega), mems_c i (fun j hj => h j (by omega))]
theorem apX {L B : va_W} (k : Nat) : (L ++ B)[L.length + k]? = B[k]? := by
  rw [List.getElem?_append_right (by omega), show L.length + k - L.length = k by omega]
theorem apY {L B : va_W} (k : Nat) (x : Nat × va_E) : (L ++ B).set (L.length + k) x = L ++ B.set k x := by
  rw [List.set_append_right _ _ (by omega), show L.length + k - L.length = k by omega]
theorem mrow_up {f : Nat → a4} {i : Nat} {x : a4} : va_up (mrow f i) i (some x.1) = mrow (fun j => if j = i then x else f j) (i + 1) := by
  funext j
  unfold va_up mrow
  by_cases h : j = i
  · subst h
    simp
  · by_cases h2 : j < i
    · simp [h, h2, show j < i + 1 by omega]
    · simp [h, h2, show ¬ j < i + 1 by omega]
theorem mrow_0 {f : Nat → a4} : (fun _ : Nat => (none : Option Nat)) = mrow f 0 := funext fun j => (if_neg (by omega)).symm
set_option maxRecDepth 100000 in
set_option maxHeartbeats 4000000 in
theorem c_X0_init (Z : gZ) (l : Launch) (a : Nat) : gE Z l yX0_init cX0_init 2 none ({ frames := 3, cells := 37, slots := 1493, locals := 80 } : Room) [.ref a] [(a, .inr (0, [.null, .null, .null, .null, .int 0, .int 0, .int 0]))] none (fun w => ∃ (q1 q2 : Nat) (f : Nat → a4) (q3 q4 q5 : Nat), w = clubE Z a q1 q2 f q3 q4 q5) 37 1493 := by
  refine gE_of (by decide +kernel) (Nat.le_of_ble_eq_true rfl) ?_
  intro pP eE sS mI aA bB mE cC A F hname hG ls hl
  have hx := F.1
  have hb := F.2.1
  have hl : lv_has ls 2 [(0, .ref a)] := hl
  refine lv_aload_n hx hb dX0_init_0 rfl (lv_at hl 0 rfl) ?_
  refine W.objInit hx hb F.2.2.2.1 (F.2.2.2.2.1 _ w1_32) (F.2.2.2.2.1 _ w1_25) (F.2.2.2.2.1 _ w1_26) rfl (by rw [F.2.2.1]; exact hl.1) rfl dX0_init_1 (Nat.le_of_ble_eq_true rfl) (Nat.le_of_ble_eq_true rfl) ?_
  refine W.eq (g2 := F0 mI 4 ls []) rfl ?_
  refine lv_aload_n hx hb dX0_init_4 rfl (lv_at hl 0 rfl) ?_
  refine lv_bipush (v := 12) hx hb dX0_init_5 (by decide) ?_
  refine gg_newR (t0 := 2) (N := 12) F hG w1_33 wn_53 rfl (by decide) (by decide) (Nat.le_of_ble_eq_true rfl) (by decide) (Nat.le_of_ble_eq_true rfl) dX0_init_7 (fun q1 H hG => ?_)
  have hG : gG Z A sS [(a, .inr (0, [.null, .null, .null, .null, .int 0, .int 0, .int 0])), (q1, .inl (Z.2.2.2, 12, .inr (.inr (.inr (.inr (fun _ => none))))))] _ _ := hG
  refine gg_putF (ws' := ([(a, .inr (0, [.ref q1, .null, .null, .null, .int 0, .int 0, .int 0])), (q1, .inl (Z.2.2.2, 12, .inr (.inr (.inr (.inr (fun _ => none))))))])) F hG (ci := 0) (q0 := 0) 0 gcX0 rfl rfl (by decide) w1_140 rfl (hname.trans rfl) rfl rfl rfl (Nat.le_of_ble_eq_true rfl) rfl dX0_init_10 (fun H locs hG => ?_)
  refine lv_aload_n hx hb dX0_init_13 rfl (lv_at hl 0 rfl) ?_
  refine lv_bipush (v := 8) hx hb dX0_init_14 (by decide) ?_
  refine gg_newR (t0 := 1) (N := 8) F hG w1_35 wn_54 rfl (by decide) (by decide) (Nat.le_of_ble_eq_true rfl) (by decide) (Nat.le_of_ble_eq_true rfl) dX0_init_16 (fun q2 H hG => ?_)
  have hG : gG Z A sS [(a, .inr (0, [.ref q1, .null, .null, .null, .int 0, .int 0, .int 0])), (q1, .inl (Z.2.2.2, 12, .inr (.inr (.inr (.inr (fun _ => none)))))), (q2, .inl (Z.2.2.1, 8, .inr (.inr (.inr (.inr (fun _ => none))))))] _ _ := hG
  refine gg_putF (ws' := (cbase Z a q1 q2 (fun _ => none))) F hG (ci := 0) (q0 := 0) 1 gcX0 rfl rfl (by decide) w1_141 rfl (hname.trans rfl) rfl rfl rfl (Nat.le_of_ble_eq_true rfl) rfl dX0_init_19 (fun H locs hG => ?_)
  refine lv_iconst (v := nI 0) hx hb dX0_init_22 rfl ?_
  refine lv_istore_n (lv' := [(1, .int (nI 0)), (0, .ref a)]) hx hb dX0_init_23 rfl hl (by decide) rfl (fun ls hl => ?_)
  have loop24 : ∀ (fuQ i : Nat) (f : Nat → a4), i ≤ 8 → 8 + 1 ≤ i + fuQ → ∀ (H : Heap) (locs : List Loc), gG Z A sS (mems Z f i ++ cbase Z a q1 q2 (mrow f i)) H locs → ∀ ls : Array Slot, lv_has ls 2 [(0, .ref a), (1, .int (nI i))] → W pP l eE ({ frames := 3, cells := 37, slots := 1493, locals := 80 } : Room) sS mI aA bB mE cC H locs (2 + 4 * i) (20 + 172 * i) (MQ bB (gQE Z A none (fun w => ∃ (q1 q2 : Nat) (f : Nat → a4) (q3 q4 q5 : Nat), w = clubE Z a q1 q2 f q3 q4 q5)) aA sS 37 1493 A) (F0 mI 24 ls []) := by
    intro fuQ
    induction fuQ with
    | zero =>
      intro i f h1 h2
      exact absurd h2 (by omega)
    | succ fuQ ih =>
      intro i f hle hfu H locs hG ls hl
      refine lv_iload_n hx hb dX0_init_24 rfl (lv_at hl 1 rfl) ?_
      refine lv_aload_n hx hb dX0_init_25 rfl (lv_at hl 0 rfl) ?_
      refine gg_get F hG (ci := 0) (q0 := (mems Z f i).length + 0) (v := .ref q2) 1 gcX0 rfl ((apX (L := mems Z f i) (B := cbase Z a q1 q2 (mrow f i)) 0).trans rfl) (by decide) w1_141 rfl dX0_init_26 ?_
      refine gg_alen F hG (q0 := (mems Z f i).length + 2) (t0 := 1) (v := 8) ((apX (L := mems Z f i) (B := cbase Z a q1 q2 (mrow f i)) 2).trans rfl) rfl rfl dX0_init_29 ?_
      by_cases hlt : i < 8
      · refine lv_icmp_ge (tgt := 52) hx hb dX0_init_30 (by decide) (fun h30 => absurd h30 (show ¬ (8 : Int32) ≤ nI i from nI_ge (b := 8) hlt (by decide))) (fun h30 => ?_)
        refine lv_aload_n hx hb dX0_init_33 rfl (lv_at hl 0 rfl) ?_
        refine gg_get F hG (ci := 0) (q0 := (mems Z f i).length + 0) (v := .ref q2) 1 gcX0 rfl ((apX (L := mems Z f i) (B := cbase Z a q1 q2 (mrow f i)) 0).trans rfl) (by decide) w1_141 rfl dX0_init_34 ?_
        refine lv_iload_n hx hb dX0_init_37 rfl (lv_at hl 1 rfl) ?_
        refine gg_new (ci := 3) (fs := [.null, .null, .int 0]) F hG gcX3 w1_35 w1_37 w1_3 rfl (fun j hj => match j, hj with | 0, _ => rfl | 1, _ => rfl | 2, _ => rfl | j + 3, h => absurd h (by omega)) (by show 2 + 4 * i + 1 ≤ 37; omega) (by show 20 + 172 * i + 3 ≤ 1493; omega) dX0_init_38 (fun q H hG => ?_)
        refine lv_dup hx hb dX0_init_41 rfl ?_
        have hG := gG.comm hG
        refine ge_callI F hG (As := []) (rest := [.ref q, .int (nI i), .ref q2]) (c_X3_init Z l q) kY_X3_init kV_X3_init w1_38 rfl ⟨rfl, rfl⟩ ⟨(Nat.le_of_ble_eq_true rfl), (Nat.le_of_ble_eq_true rfl)⟩ rfl (Nat.le_of_ble_eq_true rfl) hl.1 ⟨by show 2 + 4 * i + 1 + 3 ≤ 37; omega, by show 20 + 172 * i + 3 + 169 ≤ 1493; omega⟩ dX0_init_42 rfl (fun H locs ws' hw hG => ?_)
        obtain ⟨u1, u2, u3, rfl⟩ := hw
        have hG : gG Z A sS ((cm Z (q, u1, u2, u3) ++ mems Z f i) ++ cbase Z a q1 q2 (mrow f i)) H locs := by rw [List.append_assoc]; exact hG
        refine gg_aastR (ws' := (cm Z (q, u1, u2, u3) ++ mems Z f i) ++ cbase Z a q1 q2 (mrow (fun j => if j = i then (q, u1, u2, u3) else f j) (i + 1))) F hG (q0 := (cm Z (q, u1, u2, u3) ++ mems Z f i).length + 2) (qk := 3) (t0 := 1) (ci := 3) (r := (RX3, TX3, 3)) ((apX 2).trans rfl) rfl rfl rfl (vp_in_nI (by omega) (by decide)) (by rw [nI_clamp (by omega), apY, ← mrow_up]; rfl) dX0_init_45 (fun H locs hG => ?_)
        have e9 : cm Z (q, u1, u2, u3) ++ mems Z f i = mems Z (fun j => if j = i then (q, u1, u2, u3) else f j) (i + 1) := by
          show _ = cm Z (if i = i then (q, u1, u2, u3) else f i) ++ mems Z (fun j => if j = i then (q, u1, u2, u3) else f j) i
          rw [if_pos rfl, mems_c (f := f) (g := (fun j => if j = i then (q, u1, u2, u3) else f j)) i (fun j hj => by show f j = if j = i then (q, u1, u2, u3) else f j; rw [if_neg (by omega)])]
        rw [e9] at hG
        refine lv_iinc (v := nI (i + 1)) (lv' := [(1, .int (nI (i + 1))), (0, .ref a)]) hx hb dX0_init_46 hl (k := 1) rfl (nI_1 _) (by decide) rfl (fun ls hl => ?_)
        refine lv_goto (tgt := 24) hx hb dX0_init_49 (by decide) ?_
        exact ih (i + 1) (fun j => if j = i then (q, u1, u2, u3) else f j) (by omega) (by omega) _ _ hG ls (lv_sub hl [1, 0] rfl)
      · have hN : 8 = i := by omega
        subst hN
        refine lv_icmp_ge (tgt := 52) hx hb dX0_init_30 (by decide) (fun h30 => ?_) (fun h30 => absurd (show (8 : Int32) ≤ nI 8 by decide) h30)
        refine lv_aload_n hx hb dX0_init_52 rfl (lv_at hl 0 rfl) ?_
        refine gg_new (ci := 5) (fs := [.int 0, .null, .int 0]) F hG gcX5 w1_118 w1_79 w1_5 rfl (fun j hj => match j, hj with | 0, _ => rfl | 1, _ => rfl | 2, _ => rfl | j + 3, h => absurd h (by omega)) (by decide) (by decide) dX0_init_53 (fun q3 H hG => ?_)
        refine lv_dup hx hb dX0_init_56 rfl ?_
        refine lv_bipush (v := nI 30) hx hb dX0_init_57 (by decide) ?_
        refine lv_iconst (v := nI 3) hx hb dX0_init_59 (by decide) ?_
        have hG := gG.comm hG
        refine ge_callI F hG (As := [.int (nI 30), .int (nI 3)]) (rest := [.ref q3, .ref a]) (c_X5_init Z l q3 30 3 (by decide)) kY_X5_init kV_X5_init w1_119 rfl ⟨rfl, rfl⟩ ⟨(Nat.le_of_ble_eq_true rfl), (Nat.le_of_ble_eq_true rfl)⟩ rfl (Nat.le_of_ble_eq_true rfl) hl.1 ⟨(Nat.le_of_ble_eq_true rfl), (Nat.le_of_ble_eq_true rfl)⟩ dX0_init_60 rfl (fun H locs ws' hw hG => ?_)
        obtain ⟨q4, rfl⟩ := hw
        have hG : gG Z A sS ((([(q3, .inr (5, [.int 3, .ref q4, .int 0])), (q4, .inl (Z.2.1, 90, .inl (fun _ => 0)))] : va_W) ++ mems Z f 8) ++ cbase Z a q1 q2 (mrow f 8)) H locs := by rw [List.append_assoc]; exact hG
        refine gg_putF (ws' := ((([(q3, .inr (5, [.int 3, .ref q4, .int 0])), (q4, .inl (Z.2.1, 90, .inl (fun _ => 0)))] : va_W) ++ mems Z f 8) ++ [(a, .inr (0, [.ref q1, .ref q2, .ref q3, .null, .int 0, .int 0, .int 0])), (q1, .inl (Z.2.2.2, 12, .inr (.inr (.inr (.inr (fun _ => none)))))), (q2, .inl (Z.2.2.1, 8, .inr (.inr (.inr (.inr (mrow f 8))))))])) F hG (ci := 0) (q0 := (([(q3, .inr (5, [.int 3, .ref q4, .int 0])), (q4, .inl (Z.2.1, 90, .inl (fun _ => 0)))] : va_W) ++ mems Z f 8).length + 0) 2 gcX0 rfl ((apX 0).trans rfl) (by decide) w1_142 rfl (hname.trans rfl) rfl rfl rfl (Nat.le_of_ble_eq_true rfl) (apY 0 _) dX0_init_63 (fun H locs hG => ?_)
        refine lv_aload_n hx hb dX0_init_66 rfl (lv_at hl 0 rfl) ?_
        refine gg_new (ci := 2) (fs := [.int 0, .int 0, .int 0, .int 0]) F hG gcX2 w1_120 w1_121 w1_7 rfl (fun j hj => match j, hj with | 0, _ => rfl | 1, _ => rfl | 2, _ => rfl | 3, _ => rfl | j + 4, h => absurd h (by omega)) (by decide) (by decide) dX0_init_67 (fun q5 H hG => ?_)
        refine lv_dup hx hb dX0_init_70 rfl ?_
        have hG := gG.comm hG
        refine ge_callIN F hG (As := []) (rest := [.ref q5, .ref a]) (c_X2_init Z l q5) kY_X2_init kV_X2_init wn_22 rfl ⟨rfl, rfl⟩ ⟨(Nat.le_of_ble_eq_true rfl), (Nat.le_of_ble_eq_true rfl)⟩ rfl (Nat.le_of_ble_eq_true rfl) hl.1 ⟨(Nat.le_of_ble_eq_true rfl), (Nat.le_of_ble_eq_true rfl)⟩ dX0_init_71 rfl (fun H locs ws' hw hG => ?_)
        have hw := hw
        subst hw
        have hG : gG Z A sS ((([(q5, .inr (2, [.int 0, .int 0, .int 0, .int 0])), (q3, .inr (5, [.int 3, .ref q4, .int 0])), (q4, .inl (Z.2.1, 90, .inl (fun _ => 0)))] : va_W) ++ mems Z f 8) ++ [(a, .inr (0, [.ref q1, .ref q2, .ref q3, .null, .int 0, .int 0, .int 0])), (q1, .inl (Z.2.2.2, 12, .inr (.inr (.inr (.inr (fun _ => none)))))), (q2, .inl (Z.2.2.1, 8, .inr (.inr (.inr (.inr (mrow f 8))))))]) H locs := hG
        refine gg_putF (ws' := ((([(q5, .inr (2, [.int 0, .int 0, .int 0, .int 0])), (q3, .inr (5, [.int 3, .ref q4, .int 0])), (q4, .inl (Z.2.1, 90, .inl (fun _ => 0)))] : va_W) ++ mems Z f 8) ++ [(a, .inr (0, [.ref q1, .ref q2, .ref q3, .ref q5, .int 0, .int 0, .int 0])), (q1, .inl (Z.2.2.2, 12, .inr (.inr (.inr (.inr (fun _ => none)))))), (q2, .inl (Z.2.2.1, 8, .inr (.inr (.inr (.inr (mrow f 8))))))])) F hG (ci := 0) (q0 := (([(q5, .inr (2, [.int 0, .int 0, .int 0, .int 0])), (q3, .inr (5, [.int 3, .ref q4, .int 0])), (q4, .inl (Z.2.1, 90, .inl (fun _ => 0)))] : va_W) ++ mems Z f 8).length + 0) 3 gcX0 rfl ((apX 0).trans rfl) (by decide) w1_144 rfl (hname.trans rfl) rfl rfl rfl (Nat.le_of_ble_eq_true rfl) (apY 0 _) dX0_init_74 (fun H locs hG => ?_)
        exact ge_vret F hG ⟨q1, q2, f, q3, q4, q5, List.append_assoc _ _ _⟩ dX0_init_77
  have hG : gG Z A sS (mems Z (fun _ => (0, 0, 0, 0)) 0 ++ cbase Z a q1 q2 (mrow (fun _ => (0, 0, 0, 0)) 0)) H locs := by rw [← mrow_0]; exact hG
  exact loop24 (8 + 1) 0 (fun _ => (0, 0, 0, 0)) (Nat.zero_le _) (by omega) _ _ hG ls (lv_sub hl [1, 0] rfl)
