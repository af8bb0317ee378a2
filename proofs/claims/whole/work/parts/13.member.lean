/-! members -/
noncomputable def b2 (P : Prop) : Int32 := @ite Int32 P (Classical.propDecidable P) 1 0
theorem b2_t {P : Prop} (h : P) : b2 P = 1 := @if_pos _ (Classical.propDecidable P) h _ _ _
theorem b2_f {P : Prop} (h : ¬ P) : b2 P = 0 := @if_neg _ (Classical.propDecidable P) h _ _ _
theorem b2_0 {P : Prop} (h : b2 P = 0) : ¬ P := fun q => by rw [b2_t q] at h; exact absurd h (by decide)
theorem b2_n {P : Prop} (h : ¬ b2 P = 0) : P := Classical.byContradiction fun q => h (b2_f q)
theorem b2_c {P Q : Prop} (h : P ↔ Q) : b2 P = b2 Q := by rw [propext h]
theorem b2_bool {P : Prop} : narrow .boolean (.int (b2 P)) = .int (b2 P) := by
  rcases Classical.em P with h | h
  · rw [b2_t h]; rfl
  · rw [b2_f h]; rfl
theorem b01 {x : Int32} (h : x = 0 ∨ x = 1) : narrow .boolean (.int x) = .int x ∧ fits .boolean (.int x) = true := by
  rcases h with rfl | rfl <;> exact ⟨rfl, rfl⟩
/-- the cards, a bit each -/
def crdF (M : St) (j : Nat) : Nat → Int32
  | 0 => 0
  | i + 1 => if M 16 j (i * 4 + 3) = 1 then crdF M j i ||| (1 <<< (M 16 j (i * 4 + 1) &&& 31)) else crdF M j i
def hasP (M : St) (j : Nat) (st day : Int32) (s : Nat) : Prop := ∃ k, k < s ∧ M 16 j (k * 4 + 1) = st ∧ M 16 j (k * 4 + 0) / 24 = day
def adlF (M : St) (j L : Nat) (h st s : Int32) : St := mu (mu (mu (mu (mu M 16 j (L * 4 + 0) h) 16 j (L * 4 + 1) st) 16 j (L * 4 + 2) s) 16 j (L * 4 + 3) 0) 15 j 0 (nI (L + 1))
def takF (M : St) (j k : Nat) : St := if M 16 j (k * 4 + 2) < 8 then M else mu M 16 j (k * 4 + 3) 1
def weaF (M : St) (j : Nat) : St := if M 14 j 0 = 0 then M else if M 11 j 0 ≤ 0 then M else mu M 11 j 0 (M 11 j 0 - 1)
def begF (M : St) (j : Nat) (t a : Int32) : St := mu (mu (mu (mu (tuneF M j t 0) 10 j 0 a) 11 j 0 9) 14 j 0 1) 15 j 0 0
/-- set j takes set k's numbers -/
def cpS (M : St) (j k : Nat) : St := mu (mu (mu (mu (mu (mu M 8 j 0 (M 8 k 0)) 9 j 0 (M 9 k 0)) 10 j 0 (M 10 k 0)) 11 j 0 (M 11 k 0)) 12 j 0 (M 12 k 0)) 13 j 0 (M 13 k 0)
def cpM (M : St) (j k : Nat) : St := mu (cpN (mu (cpS M j k) 15 j 0 (M 15 k 0)) j k 160) 14 j 0 (M 14 k 0)
set_option maxRecDepth 100000 in
set_option maxHeartbeats 4000000 in
theorem c_X3_begin (Z : gZ) (l : Launch) (AD : Nat → Nat) (M : St) (n : Nat) (hn : 78 ≤ n) (j : Nat) (hj : j < 16) (t a : Int32) : gM Z l yX3_begin cX3_begin 3 none ({ frames := 2, cells := 0, slots := 0, locals := 46 } : Room) [.ref (AD (26 + j)), .int t, .int a] (wC Z AD M n) (none) (wC Z AD (begF M j t a) n) 0 0 := by
  refine gM_of (by decide +kernel) (Nat.le_of_ble_eq_true rfl) ?_
  intro pP eE sS mI aA bB mE cC A F hname hG ls hl
  have hx := F.1
  have hb := F.2.1
  have hl : lv_has ls 3 [(0, .ref (AD (26 + j))), (1, .int t), (2, .int a)] := hl
  refine lv_aload_n hx hb dX3_begin_0 rfl (lv_at hl 0 rfl) ?_
  refine gg_get F hG (ci := 3) (v := .ref (AD (9 + j))) 0 gcX3 rfl (gC_memb hj hn) (by decide) w1_102 rfl dX3_begin_1 ?_
  refine lv_iload_n hx hb dX3_begin_4 rfl (lv_at hl 1 rfl) ?_
  refine lv_iconst (v := 0) hx hb dX3_begin_5 (by decide) ?_
  refine gg_callV F hG (ci := 1) (As := [.int t, .int 0]) (rest := []) (c_X1_tune Z l AD M _ hn j (by omega) t 0) kY_X1_tune kV_X1_tune (gC_cset (by omega) hn) rfl rfl w2_189 rfl ⟨rfl, rfl⟩ ⟨(Nat.le_of_ble_eq_true rfl), (Nat.le_of_ble_eq_true rfl)⟩ rfl (Nat.le_of_ble_eq_true rfl) hl.1 ⟨Nat.zero_le _, Nat.zero_le _⟩ dX3_begin_6 rfl (fun H locs hG => ?_)
  refine lv_aload_n hx hb dX3_begin_9 rfl (lv_at hl 0 rfl) ?_
  refine gg_get F hG (ci := 3) (v := .ref (AD (9 + j))) 0 gcX3 rfl (gC_memb hj hn) (by decide) w1_102 rfl dX3_begin_10 ?_
  refine lv_iload_n hx hb dX3_begin_13 rfl (lv_at hl 2 rfl) ?_
  refine gg_putN F hG (ci := 1) 2 gcX1 rfl (gC_cset (by omega) hn) (by decide) wn_5 rfl rfl rfl (Nat.le_of_ble_eq_true rfl) (pC_10 (by omega)) dX3_begin_14 (fun H locs hG => ?_)
  have hG : gG Z A sS (wC Z AD (mu (tuneF M j t 0) 10 j 0 a) n) H locs := hG
  refine lv_aload_n hx hb dX3_begin_17 rfl (lv_at hl 0 rfl) ?_
  refine gg_get F hG (ci := 3) (v := .ref (AD (9 + j))) 0 gcX3 rfl (gC_memb hj hn) (by decide) w1_102 rfl dX3_begin_18 ?_
  refine lv_bipush (v := 9) hx hb dX3_begin_21 (by decide) ?_
  refine gg_putN F hG (ci := 1) 3 gcX1 rfl (gC_cset (by omega) hn) (by decide) wn_7 rfl rfl rfl (Nat.le_of_ble_eq_true rfl) (pC_11 (by omega)) dX3_begin_23 (fun H locs hG => ?_)
  have hG : gG Z A sS (wC Z AD (mu (mu (tuneF M j t 0) 10 j 0 a) 11 j 0 9) n) H locs := hG
  refine lv_aload_n hx hb dX3_begin_26 rfl (lv_at hl 0 rfl) ?_
  refine lv_iconst (v := 1) hx hb dX3_begin_27 (by decide) ?_
  refine gg_put F hG (ci := 3) 2 gcX3 rfl (gC_memb hj hn) (by decide) w1_108 rfl rfl rfl (Nat.le_of_ble_eq_true rfl) (pC_14 hj) dX3_begin_28 (fun H locs hG => ?_)
  have hG : gG Z A sS (wC Z AD (mu (mu (mu (tuneF M j t 0) 10 j 0 a) 11 j 0 9) 14 j 0 1) n) H locs := hG
  refine lv_aload_n hx hb dX3_begin_31 rfl (lv_at hl 0 rfl) ?_
  refine gg_get F hG (ci := 3) (v := .ref (AD (42 + j))) 1 gcX3 rfl (gC_memb hj hn) (by decide) w1_105 rfl dX3_begin_32 ?_
  refine lv_iconst (v := 0) hx hb dX3_begin_35 (by decide) ?_
  refine gg_putN F hG (ci := 5) 2 gcX5 rfl (gC_tabl (by omega) hn) (by decide) wn_13 rfl rfl rfl (Nat.le_of_ble_eq_true rfl) (pC_15 (by omega)) dX3_begin_36 (fun H locs hG => ?_)
  have hG : gG Z A sS (wC Z AD (mu (mu (mu (mu (tuneF M j t 0) 10 j 0 a) 11 j 0 9) 14 j 0 1) 15 j 0 0) n) H locs := hG
  exact gg_vret F hG rfl dX3_begin_39
set_option maxRecDepth 100000 in
set_option maxHeartbeats 4000000 in
theorem c_X3_copyFrom (Z : gZ) (l : Launch) (AD : Nat → Nat) (M : St) (n : Nat) (hn : 78 ≤ n) (j k : Nat) (hj : j < 16) (hk : k < 16) (hjk : j ≠ k) (h14 : M 14 k 0 = 0 ∨ M 14 k 0 = 1) : gM Z l yX3_copyFrom cX3_copyFrom 2 none ({ frames := 1, cells := 0, slots := 0, locals := 22 } : Room) [.ref (AD (26 + j)), .ref (AD (26 + k))] (wC Z AD M n) (none) (wC Z AD (cpM M j k) n) 0 0 := by
  refine gM_of (by decide +kernel) (Nat.le_of_ble_eq_true rfl) ?_
  intro pP eE sS mI aA bB mE cC A F hname hG ls hl
  have hx := F.1
  have hb := F.2.1
  have hl : lv_has ls 2 [(0, .ref (AD (26 + j))), (1, .ref (AD (26 + k)))] := hl
  refine lv_aload_n hx hb dX3_copyFrom_0 rfl (lv_at hl 0 rfl) ?_
  refine gg_get F hG (ci := 3) (v := .ref (AD (9 + j))) 0 gcX3 rfl (gC_memb hj hn) (by decide) w1_102 rfl dX3_copyFrom_1 ?_
  refine lv_aload_n hx hb dX3_copyFrom_4 rfl (lv_at hl 1 rfl) ?_
  refine gg_get F hG (ci := 3) (v := .ref (AD (9 + k))) 0 gcX3 rfl (gC_memb hk hn) (by decide) w1_102 rfl dX3_copyFrom_5 ?_
  refine gg_callV F hG (ci := 1) (As := [.ref (AD (9 + k))]) (rest := []) (c_X1_copyFrom Z l AD M _ hn j k (by omega) (by omega)) kY_X1_copyFrom kV_X1_copyFrom (gC_cset (by omega) hn) rfl rfl w4_20 rfl ⟨rfl, rfl⟩ ⟨(Nat.le_of_ble_eq_true rfl), (Nat.le_of_ble_eq_true rfl)⟩ rfl (Nat.le_of_ble_eq_true rfl) hl.1 ⟨Nat.zero_le _, Nat.zero_le _⟩ dX3_copyFrom_8 rfl (fun H locs hG => ?_)
  refine lv_aload_n hx hb dX3_copyFrom_11 rfl (lv_at hl 0 rfl) ?_
  refine gg_get F hG (ci := 3) (v := .ref (AD (42 + j))) 1 gcX3 rfl (gC_memb hj hn) (by decide) w1_105 rfl dX3_copyFrom_12 ?_
  refine lv_aload_n hx hb dX3_copyFrom_15 rfl (lv_at hl 1 rfl) ?_
  refine gg_get F hG (ci := 3) (v := .ref (AD (42 + k))) 1 gcX3 rfl (gC_memb hk hn) (by decide) w1_105 rfl dX3_copyFrom_16 ?_
  refine gg_callV F hG (ci := 5) (As := [.ref (AD (42 + k))]) (rest := []) (c_X5_copyFrom Z l AD (cpS M j k) _ hn j k 160 (by omega) (by omega) (by omega) (if_pos (by omega)) (if_pos (by omega)) (by omega)) kY_X5_copyFrom kV_X5_copyFrom (gC_tabl (by omega) hn) rfl rfl w4_21 rfl ⟨rfl, rfl⟩ ⟨(Nat.le_of_ble_eq_true rfl), (Nat.le_of_ble_eq_true rfl)⟩ rfl (Nat.le_of_ble_eq_true rfl) hl.1 ⟨Nat.zero_le _, Nat.zero_le _⟩ dX3_copyFrom_19 rfl (fun H locs hG => ?_)
  refine lv_aload_n hx hb dX3_copyFrom_22 rfl (lv_at hl 0 rfl) ?_
  refine lv_aload_n hx hb dX3_copyFrom_23 rfl (lv_at hl 1 rfl) ?_
  refine gg_get F hG (ci := 3) (v := .int ((cpN (mu (cpS M j k) 15 j 0 ((cpS M j k) 15 k 0)) j k 160) 14 k 0)) 2 gcX3 rfl (gC_memb hk hn) (by decide) w1_108 rfl dX3_copyFrom_24 ?_
  refine gg_put F hG (ci := 3) 2 gcX3 rfl (gC_memb hj hn) (by decide) w1_108 rfl (b01 h14).1 (b01 h14).2 (Nat.le_of_ble_eq_true rfl) (pC_14 hj) dX3_copyFrom_27 (fun H locs hG => ?_)
  have hG : gG Z A sS (wC Z AD (mu (cpN (mu (cpS M j k) 15 j 0 ((cpS M j k) 15 k 0)) j k 160) 14 j 0 ((cpN (mu (cpS M j k) 15 j 0 ((cpS M j k) 15 k 0)) j k 160) 14 k 0)) n) H locs := hG
  exact gg_vret F hG rfl dX3_copyFrom_30
set_option maxRecDepth 100000 in
set_option maxHeartbeats 4000000 in
theorem c_X3_hasLineOf (Z : gZ) (l : Launch) (AD : Nat → Nat) (M : St) (n : Nat) (hn : 78 ≤ n) (j s : Nat) (hj : j < 16) (hs : M 15 j 0 = nI s) (hs2 : s ≤ 40) (st day : Int32) : gM Z l yX3_hasLineOf cX3_hasLineOf 4 (some .boolean) ({ frames := 1, cells := 0, slots := 0, locals := 23 } : Room) [.ref (AD (26 + j)), .int st, .int day] (wC Z AD M n) (some (.int (b2 (hasP M j st day s)))) (wC Z AD M n) 0 0 := by
  refine gM_of (by decide +kernel) (Nat.le_of_ble_eq_true rfl) ?_
  intro pP eE sS mI aA bB mE cC A F hname hG ls hl
  have hx := F.1
  have hb := F.2.1
  have hl : lv_has ls 4 [(0, .ref (AD (26 + j))), (1, .int st), (2, .int day)] := hl
  refine lv_iconst (v := nI 0) hx hb dX3_hasLineOf_0 rfl ?_
  refine lv_istore_n (lv' := [(3, .int (nI 0)), (0, .ref (AD (26 + j))), (1, .int st), (2, .int day)]) hx hb dX3_hasLineOf_1 rfl hl (by decide) rfl (fun ls hl => ?_)
  have loop2 : ∀ (fuQ i : Nat), i ≤ s → s + 1 ≤ i + fuQ → (∀ k, k < i → ¬ (M 16 j (k * 4 + 1) = st ∧ M 16 j (k * 4 + 0) / 24 = day)) → ∀ (H : Heap) (locs : List Loc), gG Z A sS (wC Z AD M n) H locs → ∀ ls : Array Slot, lv_has ls 4 [(0, .ref (AD (26 + j))), (1, .int st), (2, .int day), (3, .int (nI i))] → W pP l eE ({ frames := 1, cells := 0, slots := 0, locals := 23 } : Room) sS mI aA bB mE cC H locs 0 0 (MQ bB (gQ Z A (some (.int (b2 (hasP M j st day s)))) (wC Z AD M n)) aA sS 0 0 A) (F0 mI 2 ls []) := by
    intro fuQ
    induction fuQ with
    | zero =>
      intro i h1 h2
      exact absurd h2 (by omega)
    | succ fuQ ih2 =>
      intro i hleQ hfuQ hno H locs hG ls hl
      by_cases hlt : i < s
      · refine lv_iload_n hx hb dX3_hasLineOf_2 rfl (lv_at hl 3 rfl) ?_
        refine lv_aload_n hx hb dX3_hasLineOf_3 rfl (lv_at hl 0 rfl) ?_
        refine gg_get F hG (ci := 3) (v := .ref (AD (42 + j))) 1 gcX3 rfl (gC_memb hj hn) (by decide) w1_105 rfl dX3_hasLineOf_4 ?_
        refine gg_getN F hG (ci := 5) (v := .int (nI s)) 2 gcX5 rfl (gC_tabl (by omega) hn) (by decide) wn_13 (congrArg (fun z => some (Value.int z)) hs) dX3_hasLineOf_7 ?_
        refine lv_icmp_ge (tgt := 50) hx hb dX3_hasLineOf_10 (by decide) (fun h10 => absurd h10 (nI_ge hlt (by omega))) (fun h10 => ?_)
        refine lv_aload_n hx hb dX3_hasLineOf_13 rfl (lv_at hl 0 rfl) ?_
        refine gg_get F hG (ci := 3) (v := .ref (AD (42 + j))) 1 gcX3 rfl (gC_memb hj hn) (by decide) w1_105 rfl dX3_hasLineOf_14 ?_
        refine lv_iload_n hx hb dX3_hasLineOf_17 rfl (lv_at hl 3 rfl) ?_
        refine lv_iconst (v := 1) hx hb dX3_hasLineOf_18 (by decide) ?_
        refine gg_callV F hG (ci := 5) (As := [.int (nI i), .int 1]) (rest := []) (c_X5_at Z l AD M _ hn j i 1 4 160 (by omega) (if_pos (by omega)) (if_pos (by omega)) (by omega) (by omega)) kY_X5_at kV_X5_at (gC_tabl (by omega) hn) rfl rfl w2_17 rfl ⟨rfl, rfl⟩ ⟨(Nat.le_of_ble_eq_true rfl), (Nat.le_of_ble_eq_true rfl)⟩ rfl (Nat.le_of_ble_eq_true rfl) hl.1 ⟨Nat.zero_le _, Nat.zero_le _⟩ dX3_hasLineOf_19 rfl (fun H locs hG => ?_)
        refine lv_iload_n hx hb dX3_hasLineOf_22 rfl (lv_at hl 1 rfl) ?_
        refine lv_icmp_ne (tgt := 44) hx hb dX3_hasLineOf_23 (by decide) (fun h23 => ?_) (fun h23 => ?_)
        · refine lv_iinc (v := nI (i + 1)) (lv' := [(3, .int (nI (i + 1))), (0, .ref (AD (26 + j))), (1, .int st), (2, .int day)]) hx hb dX3_hasLineOf_44 hl (k := 3) rfl (nI_1 _) (by decide) rfl (fun ls hl => ?_)
          refine lv_goto (tgt := 2) hx hb dX3_hasLineOf_47 (by decide) ?_
          exact ih2 (i + 1) (by omega) (by omega) (lt_s hno (fun z => h23 z.1)) _ _ hG ls (lv_sub hl [1, 2, 3, 0] rfl)
        · refine lv_aload_n hx hb dX3_hasLineOf_26 rfl (lv_at hl 0 rfl) ?_
          refine gg_get F hG (ci := 3) (v := .ref (AD (42 + j))) 1 gcX3 rfl (gC_memb hj hn) (by decide) w1_105 rfl dX3_hasLineOf_27 ?_
          refine lv_iload_n hx hb dX3_hasLineOf_30 rfl (lv_at hl 3 rfl) ?_
          refine lv_iconst (v := 0) hx hb dX3_hasLineOf_31 (by decide) ?_
          refine gg_callV F hG (ci := 5) (As := [.int (nI i), .int 0]) (rest := []) (c_X5_at Z l AD M _ hn j i 0 4 160 (by omega) (if_pos (by omega)) (if_pos (by omega)) (by omega) (by omega)) kY_X5_at kV_X5_at (gC_tabl (by omega) hn) rfl rfl w2_17 rfl ⟨rfl, rfl⟩ ⟨(Nat.le_of_ble_eq_true rfl), (Nat.le_of_ble_eq_true rfl)⟩ rfl (Nat.le_of_ble_eq_true rfl) hl.1 ⟨Nat.zero_le _, Nat.zero_le _⟩ dX3_hasLineOf_32 rfl (fun H locs hG => ?_)
          refine lv_bipush (v := 24) hx hb dX3_hasLineOf_35 (by decide) ?_
          refine lv_idiv hx hb dX3_hasLineOf_37 (by decide) ?_
          refine lv_iload_n hx hb dX3_hasLineOf_38 rfl (lv_at hl 2 rfl) ?_
          refine lv_icmp_ne (tgt := 44) hx hb dX3_hasLineOf_39 (by decide) (fun h39 => ?_) (fun h39 => ?_)
          · refine lv_iinc (v := nI (i + 1)) (lv' := [(3, .int (nI (i + 1))), (0, .ref (AD (26 + j))), (1, .int st), (2, .int day)]) hx hb dX3_hasLineOf_44 hl (k := 3) rfl (nI_1 _) (by decide) rfl (fun ls hl => ?_)
            refine lv_goto (tgt := 2) hx hb dX3_hasLineOf_47 (by decide) ?_
            exact ih2 (i + 1) (by omega) (by omega) (lt_s hno (fun z => h39 z.2)) _ _ hG ls (lv_sub hl [1, 2, 3, 0] rfl)
          · refine lv_iconst (v := 1) hx hb dX3_hasLineOf_42 (by decide) ?_
            exact gg_iret F hG rfl ((b2_t ⟨i, hlt, h23, h39⟩).symm) rfl dX3_hasLineOf_43
      · have hN : s = i := by omega
        subst hN
        refine lv_iload_n hx hb dX3_hasLineOf_2 rfl (lv_at hl 3 rfl) ?_
        refine lv_aload_n hx hb dX3_hasLineOf_3 rfl (lv_at hl 0 rfl) ?_
        refine gg_get F hG (ci := 3) (v := .ref (AD (42 + j))) 1 gcX3 rfl (gC_memb hj hn) (by decide) w1_105 rfl dX3_hasLineOf_4 ?_
        refine gg_getN F hG (ci := 5) (v := .int (nI s)) 2 gcX5 rfl (gC_tabl (by omega) hn) (by decide) wn_13 (congrArg (fun z => some (Value.int z)) hs) dX3_hasLineOf_7 ?_
        refine lv_icmp_ge (tgt := 50) hx hb dX3_hasLineOf_10 (by decide) (fun h10 => ?_) (fun h10 => absurd (nI_le (Nat.le_refl _) (by omega)) h10)
        refine lv_iconst (v := 0) hx hb dX3_hasLineOf_50 (by decide) ?_
        exact gg_iret F hG rfl ((b2_f (fun ⟨k, hk, z1, z2⟩ => hno k hk ⟨z1, z2⟩)).symm) rfl dX3_hasLineOf_51
  exact loop2 (s + 1) 0 (Nat.zero_le _) (by omega) lt_0 _ _ hG ls (lv_sub hl [1, 2, 3, 0] rfl)
set_option maxRecDepth 100000 in
set_option maxHeartbeats 4000000 in
theorem c_X3_cards (Z : gZ) (l : Launch) (AD : Nat → Nat) (M : St) (n : Nat) (hn : 78 ≤ n) (j s : Nat) (hj : j < 16) (hs : M 15 j 0 = nI s) (hs2 : s ≤ 40) : gM Z l yX3_cards cX3_cards 3 (some .int) ({ frames := 1, cells := 0, slots := 0, locals := 23 } : Room) [.ref (AD (26 + j))] (wC Z AD M n) (some (.int (crdF M j s))) (wC Z AD M n) 0 0 := by
  refine gM_of (by decide +kernel) (Nat.le_of_ble_eq_true rfl) ?_
  intro pP eE sS mI aA bB mE cC A F hname hG ls hl
  have hx := F.1
  have hb := F.2.1
  have hl : lv_has ls 3 [(0, .ref (AD (26 + j)))] := hl
  refine lv_iconst (v := 0) hx hb dX3_cards_0 (by decide) ?_
  refine lv_istore_n (lv' := [(1, .int 0), (0, .ref (AD (26 + j)))]) hx hb dX3_cards_1 rfl hl (by decide) rfl (fun ls hl => ?_)
  refine lv_iconst (v := nI 0) hx hb dX3_cards_2 rfl ?_
  refine lv_istore_n (lv' := [(2, .int (nI 0)), (1, .int 0), (0, .ref (AD (26 + j)))]) hx hb dX3_cards_3 rfl hl (by decide) rfl (fun ls hl => ?_)
  have loop4 : ∀ (fuQ i : Nat), i ≤ s → s + 1 ≤ i + fuQ → ∀ (H : Heap) (locs : List Loc), gG Z A sS (wC Z AD M n) H locs → ∀ ls : Array Slot, lv_has ls 3 [(0, .ref (AD (26 + j))), (1, .int (crdF M j i)), (2, .int (nI i))] → W pP l eE ({ frames := 1, cells := 0, slots := 0, locals := 23 } : Room) sS mI aA bB mE cC H locs 0 0 (MQ bB (gQ Z A (some (.int (crdF M j s))) (wC Z AD M n)) aA sS 0 0 A) (F0 mI 4 ls []) := by
    intro fuQ
    induction fuQ with
    | zero =>
      intro i h1 h2
      exact absurd h2 (by omega)
    | succ fuQ ih4 =>
      intro i hleQ hfuQ H locs hG ls hl
      by_cases hlt : i < s
      · refine lv_iload_n hx hb dX3_cards_4 rfl (lv_at hl 2 rfl) ?_
        refine lv_aload_n hx hb dX3_cards_5 rfl (lv_at hl 0 rfl) ?_
        refine gg_get F hG (ci := 3) (v := .ref (AD (42 + j))) 1 gcX3 rfl (gC_memb hj hn) (by decide) w1_105 rfl dX3_cards_6 ?_
        refine gg_getN F hG (ci := 5) (v := .int (nI s)) 2 gcX5 rfl (gC_tabl (by omega) hn) (by decide) wn_13 (congrArg (fun z => some (Value.int z)) hs) dX3_cards_9 ?_
        refine lv_icmp_ge (tgt := 48) hx hb dX3_cards_12 (by decide) (fun h12 => absurd h12 (nI_ge hlt (by omega))) (fun h12 => ?_)
        refine lv_aload_n hx hb dX3_cards_15 rfl (lv_at hl 0 rfl) ?_
        refine gg_get F hG (ci := 3) (v := .ref (AD (42 + j))) 1 gcX3 rfl (gC_memb hj hn) (by decide) w1_105 rfl dX3_cards_16 ?_
        refine lv_iload_n hx hb dX3_cards_19 rfl (lv_at hl 2 rfl) ?_
        refine lv_iconst (v := 3) hx hb dX3_cards_20 (by decide) ?_
        refine gg_callV F hG (ci := 5) (As := [.int (nI i), .int 3]) (rest := []) (c_X5_at Z l AD M _ hn j i 3 4 160 (by omega) (if_pos (by omega)) (if_pos (by omega)) (by omega) (by omega)) kY_X5_at kV_X5_at (gC_tabl (by omega) hn) rfl rfl w2_17 rfl ⟨rfl, rfl⟩ ⟨(Nat.le_of_ble_eq_true rfl), (Nat.le_of_ble_eq_true rfl)⟩ rfl (Nat.le_of_ble_eq_true rfl) hl.1 ⟨Nat.zero_le _, Nat.zero_le _⟩ dX3_cards_21 rfl (fun H locs hG => ?_)
        refine lv_iconst (v := 1) hx hb dX3_cards_24 (by decide) ?_
        refine lv_icmp_ne (tgt := 42) hx hb dX3_cards_25 (by decide) (fun h25 => ?_) (fun h25 => ?_)
        · refine lv_iinc (v := nI (i + 1)) (lv' := [(2, .int (nI (i + 1))), (0, .ref (AD (26 + j))), (1, .int (crdF M j i))]) hx hb dX3_cards_42 hl (k := 2) rfl (nI_1 _) (by decide) rfl (fun ls hl => ?_)
          refine lv_goto (tgt := 4) hx hb dX3_cards_45 (by decide) ?_
          rw [show crdF M j i = crdF M j (i + 1) from (if_neg h25).symm] at hl
          exact ih4 (i + 1) (by omega) (by omega) _ _ hG ls (lv_sub hl [1, 2, 0] rfl)
        · refine lv_iload_n hx hb dX3_cards_28 rfl (lv_at hl 1 rfl) ?_
          refine lv_iconst (v := 1) hx hb dX3_cards_29 (by decide) ?_
          refine lv_aload_n hx hb dX3_cards_30 rfl (lv_at hl 0 rfl) ?_
          refine gg_get F hG (ci := 3) (v := .ref (AD (42 + j))) 1 gcX3 rfl (gC_memb hj hn) (by decide) w1_105 rfl dX3_cards_31 ?_
          refine lv_iload_n hx hb dX3_cards_34 rfl (lv_at hl 2 rfl) ?_
          refine lv_iconst (v := 1) hx hb dX3_cards_35 (by decide) ?_
          refine gg_callV F hG (ci := 5) (As := [.int (nI i), .int 1]) (rest := [.int 1, .int (crdF M j i)]) (c_X5_at Z l AD M _ hn j i 1 4 160 (by omega) (if_pos (by omega)) (if_pos (by omega)) (by omega) (by omega)) kY_X5_at kV_X5_at (gC_tabl (by omega) hn) rfl rfl w2_17 rfl ⟨rfl, rfl⟩ ⟨(Nat.le_of_ble_eq_true rfl), (Nat.le_of_ble_eq_true rfl)⟩ rfl (Nat.le_of_ble_eq_true rfl) hl.1 ⟨Nat.zero_le _, Nat.zero_le _⟩ dX3_cards_36 rfl (fun H locs hG => ?_)
          refine lv_ishl hx hb dX3_cards_39 ?_
          refine lv_ior hx hb dX3_cards_40 ?_
          refine lv_istore_n (lv' := [(1, .int ((crdF M j i) ||| (1 <<< ((M 16 j (i * 4 + 1)) &&& 31)))), (0, .ref (AD (26 + j))), (2, .int (nI i))]) hx hb dX3_cards_41 rfl hl (by decide) rfl (fun ls hl => ?_)
          refine lv_iinc (v := nI (i + 1)) (lv' := [(2, .int (nI (i + 1))), (1, .int ((crdF M j i) ||| (1 <<< ((M 16 j (i * 4 + 1)) &&& 31)))), (0, .ref (AD (26 + j)))]) hx hb dX3_cards_42 hl (k := 2) rfl (nI_1 _) (by decide) rfl (fun ls hl => ?_)
          refine lv_goto (tgt := 4) hx hb dX3_cards_45 (by decide) ?_
          rw [show (crdF M j i ||| (1 <<< (M 16 j (i * 4 + 1) &&& 31)) : Int32) = crdF M j (i + 1) from (if_pos h25).symm] at hl
          exact ih4 (i + 1) (by omega) (by omega) _ _ hG ls (lv_sub hl [2, 1, 0] rfl)
      · have hN : s = i := by omega
        subst hN
        refine lv_iload_n hx hb dX3_cards_4 rfl (lv_at hl 2 rfl) ?_
        refine lv_aload_n hx hb dX3_cards_5 rfl (lv_at hl 0 rfl) ?_
        refine gg_get F hG (ci := 3) (v := .ref (AD (42 + j))) 1 gcX3 rfl (gC_memb hj hn) (by decide) w1_105 rfl dX3_cards_6 ?_
        refine gg_getN F hG (ci := 5) (v := .int (nI s)) 2 gcX5 rfl (gC_tabl (by omega) hn) (by decide) wn_13 (congrArg (fun z => some (Value.int z)) hs) dX3_cards_9 ?_
        refine lv_icmp_ge (tgt := 48) hx hb dX3_cards_12 (by decide) (fun h12 => ?_) (fun h12 => absurd (nI_le (Nat.le_refl _) (by omega)) h12)
        refine lv_iload_n hx hb dX3_cards_48 rfl (lv_at hl 1 rfl) ?_
        exact gg_iret F hG rfl rfl rfl dX3_cards_49
  exact loop4 (s + 1) 0 (Nat.zero_le _) (by omega) _ _ hG ls (lv_sub hl [2, 1, 0] rfl)
set_option maxRecDepth 100000 in
set_option maxHeartbeats 4000000 in
theorem c_X3_addLine (Z : gZ) (l : Launch) (AD : Nat → Nat) (M : St) (n : Nat) (hn : 78 ≤ n) (j s : Nat) (hj : j < 16) (hs : M 15 j 0 = nI s) (hs2 : s < 40) (h st x : Int32) : gM Z l yX3_addLine cX3_addLine 5 none ({ frames := 1, cells := 0, slots := 0, locals := 24 } : Room) [.ref (AD (26 + j)), .int h, .int st, .int x] (wC Z AD M n) (none) (wC Z AD (adlF M j s h st x) n) 0 0 := by
  refine gM_of (by decide +kernel) (Nat.le_of_ble_eq_true rfl) ?_
  intro pP eE sS mI aA bB mE cC A F hname hG ls hl
  have hx := F.1
  have hb := F.2.1
  have hl : lv_has ls 5 [(0, .ref (AD (26 + j))), (1, .int h), (2, .int st), (3, .int x)] := hl
  refine lv_aload_n hx hb dX3_addLine_0 rfl (lv_at hl 0 rfl) ?_
  refine gg_get F hG (ci := 3) (v := .ref (AD (42 + j))) 1 gcX3 rfl (gC_memb hj hn) (by decide) w1_105 rfl dX3_addLine_1 ?_
  refine gg_getN F hG (ci := 5) (v := .int (nI s)) 2 gcX5 rfl (gC_tabl (by omega) hn) (by decide) wn_13 (congrArg (fun z => some (Value.int z)) hs) dX3_addLine_4 ?_
  refine lv_istore (lv' := [(4, .int (nI s)), (0, .ref (AD (26 + j))), (1, .int h), (2, .int st), (3, .int x)]) hx hb dX3_addLine_7 hl (by decide) rfl (fun ls hl => ?_)
  refine lv_aload_n hx hb dX3_addLine_9 rfl (lv_at hl 1 rfl) ?_
  refine gg_get F hG (ci := 3) (v := .ref (AD (42 + j))) 1 gcX3 rfl (gC_memb hj hn) (by decide) w1_105 rfl dX3_addLine_10 ?_
  refine lv_iload hx hb dX3_addLine_13 (lv_at hl 0 rfl) ?_
  refine lv_iconst (v := 0) hx hb dX3_addLine_15 (by decide) ?_
  refine lv_iload_n hx hb dX3_addLine_16 rfl (lv_at hl 2 rfl) ?_
  refine gg_callV F hG (ci := 5) (As := [.int (nI s), .int 0, .int h]) (rest := []) (c_X5_put Z l AD M _ hn j s 0 4 160 (by omega) (if_pos (by omega)) (if_pos (by omega)) (by omega) (by omega) h) kY_X5_put kV_X5_put (gC_tabl (by omega) hn) rfl rfl w3_154 rfl ⟨rfl, rfl⟩ ⟨(Nat.le_of_ble_eq_true rfl), (Nat.le_of_ble_eq_true rfl)⟩ rfl (Nat.le_of_ble_eq_true rfl) hl.1 ⟨Nat.zero_le _, Nat.zero_le _⟩ dX3_addLine_17 rfl (fun H locs hG => ?_)
  refine lv_aload_n hx hb dX3_addLine_20 rfl (lv_at hl 1 rfl) ?_
  refine gg_get F hG (ci := 3) (v := .ref (AD (42 + j))) 1 gcX3 rfl (gC_memb hj hn) (by decide) w1_105 rfl dX3_addLine_21 ?_
  refine lv_iload hx hb dX3_addLine_24 (lv_at hl 0 rfl) ?_
  refine lv_iconst (v := 1) hx hb dX3_addLine_26 (by decide) ?_
  refine lv_iload_n hx hb dX3_addLine_27 rfl (lv_at hl 3 rfl) ?_
  refine gg_callV F hG (ci := 5) (As := [.int (nI s), .int 1, .int st]) (rest := []) (c_X5_put Z l AD (mu M 16 j (s * 4 + 0) h) _ hn j s 1 4 160 (by omega) (if_pos (by omega)) (if_pos (by omega)) (by omega) (by omega) st) kY_X5_put kV_X5_put (gC_tabl (by omega) hn) rfl rfl w3_154 rfl ⟨rfl, rfl⟩ ⟨(Nat.le_of_ble_eq_true rfl), (Nat.le_of_ble_eq_true rfl)⟩ rfl (Nat.le_of_ble_eq_true rfl) hl.1 ⟨Nat.zero_le _, Nat.zero_le _⟩ dX3_addLine_28 rfl (fun H locs hG => ?_)
  refine lv_aload_n hx hb dX3_addLine_31 rfl (lv_at hl 1 rfl) ?_
  refine gg_get F hG (ci := 3) (v := .ref (AD (42 + j))) 1 gcX3 rfl (gC_memb hj hn) (by decide) w1_105 rfl dX3_addLine_32 ?_
  refine lv_iload hx hb dX3_addLine_35 (lv_at hl 0 rfl) ?_
  refine lv_iconst (v := 2) hx hb dX3_addLine_37 (by decide) ?_
  refine lv_iload_n hx hb dX3_addLine_38 rfl (lv_at hl 4 rfl) ?_
  refine gg_callV F hG (ci := 5) (As := [.int (nI s), .int 2, .int x]) (rest := []) (c_X5_put Z l AD (mu (mu M 16 j (s * 4 + 0) h) 16 j (s * 4 + 1) st) _ hn j s 2 4 160 (by omega) (if_pos (by omega)) (if_pos (by omega)) (by omega) (by omega) x) kY_X5_put kV_X5_put (gC_tabl (by omega) hn) rfl rfl w3_154 rfl ⟨rfl, rfl⟩ ⟨(Nat.le_of_ble_eq_true rfl), (Nat.le_of_ble_eq_true rfl)⟩ rfl (Nat.le_of_ble_eq_true rfl) hl.1 ⟨Nat.zero_le _, Nat.zero_le _⟩ dX3_addLine_39 rfl (fun H locs hG => ?_)
  refine lv_aload_n hx hb dX3_addLine_42 rfl (lv_at hl 1 rfl) ?_
  refine gg_get F hG (ci := 3) (v := .ref (AD (42 + j))) 1 gcX3 rfl (gC_memb hj hn) (by decide) w1_105 rfl dX3_addLine_43 ?_
  refine lv_iload hx hb dX3_addLine_46 (lv_at hl 0 rfl) ?_
  refine lv_iconst (v := 3) hx hb dX3_addLine_48 (by decide) ?_
  refine lv_iconst (v := 0) hx hb dX3_addLine_49 (by decide) ?_
  refine gg_callV F hG (ci := 5) (As := [.int (nI s), .int 3, .int 0]) (rest := []) (c_X5_put Z l AD (mu (mu (mu M 16 j (s * 4 + 0) h) 16 j (s * 4 + 1) st) 16 j (s * 4 + 2) x) _ hn j s 3 4 160 (by omega) (if_pos (by omega)) (if_pos (by omega)) (by omega) (by omega) 0) kY_X5_put kV_X5_put (gC_tabl (by omega) hn) rfl rfl w3_154 rfl ⟨rfl, rfl⟩ ⟨(Nat.le_of_ble_eq_true rfl), (Nat.le_of_ble_eq_true rfl)⟩ rfl (Nat.le_of_ble_eq_true rfl) hl.1 ⟨Nat.zero_le _, Nat.zero_le _⟩ dX3_addLine_50 rfl (fun H locs hG => ?_)
  refine lv_aload_n hx hb dX3_addLine_53 rfl (lv_at hl 1 rfl) ?_
  refine gg_get F hG (ci := 3) (v := .ref (AD (42 + j))) 1 gcX3 rfl (gC_memb hj hn) (by decide) w1_105 rfl dX3_addLine_54 ?_
  refine lv_dup hx hb dX3_addLine_57 rfl ?_
  refine gg_getN F hG (ci := 5) (v := .int (nI s)) 2 gcX5 rfl (gC_tabl (by omega) hn) (by decide) wn_13 (congrArg (fun z => some (Value.int z)) hs) dX3_addLine_58 ?_
  refine lv_iconst (v := 1) hx hb dX3_addLine_61 (by decide) ?_
  refine lv_iadd hx hb dX3_addLine_62 ?_
  rw [show ((nI s) + 1 : Int32) = nI (s + 1) from nI_1 _]
  refine gg_putN F hG (ci := 5) 2 gcX5 rfl (gC_tabl (by omega) hn) (by decide) wn_13 rfl rfl rfl (Nat.le_of_ble_eq_true rfl) (pC_15 (by omega)) dX3_addLine_63 (fun H locs hG => ?_)
  have hG : gG Z A sS (wC Z AD (mu (mu (mu (mu (mu M 16 j (s * 4 + 0) h) 16 j (s * 4 + 1) st) 16 j (s * 4 + 2) x) 16 j (s * 4 + 3) 0) 15 j 0 (nI (s + 1))) n) H locs := hG
  exact gg_vret F hG rfl dX3_addLine_66
set_option maxRecDepth 100000 in
set_option maxHeartbeats 4000000 in
theorem c_X3_takeAnswer (Z : gZ) (l : Launch) (AD : Nat → Nat) (M : St) (n : Nat) (hn : 78 ≤ n) (j k : Nat) (hj : j < 16) (hk : k < 40) : gM Z l yX3_takeAnswer cX3_takeAnswer 2 none ({ frames := 1, cells := 0, slots := 0, locals := 24 } : Room) [.ref (AD (26 + j)), .int (nI k)] (wC Z AD M n) (none) (wC Z AD (takF M j k) n) 0 0 := by
  refine gM_of (by decide +kernel) (Nat.le_of_ble_eq_true rfl) ?_
  intro pP eE sS mI aA bB mE cC A F hname hG ls hl
  have hx := F.1
  have hb := F.2.1
  have hl : lv_has ls 2 [(0, .ref (AD (26 + j))), (1, .int (nI k))] := hl
  refine lv_aload_n hx hb dX3_takeAnswer_0 rfl (lv_at hl 0 rfl) ?_
  refine gg_get F hG (ci := 3) (v := .ref (AD (42 + j))) 1 gcX3 rfl (gC_memb hj hn) (by decide) w1_105 rfl dX3_takeAnswer_1 ?_
  refine lv_iload_n hx hb dX3_takeAnswer_4 rfl (lv_at hl 1 rfl) ?_
  refine lv_iconst (v := 2) hx hb dX3_takeAnswer_5 (by decide) ?_
  refine gg_callV F hG (ci := 5) (As := [.int (nI k), .int 2]) (rest := []) (c_X5_at Z l AD M _ hn j k 2 4 160 (by omega) (if_pos (by omega)) (if_pos (by omega)) (by omega) (by omega)) kY_X5_at kV_X5_at (gC_tabl (by omega) hn) rfl rfl w2_17 rfl ⟨rfl, rfl⟩ ⟨(Nat.le_of_ble_eq_true rfl), (Nat.le_of_ble_eq_true rfl)⟩ rfl (Nat.le_of_ble_eq_true rfl) hl.1 ⟨Nat.zero_le _, Nat.zero_le _⟩ dX3_takeAnswer_6 rfl (fun H locs hG => ?_)
  refine lv_bipush (v := 8) hx hb dX3_takeAnswer_9 (by decide) ?_
  refine lv_icmp_lt (tgt := 24) hx hb dX3_takeAnswer_11 (by decide) (fun h11 => ?_) (fun h11 => ?_)
  · exact gg_vret F hG (congrArg (fun q => wC Z AD q n) (Eq.symm (if_pos h11))) dX3_takeAnswer_24
  · refine lv_aload_n hx hb dX3_takeAnswer_14 rfl (lv_at hl 0 rfl) ?_
    refine gg_get F hG (ci := 3) (v := .ref (AD (42 + j))) 1 gcX3 rfl (gC_memb hj hn) (by decide) w1_105 rfl dX3_takeAnswer_15 ?_
    refine lv_iload_n hx hb dX3_takeAnswer_18 rfl (lv_at hl 1 rfl) ?_
    refine lv_iconst (v := 3) hx hb dX3_takeAnswer_19 (by decide) ?_
    refine lv_iconst (v := 1) hx hb dX3_takeAnswer_20 (by decide) ?_
    refine gg_callV F hG (ci := 5) (As := [.int (nI k), .int 3, .int 1]) (rest := []) (c_X5_put Z l AD M _ hn j k 3 4 160 (by omega) (if_pos (by omega)) (if_pos (by omega)) (by omega) (by omega) 1) kY_X5_put kV_X5_put (gC_tabl (by omega) hn) rfl rfl w3_154 rfl ⟨rfl, rfl⟩ ⟨(Nat.le_of_ble_eq_true rfl), (Nat.le_of_ble_eq_true rfl)⟩ rfl (Nat.le_of_ble_eq_true rfl) hl.1 ⟨Nat.zero_le _, Nat.zero_le _⟩ dX3_takeAnswer_21 rfl (fun H locs hG => ?_)
    exact gg_vret F hG (congrArg (fun q => wC Z AD q n) (Eq.symm (if_neg h11))) dX3_takeAnswer_24
set_option maxRecDepth 100000 in
set_option maxHeartbeats 4000000 in
theorem c_X3_wearCrystal (Z : gZ) (l : Launch) (AD : Nat → Nat) (M : St) (n : Nat) (hn : 78 ≤ n) (j : Nat) (hj : j < 16) : gM Z l yX3_wearCrystal cX3_wearCrystal 1 none ({ frames := 0, cells := 0, slots := 0, locals := 0 } : Room) [.ref (AD (26 + j))] (wC Z AD M n) (none) (wC Z AD (weaF M j) n) 0 0 := by
  refine gM_of (by decide +kernel) (Nat.le_of_ble_eq_true rfl) ?_
  intro pP eE sS mI aA bB mE cC A F hname hG ls hl
  have hx := F.1
  have hb := F.2.1
  have hl : lv_has ls 1 [(0, .ref (AD (26 + j)))] := hl
  refine lv_aload_n hx hb dX3_wearCrystal_0 rfl (lv_at hl 0 rfl) ?_
  refine gg_get F hG (ci := 3) (v := .int (M 14 j 0)) 2 gcX3 rfl (gC_memb hj hn) (by decide) w1_108 rfl dX3_wearCrystal_1 ?_
  refine lv_if_eq (tgt := 30) hx hb dX3_wearCrystal_4 (by decide) (fun h4 => ?_) (fun h4 => ?_)
  · exact gg_vret F hG (congrArg (fun q => wC Z AD q n) (Eq.symm (if_pos h4))) dX3_wearCrystal_30
  · refine lv_aload_n hx hb dX3_wearCrystal_7 rfl (lv_at hl 0 rfl) ?_
    refine gg_get F hG (ci := 3) (v := .ref (AD (9 + j))) 0 gcX3 rfl (gC_memb hj hn) (by decide) w1_102 rfl dX3_wearCrystal_8 ?_
    refine gg_getN F hG (ci := 1) (v := .int (M 11 j 0)) 3 gcX1 rfl (gC_cset (by omega) hn) (by decide) wn_7 rfl dX3_wearCrystal_11 ?_
    refine lv_if_le (tgt := 30) hx hb dX3_wearCrystal_14 (by decide) (fun h14 => ?_) (fun h14 => ?_)
    · exact gg_vret F hG (congrArg (fun q => wC Z AD q n) (Eq.symm ((if_neg h4).trans (if_pos h14)))) dX3_wearCrystal_30
    · refine lv_aload_n hx hb dX3_wearCrystal_17 rfl (lv_at hl 0 rfl) ?_
      refine gg_get F hG (ci := 3) (v := .ref (AD (9 + j))) 0 gcX3 rfl (gC_memb hj hn) (by decide) w1_102 rfl dX3_wearCrystal_18 ?_
      refine lv_dup hx hb dX3_wearCrystal_21 rfl ?_
      refine gg_getN F hG (ci := 1) (v := .int (M 11 j 0)) 3 gcX1 rfl (gC_cset (by omega) hn) (by decide) wn_7 rfl dX3_wearCrystal_22 ?_
      refine lv_iconst (v := 1) hx hb dX3_wearCrystal_25 (by decide) ?_
      refine lv_isub hx hb dX3_wearCrystal_26 ?_
      refine gg_putN F hG (ci := 1) 3 gcX1 rfl (gC_cset (by omega) hn) (by decide) wn_7 rfl rfl rfl (Nat.le_of_ble_eq_true rfl) (pC_11 (by omega)) dX3_wearCrystal_27 (fun H locs hG => ?_)
      have hG : gG Z A sS (wC Z AD (mu M 11 j 0 ((M 11 j 0) - 1)) n) H locs := hG
      exact gg_vret F hG (congrArg (fun q => wC Z AD q n) (Eq.symm ((if_neg h4).trans (if_neg h14)))) dX3_wearCrystal_30
