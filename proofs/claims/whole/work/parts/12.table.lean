/-! the class's tables and members -/
/-- the first i numbers of table u stand in table t too -/
def cpN (M : St) (t u i : Nat) : St := fun f => if f = 16 then (fun a => if a = t then (fun j => if j < i then M 16 u j else M 16 t j) else M 16 a) else M f
theorem cpN_0 {M : St} {t u : Nat} : cpN M t u 0 = M := by
  refine st_ext fun f a j => ?_
  by_cases hf : f = 16
  · by_cases ha : a = t
    · subst hf; subst ha; simp [cpN]
    · subst hf; simp [cpN, ha]
  · simp [cpN, hf]
theorem cpN_s {M : St} {t u i : Nat} (h : t ≠ u) : mu (cpN M t u i) 16 t i (cpN M t u i 16 u i) = cpN M t u (i + 1) := by
  refine st_ext fun f a j => ?_
  have hu : cpN M t u i 16 u i = M 16 u i := by simp [cpN, Ne.symm h]
  rw [hu]
  by_cases hf : f = 16
  · by_cases ha : a = t
    · subst hf; subst ha
      by_cases hj : j = i
      · subst hj; rw [mu_s]; simp [cpN]
      · rw [mu_j hj]
        by_cases hlt : j < i
        · simp [cpN, hlt, show j < i + 1 by omega]
        · simp [cpN, hlt, show ¬ j < i + 1 by omega]
    · rw [mu_ne (fun q => ha q.2)]; subst hf; simp [cpN, ha]
  · rw [mu_o hf]; simp [cpN, hf]
/-- three numbers of a letter go to another place -/
def cpR (M : St) (t fr to : Nat) : St := mu (mu (mu M 16 t (to * 3) (M 16 t (fr * 3))) 16 t (to * 3 + 1) (M 16 t (fr * 3 + 1))) 16 t (to * 3 + 2) (M 16 t (fr * 3 + 2))
/-- a column's sum -/
def sumF (M : St) (t k : Nat) : Nat → Int32
  | 0 => 0
  | i + 1 => sumF M t k i + M 16 t (i * 4 + k)
set_option maxRecDepth 100000 in
set_option maxHeartbeats 4000000 in
theorem c_X5_at (Z : gZ) (l : Launch) (AD : Nat → Nat) (M : St) (n : Nat) (hn : 78 ≤ n) (t r k q N : Nat) (ht : t < 18) (hq : (if t < 16 then (4 : Int32) else 3) = nI q) (hN : (if t < 16 then 160 else 90) = N) (hN2 : N ≤ 160) (hrk : r * q + k < N) : gM Z l yX5_at cX5_at 4 (some .int) ({ frames := 0, cells := 0, slots := 0, locals := 0 } : Room) [.ref (AD (42 + t)), .int (nI r), .int (nI k)] (wC Z AD M n) (some (.int (M 16 t (r * q + k)))) (wC Z AD M n) 0 0 := by
  refine gM_of (by decide +kernel) (Nat.le_of_ble_eq_true rfl) ?_
  intro pP eE sS mI aA bB mE cC A F hname hG ls hl
  have hx := F.1
  have hb := F.2.1
  have hl : lv_has ls 4 [(0, .ref (AD (42 + t))), (1, .int (nI r)), (2, .int (nI k))] := hl
  refine lv_iload_n hx hb dX5_at_0 rfl (lv_at hl 1 rfl) ?_
  refine lv_aload_n hx hb dX5_at_1 rfl (lv_at hl 0 rfl) ?_
  refine gg_get F hG (ci := 5) (v := .int (nI q)) 0 gcX5 rfl (gC_tabl ht hn) (by decide) w1_87 (congrArg (fun z => some (Value.int z)) hq) dX5_at_2 ?_
  refine lv_imul hx hb dX5_at_5 ?_
  rw [show ((nI r) * (nI q) : Int32) = nI (r * q) from pk_mul _ _]
  refine lv_iload_n hx hb dX5_at_6 rfl (lv_at hl 2 rfl) ?_
  refine lv_iadd hx hb dX5_at_7 ?_
  rw [show ((nI (r * q)) + (nI k) : Int32) = nI (r * q + k) from nI_add _ _]
  refine lv_istore_n (lv' := [(3, .int (nI (r * q + k))), (0, .ref (AD (42 + t))), (1, .int (nI r)), (2, .int (nI k))]) hx hb dX5_at_8 rfl hl (by decide) rfl (fun ls hl => ?_)
  refine lv_iload_n hx hb dX5_at_9 rfl (lv_at hl 0 rfl) ?_
  refine lv_if_lt (tgt := 31) hx hb dX5_at_10 (by decide) (fun h10 => absurd h10 (nI_pos (n := r * q + k) (by omega))) (fun h10 => ?_)
  refine lv_iload_n hx hb dX5_at_13 rfl (lv_at hl 0 rfl) ?_
  refine lv_aload_n hx hb dX5_at_14 rfl (lv_at hl 1 rfl) ?_
  refine gg_get F hG (ci := 5) (v := .ref (AD (60 + t))) 1 gcX5 rfl (gC_tabl ht hn) (by decide) w1_89 rfl dX5_at_15 ?_
  refine gg_alen F hG (t0 := 0) (v := nI N) (gC_cell ht hn) rfl (congrArg Int32.ofNat hN) dX5_at_18 ?_
  refine lv_icmp_ge (tgt := 31) hx hb dX5_at_19 (by decide) (fun h19 => absurd h19 (nI_ge hrk (by omega))) (fun h19 => ?_)
  refine lv_aload_n hx hb dX5_at_22 rfl (lv_at hl 1 rfl) ?_
  refine gg_get F hG (ci := 5) (v := .ref (AD (60 + t))) 1 gcX5 rfl (gC_tabl ht hn) (by decide) w1_89 rfl dX5_at_23 ?_
  refine lv_iload_n hx hb dX5_at_26 rfl (lv_at hl 0 rfl) ?_
  refine gg_ialdN F hG (r * q + k) (gC_cell ht hn) rfl (by rw [hN]; exact hrk) (by split <;> omega) dX5_at_27 ?_
  refine lv_goto (tgt := 32) hx hb dX5_at_28 (by decide) ?_
  exact gg_iret F hG rfl rfl rfl dX5_at_32
set_option maxRecDepth 100000 in
set_option maxHeartbeats 4000000 in
theorem c_X5_put (Z : gZ) (l : Launch) (AD : Nat → Nat) (M : St) (n : Nat) (hn : 78 ≤ n) (t r k q N : Nat) (ht : t < 18) (hq : (if t < 16 then (4 : Int32) else 3) = nI q) (hN : (if t < 16 then 160 else 90) = N) (hN2 : N ≤ 160) (hrk : r * q + k < N) (x : Int32) : gM Z l yX5_put cX5_put 5 none ({ frames := 0, cells := 0, slots := 0, locals := 0 } : Room) [.ref (AD (42 + t)), .int (nI r), .int (nI k), .int x] (wC Z AD M n) (none) (wC Z AD (mu M 16 t (r * q + k) x) n) 0 0 := by
  refine gM_of (by decide +kernel) (Nat.le_of_ble_eq_true rfl) ?_
  intro pP eE sS mI aA bB mE cC A F hname hG ls hl
  have hx := F.1
  have hb := F.2.1
  have hl : lv_has ls 5 [(0, .ref (AD (42 + t))), (1, .int (nI r)), (2, .int (nI k)), (3, .int x)] := hl
  refine lv_iload_n hx hb dX5_put_0 rfl (lv_at hl 1 rfl) ?_
  refine lv_aload_n hx hb dX5_put_1 rfl (lv_at hl 0 rfl) ?_
  refine gg_get F hG (ci := 5) (v := .int (nI q)) 0 gcX5 rfl (gC_tabl ht hn) (by decide) w1_87 (congrArg (fun z => some (Value.int z)) hq) dX5_put_2 ?_
  refine lv_imul hx hb dX5_put_5 ?_
  rw [show ((nI r) * (nI q) : Int32) = nI (r * q) from pk_mul _ _]
  refine lv_iload_n hx hb dX5_put_6 rfl (lv_at hl 2 rfl) ?_
  refine lv_iadd hx hb dX5_put_7 ?_
  rw [show ((nI (r * q)) + (nI k) : Int32) = nI (r * q + k) from nI_add _ _]
  refine lv_istore (lv' := [(4, .int (nI (r * q + k))), (0, .ref (AD (42 + t))), (1, .int (nI r)), (2, .int (nI k)), (3, .int x)]) hx hb dX5_put_8 hl (by decide) rfl (fun ls hl => ?_)
  refine lv_iload hx hb dX5_put_10 (lv_at hl 0 rfl) ?_
  refine lv_if_lt (tgt := 33) hx hb dX5_put_12 (by decide) (fun h12 => absurd h12 (nI_pos (n := r * q + k) (by omega))) (fun h12 => ?_)
  refine lv_iload hx hb dX5_put_15 (lv_at hl 0 rfl) ?_
  refine lv_aload_n hx hb dX5_put_17 rfl (lv_at hl 1 rfl) ?_
  refine gg_get F hG (ci := 5) (v := .ref (AD (60 + t))) 1 gcX5 rfl (gC_tabl ht hn) (by decide) w1_89 rfl dX5_put_18 ?_
  refine gg_alen F hG (t0 := 0) (v := nI N) (gC_cell ht hn) rfl (congrArg Int32.ofNat hN) dX5_put_21 ?_
  refine lv_icmp_ge (tgt := 33) hx hb dX5_put_22 (by decide) (fun h22 => absurd h22 (nI_ge hrk (by omega))) (fun h22 => ?_)
  refine lv_aload_n hx hb dX5_put_25 rfl (lv_at hl 1 rfl) ?_
  refine gg_get F hG (ci := 5) (v := .ref (AD (60 + t))) 1 gcX5 rfl (gC_tabl ht hn) (by decide) w1_89 rfl dX5_put_26 ?_
  refine lv_iload hx hb dX5_put_29 (lv_at hl 0 rfl) ?_
  refine lv_iload_n hx hb dX5_put_31 rfl (lv_at hl 4 rfl) ?_
  refine gg_iastN F hG (r * q + k) (gC_cell ht hn) rfl (by rw [hN]; exact hrk) (by split <;> omega) (pC_16 ht) dX5_put_32 (fun H locs hG => ?_)
  have hG : gG Z A sS (wC Z AD (mu M 16 t (r * q + k) x) n) H locs := hG
  exact gg_vret F hG rfl dX5_put_33
set_option maxRecDepth 100000 in
set_option maxHeartbeats 4000000 in
theorem c_X5_isFull (Z : gZ) (l : Launch) (AD : Nat → Nat) (M : St) (n : Nat) (hn : 78 ≤ n) (t q N s : Nat) (ht : t < 18) (hq : (if t < 16 then (4 : Int32) else 3) = nI q) (hN : (if t < 16 then 160 else 90) = N) (hN2 : N ≤ 160) (hs : M 15 t 0 = nI s) (hs2 : (s + 1) * q < 1000) : gM Z l yX5_isFull cX5_isFull 1 (some .boolean) ({ frames := 0, cells := 0, slots := 0, locals := 0 } : Room) [.ref (AD (42 + t))] (wC Z AD M n) (some (.int (if (s + 1) * q ≤ N then 0 else 1))) (wC Z AD M n) 0 0 := by
  refine gM_of (by decide +kernel) (Nat.le_of_ble_eq_true rfl) ?_
  intro pP eE sS mI aA bB mE cC A F hname hG ls hl
  have hx := F.1
  have hb := F.2.1
  have hl : lv_has ls 1 [(0, .ref (AD (42 + t)))] := hl
  refine lv_aload_n hx hb dX5_isFull_0 rfl (lv_at hl 0 rfl) ?_
  refine gg_get F hG (ci := 5) (v := .int (nI s)) 2 gcX5 rfl (gC_tabl ht hn) (by decide) w1_90 (congrArg (fun z => some (Value.int z)) hs) dX5_isFull_1 ?_
  refine lv_iconst (v := 1) hx hb dX5_isFull_4 (by decide) ?_
  refine lv_iadd hx hb dX5_isFull_5 ?_
  rw [show ((nI s) + 1 : Int32) = nI (s + 1) from nI_1 _]
  refine lv_aload_n hx hb dX5_isFull_6 rfl (lv_at hl 0 rfl) ?_
  refine gg_get F hG (ci := 5) (v := .int (nI q)) 0 gcX5 rfl (gC_tabl ht hn) (by decide) w1_87 (congrArg (fun z => some (Value.int z)) hq) dX5_isFull_7 ?_
  refine lv_imul hx hb dX5_isFull_10 ?_
  rw [show ((nI (s + 1)) * (nI q) : Int32) = nI ((s + 1) * q) from pk_mul _ _]
  refine lv_aload_n hx hb dX5_isFull_11 rfl (lv_at hl 0 rfl) ?_
  refine gg_get F hG (ci := 5) (v := .ref (AD (60 + t))) 1 gcX5 rfl (gC_tabl ht hn) (by decide) w1_89 rfl dX5_isFull_12 ?_
  refine gg_alen F hG (t0 := 0) (v := nI N) (gC_cell ht hn) rfl (congrArg Int32.ofNat hN) dX5_isFull_15 ?_
  refine lv_icmp_le (tgt := 23) hx hb dX5_isFull_16 (by decide) (fun h16 => ?_) (fun h16 => ?_)
  · refine lv_iconst (v := 0) hx hb dX5_isFull_23 (by decide) ?_
    exact gg_iret F hG rfl (Eq.symm (if_pos ((nI_leI (by omega) (by omega)).mp h16))) rfl dX5_isFull_24
  · refine lv_iconst (v := 1) hx hb dX5_isFull_19 (by decide) ?_
    refine lv_goto (tgt := 24) hx hb dX5_isFull_20 (by decide) ?_
    exact gg_iret F hG rfl (Eq.symm (if_neg (fun z => h16 ((nI_leI (by omega) (by omega)).mpr z)))) rfl dX5_isFull_24
set_option maxRecDepth 100000 in
set_option maxHeartbeats 4000000 in
theorem c_X5_copyRow (Z : gZ) (l : Launch) (AD : Nat → Nat) (M : St) (n : Nat) (hn : 78 ≤ n) (c fr to : Nat) (hc : c < 2) (h1 : fr < 30) (h2 : to < 30) (hft : to ≤ fr) : gM Z l yX5_copyRow cX5_copyRow 4 none ({ frames := 1, cells := 0, slots := 0, locals := 24 } : Room) [.ref (AD (42 + (16 + c))), .int (nI fr), .int (nI to)] (wC Z AD M n) (none) (wC Z AD (cpR M (16 + c) fr to) n) 0 0 := by
  refine gM_of (by decide +kernel) (Nat.le_of_ble_eq_true rfl) ?_
  intro pP eE sS mI aA bB mE cC A F hname hG ls hl
  have hx := F.1
  have hb := F.2.1
  have hl : lv_has ls 4 [(0, .ref (AD (42 + (16 + c)))), (1, .int (nI fr)), (2, .int (nI to))] := hl
  refine lv_iconst (v := nI 0) hx hb dX5_copyRow_0 rfl ?_
  refine lv_istore_n (lv' := [(3, .int (nI 0)), (0, .ref (AD (42 + (16 + c)))), (1, .int (nI fr)), (2, .int (nI to))]) hx hb dX5_copyRow_1 rfl hl (by decide) rfl (fun ls hl => ?_)
  refine lv_iload_n hx hb dX5_copyRow_2 rfl (lv_at hl 0 rfl) ?_
  refine lv_aload_n hx hb dX5_copyRow_3 rfl (lv_at hl 1 rfl) ?_
  refine gg_get F hG (ci := 5) (v := .int (nI 3)) 0 gcX5 rfl (gC_tabl (show 16 + c < 18 by omega) hn) (by decide) w1_87 (congrArg (fun z => some (Value.int z)) (if_neg (by omega))) dX5_copyRow_4 ?_
  refine lv_icmp_ge (tgt := 28) hx hb dX5_copyRow_7 (by decide) (fun h7 => absurd h7 (by decide)) (fun h7 => ?_)
  refine lv_aload_n hx hb dX5_copyRow_10 rfl (lv_at hl 1 rfl) ?_
  refine lv_iload_n hx hb dX5_copyRow_11 rfl (lv_at hl 3 rfl) ?_
  refine lv_iload_n hx hb dX5_copyRow_12 rfl (lv_at hl 0 rfl) ?_
  refine lv_aload_n hx hb dX5_copyRow_13 rfl (lv_at hl 1 rfl) ?_
  refine lv_iload_n hx hb dX5_copyRow_14 rfl (lv_at hl 2 rfl) ?_
  refine lv_iload_n hx hb dX5_copyRow_15 rfl (lv_at hl 0 rfl) ?_
  refine gg_callV F hG (ci := 5) (As := [.int (nI fr), .int (nI 0)]) (rest := [.int (nI 0), .int (nI to), .ref (AD (42 + (16 + c)))]) (c_X5_at Z l AD M _ hn (16 + c) fr 0 3 90 (show 16 + c < 18 by omega) (if_neg (by omega)) (if_neg (by omega)) (by omega) (by omega)) kY_X5_at kV_X5_at (gC_tabl (show 16 + c < 18 by omega) hn) rfl rfl w1_202 rfl ⟨rfl, rfl⟩ ⟨(Nat.le_of_ble_eq_true rfl), (Nat.le_of_ble_eq_true rfl)⟩ rfl (Nat.le_of_ble_eq_true rfl) hl.1 ⟨Nat.zero_le _, Nat.zero_le _⟩ dX5_copyRow_16 rfl (fun H locs hG => ?_)
  refine gg_callV F hG (ci := 5) (As := [.int (nI to), .int (nI 0), .int (M 16 (16 + c) (fr * 3 + 0))]) (rest := []) (c_X5_put Z l AD M _ hn (16 + c) to 0 3 90 (show 16 + c < 18 by omega) (if_neg (by omega)) (if_neg (by omega)) (by omega) (by omega) (M 16 (16 + c) (fr * 3 + 0))) kY_X5_put kV_X5_put (gC_tabl (show 16 + c < 18 by omega) hn) rfl rfl w3_171 rfl ⟨rfl, rfl⟩ ⟨(Nat.le_of_ble_eq_true rfl), (Nat.le_of_ble_eq_true rfl)⟩ rfl (Nat.le_of_ble_eq_true rfl) hl.1 ⟨Nat.zero_le _, Nat.zero_le _⟩ dX5_copyRow_19 rfl (fun H locs hG => ?_)
  refine lv_iinc (v := nI 1) (lv' := [(3, .int (nI 1)), (0, .ref (AD (42 + (16 + c)))), (1, .int (nI fr)), (2, .int (nI to))]) hx hb dX5_copyRow_22 hl (k := 0) rfl (by decide) (by decide) rfl (fun ls hl => ?_)
  refine lv_goto (tgt := 2) hx hb dX5_copyRow_25 (by decide) ?_
  refine lv_iload_n hx hb dX5_copyRow_2 rfl (lv_at hl 0 rfl) ?_
  refine lv_aload_n hx hb dX5_copyRow_3 rfl (lv_at hl 1 rfl) ?_
  refine gg_get F hG (ci := 5) (v := .int (nI 3)) 0 gcX5 rfl (gC_tabl (show 16 + c < 18 by omega) hn) (by decide) w1_87 (congrArg (fun z => some (Value.int z)) (if_neg (by omega))) dX5_copyRow_4 ?_
  refine lv_icmp_ge (tgt := 28) hx hb dX5_copyRow_7 (by decide) (fun h7 => absurd h7 (by decide)) (fun h7 => ?_)
  refine lv_aload_n hx hb dX5_copyRow_10 rfl (lv_at hl 1 rfl) ?_
  refine lv_iload_n hx hb dX5_copyRow_11 rfl (lv_at hl 3 rfl) ?_
  refine lv_iload_n hx hb dX5_copyRow_12 rfl (lv_at hl 0 rfl) ?_
  refine lv_aload_n hx hb dX5_copyRow_13 rfl (lv_at hl 1 rfl) ?_
  refine lv_iload_n hx hb dX5_copyRow_14 rfl (lv_at hl 2 rfl) ?_
  refine lv_iload_n hx hb dX5_copyRow_15 rfl (lv_at hl 0 rfl) ?_
  refine gg_callV F hG (ci := 5) (As := [.int (nI fr), .int (nI 1)]) (rest := [.int (nI 1), .int (nI to), .ref (AD (42 + (16 + c)))]) (c_X5_at Z l AD (mu M 16 (16 + c) (to * 3 + 0) (M 16 (16 + c) (fr * 3 + 0))) _ hn (16 + c) fr 1 3 90 (show 16 + c < 18 by omega) (if_neg (by omega)) (if_neg (by omega)) (by omega) (by omega)) kY_X5_at kV_X5_at (gC_tabl (show 16 + c < 18 by omega) hn) rfl rfl w1_202 rfl ⟨rfl, rfl⟩ ⟨(Nat.le_of_ble_eq_true rfl), (Nat.le_of_ble_eq_true rfl)⟩ rfl (Nat.le_of_ble_eq_true rfl) hl.1 ⟨Nat.zero_le _, Nat.zero_le _⟩ dX5_copyRow_16 rfl (fun H locs hG => ?_)
  refine gg_callV F hG (ci := 5) (As := [.int (nI to), .int (nI 1), .int ((mu M 16 (16 + c) (to * 3 + 0) (M 16 (16 + c) (fr * 3 + 0))) 16 (16 + c) (fr * 3 + 1))]) (rest := []) (c_X5_put Z l AD (mu M 16 (16 + c) (to * 3 + 0) (M 16 (16 + c) (fr * 3 + 0))) _ hn (16 + c) to 1 3 90 (show 16 + c < 18 by omega) (if_neg (by omega)) (if_neg (by omega)) (by omega) (by omega) ((mu M 16 (16 + c) (to * 3 + 0) (M 16 (16 + c) (fr * 3 + 0))) 16 (16 + c) (fr * 3 + 1))) kY_X5_put kV_X5_put (gC_tabl (show 16 + c < 18 by omega) hn) rfl rfl w3_171 rfl ⟨rfl, rfl⟩ ⟨(Nat.le_of_ble_eq_true rfl), (Nat.le_of_ble_eq_true rfl)⟩ rfl (Nat.le_of_ble_eq_true rfl) hl.1 ⟨Nat.zero_le _, Nat.zero_le _⟩ dX5_copyRow_19 rfl (fun H locs hG => ?_)
  refine lv_iinc (v := nI 2) (lv' := [(3, .int (nI 2)), (0, .ref (AD (42 + (16 + c)))), (1, .int (nI fr)), (2, .int (nI to))]) hx hb dX5_copyRow_22 hl (k := 0) rfl (by decide) (by decide) rfl (fun ls hl => ?_)
  refine lv_goto (tgt := 2) hx hb dX5_copyRow_25 (by decide) ?_
  refine lv_iload_n hx hb dX5_copyRow_2 rfl (lv_at hl 0 rfl) ?_
  refine lv_aload_n hx hb dX5_copyRow_3 rfl (lv_at hl 1 rfl) ?_
  refine gg_get F hG (ci := 5) (v := .int (nI 3)) 0 gcX5 rfl (gC_tabl (show 16 + c < 18 by omega) hn) (by decide) w1_87 (congrArg (fun z => some (Value.int z)) (if_neg (by omega))) dX5_copyRow_4 ?_
  refine lv_icmp_ge (tgt := 28) hx hb dX5_copyRow_7 (by decide) (fun h7 => absurd h7 (by decide)) (fun h7 => ?_)
  refine lv_aload_n hx hb dX5_copyRow_10 rfl (lv_at hl 1 rfl) ?_
  refine lv_iload_n hx hb dX5_copyRow_11 rfl (lv_at hl 3 rfl) ?_
  refine lv_iload_n hx hb dX5_copyRow_12 rfl (lv_at hl 0 rfl) ?_
  refine lv_aload_n hx hb dX5_copyRow_13 rfl (lv_at hl 1 rfl) ?_
  refine lv_iload_n hx hb dX5_copyRow_14 rfl (lv_at hl 2 rfl) ?_
  refine lv_iload_n hx hb dX5_copyRow_15 rfl (lv_at hl 0 rfl) ?_
  refine gg_callV F hG (ci := 5) (As := [.int (nI fr), .int (nI 2)]) (rest := [.int (nI 2), .int (nI to), .ref (AD (42 + (16 + c)))]) (c_X5_at Z l AD (mu (mu M 16 (16 + c) (to * 3 + 0) (M 16 (16 + c) (fr * 3 + 0))) 16 (16 + c) (to * 3 + 1) ((mu M 16 (16 + c) (to * 3 + 0) (M 16 (16 + c) (fr * 3 + 0))) 16 (16 + c) (fr * 3 + 1))) _ hn (16 + c) fr 2 3 90 (show 16 + c < 18 by omega) (if_neg (by omega)) (if_neg (by omega)) (by omega) (by omega)) kY_X5_at kV_X5_at (gC_tabl (show 16 + c < 18 by omega) hn) rfl rfl w1_202 rfl ⟨rfl, rfl⟩ ⟨(Nat.le_of_ble_eq_true rfl), (Nat.le_of_ble_eq_true rfl)⟩ rfl (Nat.le_of_ble_eq_true rfl) hl.1 ⟨Nat.zero_le _, Nat.zero_le _⟩ dX5_copyRow_16 rfl (fun H locs hG => ?_)
  refine gg_callV F hG (ci := 5) (As := [.int (nI to), .int (nI 2), .int ((mu (mu M 16 (16 + c) (to * 3 + 0) (M 16 (16 + c) (fr * 3 + 0))) 16 (16 + c) (to * 3 + 1) ((mu M 16 (16 + c) (to * 3 + 0) (M 16 (16 + c) (fr * 3 + 0))) 16 (16 + c) (fr * 3 + 1))) 16 (16 + c) (fr * 3 + 2))]) (rest := []) (c_X5_put Z l AD (mu (mu M 16 (16 + c) (to * 3 + 0) (M 16 (16 + c) (fr * 3 + 0))) 16 (16 + c) (to * 3 + 1) ((mu M 16 (16 + c) (to * 3 + 0) (M 16 (16 + c) (fr * 3 + 0))) 16 (16 + c) (fr * 3 + 1))) _ hn (16 + c) to 2 3 90 (show 16 + c < 18 by omega) (if_neg (by omega)) (if_neg (by omega)) (by omega) (by omega) ((mu (mu M 16 (16 + c) (to * 3 + 0) (M 16 (16 + c) (fr * 3 + 0))) 16 (16 + c) (to * 3 + 1) ((mu M 16 (16 + c) (to * 3 + 0) (M 16 (16 + c) (fr * 3 + 0))) 16 (16 + c) (fr * 3 + 1))) 16 (16 + c) (fr * 3 + 2))) kY_X5_put kV_X5_put (gC_tabl (show 16 + c < 18 by omega) hn) rfl rfl w3_171 rfl ⟨rfl, rfl⟩ ⟨(Nat.le_of_ble_eq_true rfl), (Nat.le_of_ble_eq_true rfl)⟩ rfl (Nat.le_of_ble_eq_true rfl) hl.1 ⟨Nat.zero_le _, Nat.zero_le _⟩ dX5_copyRow_19 rfl (fun H locs hG => ?_)
  refine lv_iinc (v := nI 3) (lv' := [(3, .int (nI 3)), (0, .ref (AD (42 + (16 + c)))), (1, .int (nI fr)), (2, .int (nI to))]) hx hb dX5_copyRow_22 hl (k := 0) rfl (by decide) (by decide) rfl (fun ls hl => ?_)
  refine lv_goto (tgt := 2) hx hb dX5_copyRow_25 (by decide) ?_
  refine lv_iload_n hx hb dX5_copyRow_2 rfl (lv_at hl 0 rfl) ?_
  refine lv_aload_n hx hb dX5_copyRow_3 rfl (lv_at hl 1 rfl) ?_
  refine gg_get F hG (ci := 5) (v := .int (nI 3)) 0 gcX5 rfl (gC_tabl (show 16 + c < 18 by omega) hn) (by decide) w1_87 (congrArg (fun z => some (Value.int z)) (if_neg (by omega))) dX5_copyRow_4 ?_
  refine lv_icmp_ge (tgt := 28) hx hb dX5_copyRow_7 (by decide) (fun h7 => ?_) (fun h7 => absurd (by decide) h7)
  exact gg_vret F hG (congrArg (fun q => wC Z AD q n) (by unfold cpR; rw [mu_j (by omega), mu_j (by omega), mu_j (by omega)]; rfl)) dX5_copyRow_28
set_option maxRecDepth 100000 in
set_option maxHeartbeats 4000000 in
theorem c_X5_copyFrom (Z : gZ) (l : Launch) (AD : Nat → Nat) (M : St) (n : Nat) (hn : 78 ≤ n) (t u N : Nat) (ht : t < 18) (hu : u < 18) (htu : t ≠ u) (hN : (if t < 16 then 160 else 90) = N) (hNu : (if u < 16 then 160 else 90) = N) (hN2 : N ≤ 160) : gM Z l yX5_copyFrom cX5_copyFrom 3 none ({ frames := 0, cells := 0, slots := 0, locals := 0 } : Room) [.ref (AD (42 + t)), .ref (AD (42 + u))] (wC Z AD M n) (none) (wC Z AD (cpN (mu M 15 t 0 (M 15 u 0)) t u N) n) 0 0 := by
  refine gM_of (by decide +kernel) (Nat.le_of_ble_eq_true rfl) ?_
  intro pP eE sS mI aA bB mE cC A F hname hG ls hl
  have hx := F.1
  have hb := F.2.1
  have hl : lv_has ls 3 [(0, .ref (AD (42 + t))), (1, .ref (AD (42 + u)))] := hl
  refine lv_aload_n hx hb dX5_copyFrom_0 rfl (lv_at hl 0 rfl) ?_
  refine lv_aload_n hx hb dX5_copyFrom_1 rfl (lv_at hl 1 rfl) ?_
  refine gg_get F hG (ci := 5) (v := .int (M 15 u 0)) 2 gcX5 rfl (gC_tabl hu hn) (by decide) w1_90 rfl dX5_copyFrom_2 ?_
  refine gg_put F hG (ci := 5) 2 gcX5 rfl (gC_tabl ht hn) (by decide) w1_90 rfl rfl rfl (Nat.le_of_ble_eq_true rfl) (pC_15 ht) dX5_copyFrom_5 (fun H locs hG => ?_)
  have hG : gG Z A sS (wC Z AD (mu M 15 t 0 (M 15 u 0)) n) H locs := hG
  refine lv_iconst (v := nI 0) hx hb dX5_copyFrom_8 rfl ?_
  refine lv_istore_n (lv' := [(2, .int (nI 0)), (0, .ref (AD (42 + t))), (1, .ref (AD (42 + u)))]) hx hb dX5_copyFrom_9 rfl hl (by decide) rfl (fun ls hl => ?_)
  have loop10 : ∀ (fuQ i : Nat), i ≤ N → N + 1 ≤ i + fuQ → ∀ (H : Heap) (locs : List Loc), gG Z A sS (wC Z AD (cpN (mu M 15 t 0 (M 15 u 0)) t u i) n) H locs → ∀ ls : Array Slot, lv_has ls 3 [(0, .ref (AD (42 + t))), (1, .ref (AD (42 + u))), (2, .int (nI i))] → W pP l eE ({ frames := 0, cells := 0, slots := 0, locals := 0 } : Room) sS mI aA bB mE cC H locs 0 0 (MQ bB (gQ Z A (none) (wC Z AD (cpN (mu M 15 t 0 (M 15 u 0)) t u N) n)) aA sS 0 0 A) (F0 mI 10 ls []) := by
    intro fuQ
    induction fuQ with
    | zero =>
      intro i h1 h2
      exact absurd h2 (by omega)
    | succ fuQ ih10 =>
      intro i hleQ hfuQ H locs hG ls hl
      by_cases hlt : i < N
      · refine lv_iload_n hx hb dX5_copyFrom_10 rfl (lv_at hl 2 rfl) ?_
        refine lv_aload_n hx hb dX5_copyFrom_11 rfl (lv_at hl 0 rfl) ?_
        refine gg_get F hG (ci := 5) (v := .ref (AD (60 + t))) 1 gcX5 rfl (gC_tabl ht hn) (by decide) w1_89 rfl dX5_copyFrom_12 ?_
        refine gg_alen F hG (t0 := 0) (v := nI N) (gC_cell ht hn) rfl (congrArg Int32.ofNat hN) dX5_copyFrom_15 ?_
        refine lv_icmp_ge (tgt := 46) hx hb dX5_copyFrom_16 (by decide) (fun h16 => absurd h16 (nI_ge hlt (by omega))) (fun h16 => ?_)
        refine lv_iload_n hx hb dX5_copyFrom_19 rfl (lv_at hl 2 rfl) ?_
        refine lv_aload_n hx hb dX5_copyFrom_20 rfl (lv_at hl 1 rfl) ?_
        refine gg_get F hG (ci := 5) (v := .ref (AD (60 + u))) 1 gcX5 rfl (gC_tabl hu hn) (by decide) w1_89 rfl dX5_copyFrom_21 ?_
        refine gg_alen F hG (t0 := 0) (v := nI N) (gC_cell hu hn) rfl (congrArg Int32.ofNat hNu) dX5_copyFrom_24 ?_
        refine lv_icmp_ge (tgt := 46) hx hb dX5_copyFrom_25 (by decide) (fun h25 => absurd h25 (nI_ge hlt (by omega))) (fun h25 => ?_)
        refine lv_aload_n hx hb dX5_copyFrom_28 rfl (lv_at hl 0 rfl) ?_
        refine gg_get F hG (ci := 5) (v := .ref (AD (60 + t))) 1 gcX5 rfl (gC_tabl ht hn) (by decide) w1_89 rfl dX5_copyFrom_29 ?_
        refine lv_iload_n hx hb dX5_copyFrom_32 rfl (lv_at hl 2 rfl) ?_
        refine lv_aload_n hx hb dX5_copyFrom_33 rfl (lv_at hl 1 rfl) ?_
        refine gg_get F hG (ci := 5) (v := .ref (AD (60 + u))) 1 gcX5 rfl (gC_tabl hu hn) (by decide) w1_89 rfl dX5_copyFrom_34 ?_
        refine lv_iload_n hx hb dX5_copyFrom_37 rfl (lv_at hl 2 rfl) ?_
        refine gg_ialdN F hG i (gC_cell hu hn) rfl (by rw [hNu]; exact hlt) (by split <;> omega) dX5_copyFrom_38 ?_
        refine gg_iastN F hG i (gC_cell ht hn) rfl (by rw [hN]; exact hlt) (by split <;> omega) (pC_16 ht) dX5_copyFrom_39 (fun H locs hG => ?_)
        have hG : gG Z A sS (wC Z AD (mu (cpN (mu M 15 t 0 (M 15 u 0)) t u i) 16 t i ((cpN (mu M 15 t 0 (M 15 u 0)) t u i) 16 u i)) n) H locs := hG
        refine lv_iinc (v := nI (i + 1)) (lv' := [(2, .int (nI (i + 1))), (0, .ref (AD (42 + t))), (1, .ref (AD (42 + u)))]) hx hb dX5_copyFrom_40 hl (k := 2) rfl (nI_1 _) (by decide) rfl (fun ls hl => ?_)
        refine lv_goto (tgt := 10) hx hb dX5_copyFrom_43 (by decide) ?_
        exact ih10 (i + 1) (by omega) (by omega) _ _ (hG.to (congrArg (fun q => wC Z AD q n) (cpN_s htu))) ls (lv_sub hl [1, 2, 0] rfl)
      · have hN : N = i := by omega
        subst hN
        refine lv_iload_n hx hb dX5_copyFrom_10 rfl (lv_at hl 2 rfl) ?_
        refine lv_aload_n hx hb dX5_copyFrom_11 rfl (lv_at hl 0 rfl) ?_
        refine gg_get F hG (ci := 5) (v := .ref (AD (60 + t))) 1 gcX5 rfl (gC_tabl ht hn) (by decide) w1_89 rfl dX5_copyFrom_12 ?_
        refine gg_alen F hG (t0 := 0) (v := nI N) (gC_cell ht hn) rfl (congrArg Int32.ofNat hN) dX5_copyFrom_15 ?_
        refine lv_icmp_ge (tgt := 46) hx hb dX5_copyFrom_16 (by decide) (fun h16 => ?_) (fun h16 => absurd (nI_le (Nat.le_refl _) (by omega)) h16)
        exact gg_vret F hG rfl dX5_copyFrom_46
  exact loop10 (N + 1) 0 (Nat.zero_le _) (by omega) _ _ (hG.to (congrArg (fun q => wC Z AD q n) cpN_0.symm)) ls (lv_sub hl [1, 2, 0] rfl)
set_option maxRecDepth 100000 in
set_option maxHeartbeats 4000000 in
theorem c_X5_sum (Z : gZ) (l : Launch) (AD : Nat → Nat) (M : St) (n : Nat) (hn : 78 ≤ n) (t k s : Nat) (ht : t < 16) (hk : k < 4) (hs : M 15 t 0 = nI s) (hs2 : s ≤ 40) : gM Z l yX5_sum cX5_sum 4 (some .int) ({ frames := 1, cells := 0, slots := 0, locals := 23 } : Room) [.ref (AD (42 + t)), .int (nI k)] (wC Z AD M n) (some (.int (sumF M t k s))) (wC Z AD M n) 0 0 := by
  refine gM_of (by decide +kernel) (Nat.le_of_ble_eq_true rfl) ?_
  intro pP eE sS mI aA bB mE cC A F hname hG ls hl
  have hx := F.1
  have hb := F.2.1
  have hl : lv_has ls 4 [(0, .ref (AD (42 + t))), (1, .int (nI k))] := hl
  refine lv_iconst (v := 0) hx hb dX5_sum_0 (by decide) ?_
  refine lv_istore_n (lv' := [(2, .int 0), (0, .ref (AD (42 + t))), (1, .int (nI k))]) hx hb dX5_sum_1 rfl hl (by decide) rfl (fun ls hl => ?_)
  refine lv_iconst (v := nI 0) hx hb dX5_sum_2 rfl ?_
  refine lv_istore_n (lv' := [(3, .int (nI 0)), (2, .int 0), (0, .ref (AD (42 + t))), (1, .int (nI k))]) hx hb dX5_sum_3 rfl hl (by decide) rfl (fun ls hl => ?_)
  have loop4 : ∀ (fuQ i : Nat), i ≤ s → s + 1 ≤ i + fuQ → ∀ (H : Heap) (locs : List Loc), gG Z A sS (wC Z AD M n) H locs → ∀ ls : Array Slot, lv_has ls 4 [(0, .ref (AD (42 + t))), (1, .int (nI k)), (2, .int (sumF M t k i)), (3, .int (nI i))] → W pP l eE ({ frames := 1, cells := 0, slots := 0, locals := 23 } : Room) sS mI aA bB mE cC H locs 0 0 (MQ bB (gQ Z A (some (.int (sumF M t k s))) (wC Z AD M n)) aA sS 0 0 A) (F0 mI 4 ls []) := by
    intro fuQ
    induction fuQ with
    | zero =>
      intro i h1 h2
      exact absurd h2 (by omega)
    | succ fuQ ih4 =>
      intro i hleQ hfuQ H locs hG ls hl
      by_cases hlt : i < s
      · refine lv_iload_n hx hb dX5_sum_4 rfl (lv_at hl 3 rfl) ?_
        refine lv_aload_n hx hb dX5_sum_5 rfl (lv_at hl 0 rfl) ?_
        refine gg_get F hG (ci := 5) (v := .int (nI s)) 2 gcX5 rfl (gC_tabl (show t < 18 by omega) hn) (by decide) w1_90 (congrArg (fun z => some (Value.int z)) hs) dX5_sum_6 ?_
        refine lv_icmp_ge (tgt := 27) hx hb dX5_sum_9 (by decide) (fun h9 => absurd h9 (nI_ge hlt (by omega))) (fun h9 => ?_)
        refine lv_iload_n hx hb dX5_sum_12 rfl (lv_at hl 2 rfl) ?_
        refine lv_aload_n hx hb dX5_sum_13 rfl (lv_at hl 0 rfl) ?_
        refine lv_iload_n hx hb dX5_sum_14 rfl (lv_at hl 3 rfl) ?_
        refine lv_iload_n hx hb dX5_sum_15 rfl (lv_at hl 1 rfl) ?_
        refine gg_callV F hG (ci := 5) (As := [.int (nI i), .int (nI k)]) (rest := [.int (sumF M t k i)]) (c_X5_at Z l AD M _ hn t i k 4 160 (show t < 18 by omega) (if_pos (by omega)) (if_pos (by omega)) (by omega) (by omega)) kY_X5_at kV_X5_at (gC_tabl (show t < 18 by omega) hn) rfl rfl w1_202 rfl ⟨rfl, rfl⟩ ⟨(Nat.le_of_ble_eq_true rfl), (Nat.le_of_ble_eq_true rfl)⟩ rfl (Nat.le_of_ble_eq_true rfl) hl.1 ⟨Nat.zero_le _, Nat.zero_le _⟩ dX5_sum_16 rfl (fun H locs hG => ?_)
        refine lv_iadd hx hb dX5_sum_19 ?_
        refine lv_istore_n (lv' := [(2, .int ((sumF M t k i) + (M 16 t (i * 4 + k)))), (0, .ref (AD (42 + t))), (1, .int (nI k)), (3, .int (nI i))]) hx hb dX5_sum_20 rfl hl (by decide) rfl (fun ls hl => ?_)
        refine lv_iinc (v := nI (i + 1)) (lv' := [(3, .int (nI (i + 1))), (2, .int ((sumF M t k i) + (M 16 t (i * 4 + k)))), (0, .ref (AD (42 + t))), (1, .int (nI k))]) hx hb dX5_sum_21 hl (k := 3) rfl (nI_1 _) (by decide) rfl (fun ls hl => ?_)
        refine lv_goto (tgt := 4) hx hb dX5_sum_24 (by decide) ?_
        exact ih4 (i + 1) (by omega) (by omega) _ _ hG ls (lv_sub hl [2, 3, 1, 0] rfl)
      · have hN : s = i := by omega
        subst hN
        refine lv_iload_n hx hb dX5_sum_4 rfl (lv_at hl 3 rfl) ?_
        refine lv_aload_n hx hb dX5_sum_5 rfl (lv_at hl 0 rfl) ?_
        refine gg_get F hG (ci := 5) (v := .int (nI s)) 2 gcX5 rfl (gC_tabl (show t < 18 by omega) hn) (by decide) w1_90 (congrArg (fun z => some (Value.int z)) hs) dX5_sum_6 ?_
        refine lv_icmp_ge (tgt := 27) hx hb dX5_sum_9 (by decide) (fun h9 => ?_) (fun h9 => absurd (nI_le (Nat.le_refl _) (by omega)) h9)
        refine lv_iload_n hx hb dX5_sum_27 rfl (lv_at hl 2 rfl) ?_
        exact gg_iret F hG rfl rfl rfl dX5_sum_28
  exact loop4 (s + 1) 0 (Nat.zero_le _) (by omega) _ _ hG ls (lv_sub hl [2, 3, 1, 0] rfl)
