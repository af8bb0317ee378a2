/-! the reference's numbers: what its methods answer -/
def absR (x : Int32) : Int32 := if 0 ≤ x then x else 0 - x
def onR (M : St) (h : Int32) : Nat → Int32
  | 0 => 0
  | k + 1 => if M 0 0 (6 * k + 4) ≤ rmd (h + 24 - M 0 0 (6 * k + 3)) 24 then onR M h k else onR M h k ||| (1 <<< (nI k &&& 31))
def fadR (M : St) (k : Nat) (h : Int32) : Int32 := 4 + absR (6 - rmd (h + M 0 0 (6 * k + 5)) 12)
def rcN (fr pw fa fad aer tun wid cr : Int32) : Int32 := if absR (fr - tun) < wid then (pw * fad * aer / (10 * fa)) * (wid - absR (fr - tun)) / wid * (1 + cr) / 10 else 0
def rcR (M : St) (i : Nat) (h co di cr : Int32) (k : Nat) : Int32 := rcN (M 0 0 (6 * k)) (M 0 0 (6 * k + 1)) (M 0 0 (6 * k + 2)) (fadR M k h) (M 6 0 i) (100000 / (co + di)) (widF co) cr
def bitR (on : Int32) (k : Nat) : Int32 := (on >>> (nI k &&& 31)) &&& 1
def offR (M : St) (i : Nat) (h co di cr on : Int32) (k : Nat) : Int32 := if bitR on k = 0 then 0 else rcR M i h co di cr k
/-- the best, its strength, the next strength, how many -/
abbrev rQ : Type := Int32 × Int32 × Int32 × Int32
def stR (q : rQ) (num s : Int32) : rQ := if s = 0 then q else if s ≤ q.2.1 then (q.1, q.2.1, (if q.2.2.1 < s then s else q.2.2.1), q.2.2.2 + 1) else (num, s, q.2.1, q.2.2.2 + 1)
def foR (f : Nat → Int32) : Nat → rQ
  | 0 => (-1, 0, 0, 0)
  | k + 1 => stR (foR f k) (nI k) (f k)
def veR (q : rQ) : Int32 := if q.2.1 < 5 then (if q.2.2.2 ≤ 1 then -1 else -2) else if q.2.1 < 2 * q.2.2.1 then (if q.2.2.2 ≤ 1 then -1 else -2) else q.1
def heR (M : St) (i : Nat) (h co di cr on : Int32) (ns : Nat) : Int32 := veR (foR (offR M i h co di cr on) ns)
theorem widF_nz {t : Int32} : ¬ widF t = 0 := by
  unfold widF
  split
  · rename_i h
    intro q
    rw [q] at h
    exact absurd h (by decide)
  · decide
def okN (M : St) (ns nm : Nat) : Prop := M 2 0 0 = nI ns ∧ ns ≤ 12 ∧ M 3 0 0 = nI nm ∧ nm ≤ 8 ∧ (∀ k, k < ns → ¬ 10 * M 0 0 (6 * k + 2) = 0) ∧ (∀ i, i < nm → ¬ M 4 0 i + M 5 0 i = 0)
theorem isM_1 {n i : Nat} (h : i < n) (h8 : n ≤ 12) : wthF (nI i) 0 (nI n - 1) = 1 :=
  wth_1 (nI_pos (by omega)) (by
    rw [show (nI n - 1 : Int32) = nI (n - 1) from pk_sub (a := n) (b := 1) (by omega)]
    exact nI_nlt (by omega) (by omega))
theorem isM_0 {n : Nat} {x : Int32} (h8 : n ≤ 12) (h : x < 0 ∨ nI n ≤ x) : wthF x 0 (nI n - 1) = 0 := by
  refine wth_0 (h.imp id (fun q => ?_))
  rcases Nat.eq_zero_or_pos n with h0 | h0
  · subst h0
    rw [show nI 0 - 1 = (-1 : Int32) from rfl]
    have h1 := Int32.le_iff_toInt_le.mp q
    refine Int32.lt_iff_toInt_lt.mpr ?_
    rw [show (nI 0).toInt = 0 from rfl] at h1
    rw [show (-1 : Int32).toInt = -1 from rfl]
    omega
  · rw [show (nI n - 1 : Int32) = nI (n - 1) from pk_sub (a := n) (b := 1) (by omega)]
    have h1 := Int32.le_iff_toInt_le.mp q
    refine Int32.lt_iff_toInt_lt.mpr ?_
    rw [nI_toInt (by omega)] at h1 ⊢
    omega
/-- whether a member has a card of a station; a line of it in this day -/
def hcR (M : St) (c i : Nat) (st : Int32) (L : Nat) : Prop := ∃ k, k < L ∧ M 14 c (4 * (40 * i + k) + 1) = st ∧ M 14 c (4 * (40 * i + k) + 3) = 1
def inR (M : St) (c i : Nat) (st : Int32) (L : Nat) : Prop := ∃ k, k < L ∧ M 14 c (4 * (40 * i + k) + 1) = st ∧ M 14 c (4 * (40 * i + k)) / 24 = M 8 c 0 / 24
def szR (M : St) (c i : Nat) : Nat := (M 13 c i).toNatClampNeg
/-- the logs' lines, the letters -/
def okX (M : St) (c nm : Nat) : Prop := ∀ i, i < nm → M 13 c i = nI (szR M c i) ∧ szR M c i ≤ 40
noncomputable def cdR (M : St) (st : Int32) : Nat → Int32
  | 0 => 0
  | i + 1 => cdR M st i + b2 (hcR M 0 i st (szR M 0 i))
noncomputable def hdR (M : St) (i : Nat) (sc : Int32) : Nat → Int32
  | 0 => 0
  | k + 1 => if b2 (hcR M 0 i (nI k) (szR M 0 i)) = 0 then hdR M i sc k else hdR M i sc k + (if sc = 0 then 1 else M 0 0 (6 * k + 2))
set_option maxRecDepth 100000 in
set_option maxHeartbeats 4000000 in
theorem c_X8_isIn (Z : gZ) (l : Launch) (x a b : Int32) (ws : va_W) : gM Z l yX8_isIn cX8_isIn 3 (some .boolean) ({ frames := 0, cells := 0, slots := 0, locals := 0 } : Room) [.int x, .int a, .int b] ws (some (.int (wthF x a b))) ws 0 0 := by
  refine gM_of (by decide +kernel) (Nat.le_of_ble_eq_true rfl) ?_
  intro pP eE sS mI aA bB mE cC A F hname hG ls hl
  have hx := F.1
  have hb := F.2.1
  have hl : lv_has ls 3 [(0, .int x), (1, .int a), (2, .int b)] := hl
  refine lv_iload_n hx hb dX8_isIn_0 rfl (lv_at hl 0 rfl) ?_
  refine lv_iload_n hx hb dX8_isIn_1 rfl (lv_at hl 1 rfl) ?_
  refine lv_icmp_lt (tgt := 14) hx hb dX8_isIn_2 (by decide) (fun h2 => ?_) (fun h2 => ?_)
  · refine lv_iconst (v := 0) hx hb dX8_isIn_14 (by decide) ?_
    exact gg_iret F hG rfl (by rw [wthF, if_pos h2]) rfl dX8_isIn_15
  · refine lv_iload_n hx hb dX8_isIn_5 rfl (lv_at hl 0 rfl) ?_
    refine lv_iload_n hx hb dX8_isIn_6 rfl (lv_at hl 2 rfl) ?_
    refine lv_icmp_gt (tgt := 14) hx hb dX8_isIn_7 (by decide) (fun h7 => ?_) (fun h7 => ?_)
    · refine lv_iconst (v := 0) hx hb dX8_isIn_14 (by decide) ?_
      exact gg_iret F hG rfl (by rw [wthF, if_neg h2, if_pos h7]) rfl dX8_isIn_15
    · refine lv_iconst (v := 1) hx hb dX8_isIn_10 (by decide) ?_
      refine lv_goto (tgt := 15) hx hb dX8_isIn_11 (by decide) ?_
      exact gg_iret F hG rfl (by rw [wthF, if_neg h2, if_neg h7]) rfl dX8_isIn_15
set_option maxRecDepth 100000 in
set_option maxHeartbeats 4000000 in
theorem c_X8_tuned (Z : gZ) (l : Launch) (a b : Int32) (hab : ¬ a + b = 0) (ws : va_W) : gM Z l yX8_tuned cX8_tuned 2 (some .int) ({ frames := 0, cells := 0, slots := 0, locals := 0 } : Room) [.int a, .int b] ws (some (.int (100000 / (a + b)))) ws 0 0 := by
  refine gM_of (by decide +kernel) (Nat.le_of_ble_eq_true rfl) ?_
  intro pP eE sS mI aA bB mE cC A F hname hG ls hl
  have hx := F.1
  have hb := F.2.1
  have hl : lv_has ls 2 [(0, .int a), (1, .int b)] := hl
  refine lv_ldc hx hb F.2.2.2.1 (F.2.2.2.2.1 _ w4_194) dX8_tuned_0 ?_
  refine lv_iload_n hx hb dX8_tuned_2 rfl (lv_at hl 0 rfl) ?_
  refine lv_iload_n hx hb dX8_tuned_3 rfl (lv_at hl 1 rfl) ?_
  refine lv_iadd hx hb dX8_tuned_4 ?_
  refine lv_idiv hx hb dX8_tuned_5 hab ?_
  exact gg_iret F hG rfl rfl rfl dX8_tuned_6
set_option maxRecDepth 100000 in
set_option maxHeartbeats 4000000 in
theorem c_X8_width (Z : gZ) (l : Launch) (t : Int32) (ws : va_W) : gM Z l yX8_width cX8_width 1 (some .int) ({ frames := 1, cells := 0, slots := 0, locals := 24 } : Room) [.int t] ws (some (.int (widF t))) ws 0 0 := by
  refine gM_of (by decide +kernel) (Nat.le_of_ble_eq_true rfl) ?_
  intro pP eE sS mI aA bB mE cC A F hname hG ls hl
  have hx := F.1
  have hb := F.2.1
  have hl : lv_has ls 1 [(0, .int t)] := hl
  refine lv_bipush (v := 10) hx hb dX8_width_0 (by decide) ?_
  refine lv_bipush (v := 80) hx hb dX8_width_2 (by decide) ?_
  refine lv_iload_n hx hb dX8_width_4 rfl (lv_at hl 0 rfl) ?_
  refine lv_iconst (v := 3) hx hb dX8_width_5 (by decide) ?_
  refine lv_idiv hx hb dX8_width_6 (by decide) ?_
  refine lv_isub hx hb dX8_width_7 ?_
  refine gg_max F hl.1 w4_198 (Nat.le_of_ble_eq_true rfl) (Nat.le_of_ble_eq_true rfl) (Nat.zero_le _) (Nat.zero_le _) dX8_width_8 ?_
  exact gg_iret F hG rfl rfl rfl dX8_width_11
set_option maxRecDepth 100000 in
set_option maxHeartbeats 4000000 in
theorem c_X8_thrown (Z : gZ) (l : Launch) (AD : Nat → Nat) (M : St) (n : Nat) (hn : 16 ≤ n)  : gM Z l yX8_thrown cX8_thrown 1 (some .int) ({ frames := 0, cells := 0, slots := 0, locals := 0 } : Room) [.ref (AD 0)] (wR Z AD M n) (some (.int (M 1 0 0))) (wR Z AD M n) 0 0 := by
  refine gM_of (by decide +kernel) (Nat.le_of_ble_eq_true rfl) ?_
  intro pP eE sS mI aA bB mE cC A F hname hG ls hl
  have hx := F.1
  have hb := F.2.1
  have hl : lv_has ls 1 [(0, .ref (AD 0))] := hl
  refine lv_aload_n hx hb dX8_thrown_0 rfl (lv_at hl 0 rfl) ?_
  refine gg_get F hG (ci := 8) (v := .int (M 1 0 0)) 0 gcX8 rfl (gR_model hn) (by decide) w4_75 rfl dX8_thrown_1 ?_
  exact gg_iret F hG rfl rfl rfl dX8_thrown_4
set_option maxRecDepth 100000 in
set_option maxHeartbeats 4000000 in
theorem c_X8_no (Z : gZ) (l : Launch) (AD : Nat → Nat) (M : St) (n : Nat) (hn : 16 ≤ n) (x : Int32) : gM Z l yX8_no cX8_no 2 (some .int) ({ frames := 0, cells := 0, slots := 0, locals := 0 } : Room) [.ref (AD 0), .int x] (wR Z AD M n) (some (.int 0)) (wR Z AD (mu M 1 0 0 x) n) 0 0 := by
  refine gM_of (by decide +kernel) (Nat.le_of_ble_eq_true rfl) ?_
  intro pP eE sS mI aA bB mE cC A F hname hG ls hl
  have hx := F.1
  have hb := F.2.1
  have hl : lv_has ls 2 [(0, .ref (AD 0)), (1, .int x)] := hl
  refine lv_aload_n hx hb dX8_no_0 rfl (lv_at hl 0 rfl) ?_
  refine lv_iload_n hx hb dX8_no_1 rfl (lv_at hl 1 rfl) ?_
  refine gg_put F hG (ci := 8) 0 gcX8 rfl (gR_model hn) (by decide) w4_75 rfl rfl rfl (Nat.le_of_ble_eq_true rfl) (pR_1) dX8_no_2 (fun H locs hG => ?_)
  have hG : gG Z A sS (wR Z AD (mu M 1 0 0 x) n) H locs := hG
  refine lv_iconst (v := 0) hx hb dX8_no_5 (by decide) ?_
  exact gg_iret F hG rfl rfl rfl dX8_no_6
set_option maxRecDepth 100000 in
set_option maxHeartbeats 4000000 in
theorem c_X8_isStation (Z : gZ) (l : Launch) (AD : Nat → Nat) (M : St) (n : Nat) (hn : 16 ≤ n) (ns nm i : Nat) (hN : okN M ns nm) (hi : i < ns) : gM Z l yX8_isStation cX8_isStation 2 (some .boolean) ({ frames := 1, cells := 0, slots := 0, locals := 22 } : Room) [.ref (AD 0), .int (nI i)] (wR Z AD M n) (some (.int 1)) (wR Z AD M n) 0 0 := by
  refine gM_of (by decide +kernel) (Nat.le_of_ble_eq_true rfl) ?_
  intro pP eE sS mI aA bB mE cC A F hname hG ls hl
  have hx := F.1
  have hb := F.2.1
  have hl : lv_has ls 2 [(0, .ref (AD 0)), (1, .int (nI i))] := hl
  refine lv_iload_n hx hb dX8_isStation_0 rfl (lv_at hl 1 rfl) ?_
  refine lv_iconst (v := 0) hx hb dX8_isStation_1 (by decide) ?_
  refine lv_aload_n hx hb dX8_isStation_2 rfl (lv_at hl 0 rfl) ?_
  refine gg_get F hG (ci := 8) (v := .int (nI ns)) 1 gcX8 rfl (gR_model hn) (by decide) w4_76 (congrArg (fun z => some (Value.int z)) hN.1) dX8_isStation_3 ?_
  refine lv_iconst (v := 1) hx hb dX8_isStation_6 (by decide) ?_
  refine lv_isub hx hb dX8_isStation_7 ?_
  refine gg_callS F hG (As := [.int (nI i), .int 0, .int ((nI ns) - 1)]) (rest := []) (c_X8_isIn Z l (nI i) 0 ((nI ns) - 1) _) kY_X8_isIn kV_X8_isIn w4_118 rfl ⟨rfl, rfl⟩ ⟨(Nat.le_of_ble_eq_true rfl), (Nat.le_of_ble_eq_true rfl)⟩ rfl (Nat.le_of_ble_eq_true rfl) hl.1 ⟨Nat.zero_le _, Nat.zero_le _⟩ dX8_isStation_8 rfl (fun H locs hG => ?_)
  rw [show (wthF (nI i) 0 ((nI ns) - 1) : Int32) = 1 from isM_1 hi hN.2.1]
  exact gg_iret F hG rfl rfl rfl dX8_isStation_11
set_option maxRecDepth 100000 in
set_option maxHeartbeats 4000000 in
theorem c_X8_isStation_no (Z : gZ) (l : Launch) (AD : Nat → Nat) (M : St) (n : Nat) (hn : 16 ≤ n) (ns nm : Nat) (hN : okN M ns nm) (x : Int32) (hxo : x < 0 ∨ nI ns ≤ x) : gM Z l yX8_isStation cX8_isStation 2 (some .boolean) ({ frames := 1, cells := 0, slots := 0, locals := 22 } : Room) [.ref (AD 0), .int x] (wR Z AD M n) (some (.int 0)) (wR Z AD M n) 0 0 := by
  refine gM_of (by decide +kernel) (Nat.le_of_ble_eq_true rfl) ?_
  intro pP eE sS mI aA bB mE cC A F hname hG ls hl
  have hx := F.1
  have hb := F.2.1
  have hl : lv_has ls 2 [(0, .ref (AD 0)), (1, .int x)] := hl
  refine lv_iload_n hx hb dX8_isStation_0 rfl (lv_at hl 1 rfl) ?_
  refine lv_iconst (v := 0) hx hb dX8_isStation_1 (by decide) ?_
  refine lv_aload_n hx hb dX8_isStation_2 rfl (lv_at hl 0 rfl) ?_
  refine gg_get F hG (ci := 8) (v := .int (nI ns)) 1 gcX8 rfl (gR_model hn) (by decide) w4_76 (congrArg (fun z => some (Value.int z)) hN.1) dX8_isStation_3 ?_
  refine lv_iconst (v := 1) hx hb dX8_isStation_6 (by decide) ?_
  refine lv_isub hx hb dX8_isStation_7 ?_
  refine gg_callS F hG (As := [.int x, .int 0, .int ((nI ns) - 1)]) (rest := []) (c_X8_isIn Z l x 0 ((nI ns) - 1) _) kY_X8_isIn kV_X8_isIn w4_118 rfl ⟨rfl, rfl⟩ ⟨(Nat.le_of_ble_eq_true rfl), (Nat.le_of_ble_eq_true rfl)⟩ rfl (Nat.le_of_ble_eq_true rfl) hl.1 ⟨Nat.zero_le _, Nat.zero_le _⟩ dX8_isStation_8 rfl (fun H locs hG => ?_)
  rw [show (wthF x 0 ((nI ns) - 1) : Int32) = 0 from isM_0 hN.2.1 hxo]
  exact gg_iret F hG rfl rfl rfl dX8_isStation_11
set_option maxRecDepth 100000 in
set_option maxHeartbeats 4000000 in
theorem c_X8_isMember (Z : gZ) (l : Launch) (AD : Nat → Nat) (M : St) (n : Nat) (hn : 16 ≤ n) (ns nm i : Nat) (hN : okN M ns nm) (hi : i < nm) : gM Z l yX8_isMember cX8_isMember 2 (some .boolean) ({ frames := 1, cells := 0, slots := 0, locals := 22 } : Room) [.ref (AD 0), .int (nI i)] (wR Z AD M n) (some (.int 1)) (wR Z AD M n) 0 0 := by
  refine gM_of (by decide +kernel) (Nat.le_of_ble_eq_true rfl) ?_
  intro pP eE sS mI aA bB mE cC A F hname hG ls hl
  have hx := F.1
  have hb := F.2.1
  have hl : lv_has ls 2 [(0, .ref (AD 0)), (1, .int (nI i))] := hl
  refine lv_iload_n hx hb dX8_isMember_0 rfl (lv_at hl 1 rfl) ?_
  refine lv_iconst (v := 0) hx hb dX8_isMember_1 (by decide) ?_
  refine lv_aload_n hx hb dX8_isMember_2 rfl (lv_at hl 0 rfl) ?_
  refine gg_get F hG (ci := 8) (v := .int (nI nm)) 2 gcX8 rfl (gR_model hn) (by decide) w4_78 (congrArg (fun z => some (Value.int z)) hN.2.2.1) dX8_isMember_3 ?_
  refine lv_iconst (v := 1) hx hb dX8_isMember_6 (by decide) ?_
  refine lv_isub hx hb dX8_isMember_7 ?_
  refine gg_callS F hG (As := [.int (nI i), .int 0, .int ((nI nm) - 1)]) (rest := []) (c_X8_isIn Z l (nI i) 0 ((nI nm) - 1) _) kY_X8_isIn kV_X8_isIn w4_118 rfl ⟨rfl, rfl⟩ ⟨(Nat.le_of_ble_eq_true rfl), (Nat.le_of_ble_eq_true rfl)⟩ rfl (Nat.le_of_ble_eq_true rfl) hl.1 ⟨Nat.zero_le _, Nat.zero_le _⟩ dX8_isMember_8 rfl (fun H locs hG => ?_)
  rw [show (wthF (nI i) 0 ((nI nm) - 1) : Int32) = 1 from isM_1 hi (by have := hN.2.2.2.1; omega)]
  exact gg_iret F hG rfl rfl rfl dX8_isMember_11
set_option maxRecDepth 100000 in
set_option maxHeartbeats 4000000 in
theorem c_X8_isMember_no (Z : gZ) (l : Launch) (AD : Nat → Nat) (M : St) (n : Nat) (hn : 16 ≤ n) (ns nm : Nat) (hN : okN M ns nm) (x : Int32) (hxo : x < 0 ∨ nI nm ≤ x) : gM Z l yX8_isMember cX8_isMember 2 (some .boolean) ({ frames := 1, cells := 0, slots := 0, locals := 22 } : Room) [.ref (AD 0), .int x] (wR Z AD M n) (some (.int 0)) (wR Z AD M n) 0 0 := by
  refine gM_of (by decide +kernel) (Nat.le_of_ble_eq_true rfl) ?_
  intro pP eE sS mI aA bB mE cC A F hname hG ls hl
  have hx := F.1
  have hb := F.2.1
  have hl : lv_has ls 2 [(0, .ref (AD 0)), (1, .int x)] := hl
  refine lv_iload_n hx hb dX8_isMember_0 rfl (lv_at hl 1 rfl) ?_
  refine lv_iconst (v := 0) hx hb dX8_isMember_1 (by decide) ?_
  refine lv_aload_n hx hb dX8_isMember_2 rfl (lv_at hl 0 rfl) ?_
  refine gg_get F hG (ci := 8) (v := .int (nI nm)) 2 gcX8 rfl (gR_model hn) (by decide) w4_78 (congrArg (fun z => some (Value.int z)) hN.2.2.1) dX8_isMember_3 ?_
  refine lv_iconst (v := 1) hx hb dX8_isMember_6 (by decide) ?_
  refine lv_isub hx hb dX8_isMember_7 ?_
  refine gg_callS F hG (As := [.int x, .int 0, .int ((nI nm) - 1)]) (rest := []) (c_X8_isIn Z l x 0 ((nI nm) - 1) _) kY_X8_isIn kV_X8_isIn w4_118 rfl ⟨rfl, rfl⟩ ⟨(Nat.le_of_ble_eq_true rfl), (Nat.le_of_ble_eq_true rfl)⟩ rfl (Nat.le_of_ble_eq_true rfl) hl.1 ⟨Nat.zero_le _, Nat.zero_le _⟩ dX8_isMember_8 rfl (fun H locs hG => ?_)
  rw [show (wthF x 0 ((nI nm) - 1) : Int32) = 0 from isM_0 (by have := hN.2.2.2.1; omega) hxo]
  exact gg_iret F hG rfl rfl rfl dX8_isMember_11
set_option maxRecDepth 100000 in
set_option maxHeartbeats 4000000 in
theorem c_X8_fading (Z : gZ) (l : Launch) (AD : Nat → Nat) (M : St) (n : Nat) (hn : 16 ≤ n) (k : Nat) (hk : k < 12) (h : Int32) : gM Z l yX8_fading cX8_fading 3 (some .int) ({ frames := 1, cells := 0, slots := 0, locals := 24 } : Room) [.ref (AD 0), .int (nI k), .int h] (wR Z AD M n) (some (.int (fadR M k h))) (wR Z AD M n) 0 0 := by
  refine gM_of (by decide +kernel) (Nat.le_of_ble_eq_true rfl) ?_
  intro pP eE sS mI aA bB mE cC A F hname hG ls hl
  have hx := F.1
  have hb := F.2.1
  have hl : lv_has ls 3 [(0, .ref (AD 0)), (1, .int (nI k)), (2, .int h)] := hl
  refine lv_iconst (v := 4) hx hb dX8_fading_0 (by decide) ?_
  refine lv_bipush (v := 6) hx hb dX8_fading_1 (by decide) ?_
  refine lv_iload_n hx hb dX8_fading_3 rfl (lv_at hl 2 rfl) ?_
  refine lv_aload_n hx hb dX8_fading_4 rfl (lv_at hl 0 rfl) ?_
  refine gg_get F hG (ci := 8) (v := .ref (AD 1)) 3 gcX8 rfl (gR_model hn) (by decide) w4_79 rfl dX8_fading_5 ?_
  refine lv_bipush (v := 6) hx hb dX8_fading_8 (by decide) ?_
  refine lv_iload_n hx hb dX8_fading_10 rfl (lv_at hl 1 rfl) ?_
  refine lv_imul hx hb dX8_fading_11 ?_
  rw [show (6 * (nI k) : Int32) = nI (6 * k) from pk_mul 6 k]
  refine lv_iconst (v := 5) hx hb dX8_fading_12 (by decide) ?_
  refine lv_iadd hx hb dX8_fading_13 ?_
  rw [show ((nI (6 * k)) + 5 : Int32) = nI (6 * k + 5) from nI_add _ _]
  refine gg_ialdN F hG (6 * k + 5) (gR_air hn) rfl (by omega) (by omega) dX8_fading_14 ?_
  refine lv_iadd hx hb dX8_fading_15 ?_
  refine lv_bipush (v := 12) hx hb dX8_fading_16 (by decide) ?_
  refine lv_irem hx hb dX8_fading_18 (by decide) ?_
  refine lv_isub hx hb dX8_fading_19 ?_
  refine gg_abs F hl.1 w4_172 (Nat.le_of_ble_eq_true rfl) (Nat.le_of_ble_eq_true rfl) (Nat.zero_le _) (Nat.zero_le _) dX8_fading_20 ?_
  refine lv_iadd hx hb dX8_fading_23 ?_
  exact gg_iret F hG rfl rfl rfl dX8_fading_24
set_option maxRecDepth 100000 in
set_option maxHeartbeats 4000000 in
theorem c_X8_onAir (Z : gZ) (l : Launch) (AD : Nat → Nat) (M : St) (n : Nat) (hn : 16 ≤ n) (ns nm : Nat) (hN : okN M ns nm) (h : Int32) : gM Z l yX8_onAir cX8_onAir 4 (some .int) ({ frames := 0, cells := 0, slots := 0, locals := 0 } : Room) [.ref (AD 0), .int h] (wR Z AD M n) (some (.int (onR M h ns))) (wR Z AD M n) 0 0 := by
  refine gM_of (by decide +kernel) (Nat.le_of_ble_eq_true rfl) ?_
  intro pP eE sS mI aA bB mE cC A F hname hG ls hl
  have hx := F.1
  have hb := F.2.1
  have hl : lv_has ls 4 [(0, .ref (AD 0)), (1, .int h)] := hl
  have hns2 := hN.2.1
  have hnm2 := hN.2.2.2.1
  refine lv_iconst (v := 0) hx hb dX8_onAir_0 (by decide) ?_
  refine lv_istore_n (lv' := [(2, .int 0), (0, .ref (AD 0)), (1, .int h)]) hx hb dX8_onAir_1 rfl hl (by decide) rfl (fun ls hl => ?_)
  refine lv_iconst (v := nI 0) hx hb dX8_onAir_2 rfl ?_
  refine lv_istore_n (lv' := [(3, .int (nI 0)), (2, .int 0), (0, .ref (AD 0)), (1, .int h)]) hx hb dX8_onAir_3 rfl hl (by decide) rfl (fun ls hl => ?_)
  have loop4 : ∀ (fuQ i : Nat), i ≤ ns → ns + 1 ≤ i + fuQ → ∀ (H : Heap) (locs : List Loc), gG Z A sS (wR Z AD M n) H locs → ∀ ls : Array Slot, lv_has ls 4 [(0, .ref (AD 0)), (1, .int h), (2, .int (onR M h i)), (3, .int (nI i))] → W pP l eE ({ frames := 0, cells := 0, slots := 0, locals := 0 } : Room) sS mI aA bB mE cC H locs 0 0 (MQ bB (gQ Z A (some (.int (onR M h ns))) (wR Z AD M n)) aA sS 0 0 A) (F0 mI 4 ls []) := by
    intro fuQ
    induction fuQ with
    | zero =>
      intro i h1 h2
      exact absurd h2 (by omega)
    | succ fuQ ih4 =>
      intro i hleQ hfuQ H locs hG ls hl
      by_cases hlt : i < ns
      · refine lv_iload_n hx hb dX8_onAir_4 rfl (lv_at hl 3 rfl) ?_
        refine lv_aload_n hx hb dX8_onAir_5 rfl (lv_at hl 0 rfl) ?_
        refine gg_get F hG (ci := 8) (v := .int (nI ns)) 1 gcX8 rfl (gR_model hn) (by decide) w4_76 (congrArg (fun z => some (Value.int z)) hN.1) dX8_onAir_6 ?_
        refine lv_icmp_ge (tgt := 57) hx hb dX8_onAir_9 (by decide) (fun h9 => absurd h9 (nI_ge hlt (by omega))) (fun h9 => ?_)
        refine lv_iload_n hx hb dX8_onAir_12 rfl (lv_at hl 1 rfl) ?_
        refine lv_bipush (v := 24) hx hb dX8_onAir_13 (by decide) ?_
        refine lv_iadd hx hb dX8_onAir_15 ?_
        refine lv_aload_n hx hb dX8_onAir_16 rfl (lv_at hl 0 rfl) ?_
        refine gg_get F hG (ci := 8) (v := .ref (AD 1)) 3 gcX8 rfl (gR_model hn) (by decide) w4_79 rfl dX8_onAir_17 ?_
        refine lv_bipush (v := 6) hx hb dX8_onAir_20 (by decide) ?_
        refine lv_iload_n hx hb dX8_onAir_22 rfl (lv_at hl 3 rfl) ?_
        refine lv_imul hx hb dX8_onAir_23 ?_
        rw [show (6 * (nI i) : Int32) = nI (6 * i) from pk_mul 6 i]
        refine lv_iconst (v := 3) hx hb dX8_onAir_24 (by decide) ?_
        refine lv_iadd hx hb dX8_onAir_25 ?_
        rw [show ((nI (6 * i)) + 3 : Int32) = nI (6 * i + 3) from nI_add _ _]
        refine gg_ialdN F hG (6 * i + 3) (gR_air hn) rfl (by omega) (by omega) dX8_onAir_26 ?_
        refine lv_isub hx hb dX8_onAir_27 ?_
        refine lv_bipush (v := 24) hx hb dX8_onAir_28 (by decide) ?_
        refine lv_irem hx hb dX8_onAir_30 (by decide) ?_
        refine lv_aload_n hx hb dX8_onAir_31 rfl (lv_at hl 0 rfl) ?_
        refine gg_get F hG (ci := 8) (v := .ref (AD 1)) 3 gcX8 rfl (gR_model hn) (by decide) w4_79 rfl dX8_onAir_32 ?_
        refine lv_bipush (v := 6) hx hb dX8_onAir_35 (by decide) ?_
        refine lv_iload_n hx hb dX8_onAir_37 rfl (lv_at hl 3 rfl) ?_
        refine lv_imul hx hb dX8_onAir_38 ?_
        rw [show (6 * (nI i) : Int32) = nI (6 * i) from pk_mul 6 i]
        refine lv_iconst (v := 4) hx hb dX8_onAir_39 (by decide) ?_
        refine lv_iadd hx hb dX8_onAir_40 ?_
        rw [show ((nI (6 * i)) + 4 : Int32) = nI (6 * i + 4) from nI_add _ _]
        refine gg_ialdN F hG (6 * i + 4) (gR_air hn) rfl (by omega) (by omega) dX8_onAir_41 ?_
        refine lv_icmp_ge (tgt := 51) hx hb dX8_onAir_42 (by decide) (fun h42 => ?_) (fun h42 => ?_)
        · refine lv_iinc (v := nI (i + 1)) (lv' := [(3, .int (nI (i + 1))), (0, .ref (AD 0)), (1, .int h), (2, .int (onR M h i))]) hx hb dX8_onAir_51 hl (k := 3) rfl (nI_1 _) (by decide) rfl (fun ls hl => ?_)
          refine lv_goto (tgt := 4) hx hb dX8_onAir_54 (by decide) ?_
          have e9 : onR M h (i + 1) = onR M h i := if_pos h42
          exact ih4 (i + 1) (by omega) (by omega) _ _ hG ls (by rw [e9]; exact lv_sub hl [1, 2, 3, 0] rfl)
        · refine lv_iload_n hx hb dX8_onAir_45 rfl (lv_at hl 2 rfl) ?_
          refine lv_iconst (v := 1) hx hb dX8_onAir_46 (by decide) ?_
          refine lv_iload_n hx hb dX8_onAir_47 rfl (lv_at hl 3 rfl) ?_
          refine lv_ishl hx hb dX8_onAir_48 ?_
          refine lv_ior hx hb dX8_onAir_49 ?_
          refine lv_istore_n (lv' := [(2, .int ((onR M h i) ||| (1 <<< ((nI i) &&& 31)))), (0, .ref (AD 0)), (1, .int h), (3, .int (nI i))]) hx hb dX8_onAir_50 rfl hl (by decide) rfl (fun ls hl => ?_)
          refine lv_iinc (v := nI (i + 1)) (lv' := [(3, .int (nI (i + 1))), (2, .int ((onR M h i) ||| (1 <<< ((nI i) &&& 31)))), (0, .ref (AD 0)), (1, .int h)]) hx hb dX8_onAir_51 hl (k := 3) rfl (nI_1 _) (by decide) rfl (fun ls hl => ?_)
          refine lv_goto (tgt := 4) hx hb dX8_onAir_54 (by decide) ?_
          have e9 : onR M h (i + 1) = onR M h i ||| (1 <<< (nI i &&& 31)) := if_neg h42
          exact ih4 (i + 1) (by omega) (by omega) _ _ hG ls (by rw [e9]; exact lv_sub hl [2, 3, 1, 0] rfl)
      · have hN : ns = i := by omega
        subst hN
        refine lv_iload_n hx hb dX8_onAir_4 rfl (lv_at hl 3 rfl) ?_
        refine lv_aload_n hx hb dX8_onAir_5 rfl (lv_at hl 0 rfl) ?_
        refine gg_get F hG (ci := 8) (v := .int (nI ns)) 1 gcX8 rfl (gR_model hn) (by decide) w4_76 (congrArg (fun z => some (Value.int z)) hN.1) dX8_onAir_6 ?_
        refine lv_icmp_ge (tgt := 57) hx hb dX8_onAir_9 (by decide) (fun h9 => ?_) (fun h9 => absurd (nI_le (Nat.le_refl _) (by omega)) h9)
        refine lv_iload_n hx hb dX8_onAir_57 rfl (lv_at hl 2 rfl) ?_
        exact gg_iret F hG rfl rfl rfl dX8_onAir_58
  exact loop4 (ns + 1) 0 (Nat.zero_le _) (by omega) _ _ hG ls (lv_sub hl [2, 3, 1, 0] rfl)
set_option maxRecDepth 100000 in
set_option maxHeartbeats 4000000 in
theorem c_X8_reach (Z : gZ) (l : Launch) (AD : Nat → Nat) (M : St) (n : Nat) (hn : 16 ≤ n) (i k : Nat) (hi : i < 8) (hk : k < 12) (hf : ¬ 10 * M 0 0 (6 * k + 2) = 0) (h co di cr : Int32) (hcd : ¬ co + di = 0) : gM Z l yX8_reach cX8_reach 10 (some .int) ({ frames := 2, cells := 0, slots := 0, locals := 46 } : Room) [.ref (AD 0), .int (nI i), .int (nI k), .int h, .int co, .int di, .int cr] (wR Z AD M n) (some (.int (rcR M i h co di cr k))) (wR Z AD M n) 0 0 := by
  refine gM_of (by decide +kernel) (Nat.le_of_ble_eq_true rfl) ?_
  intro pP eE sS mI aA bB mE cC A F hname hG ls hl
  have hx := F.1
  have hb := F.2.1
  have hl : lv_has ls 10 [(0, .ref (AD 0)), (1, .int (nI i)), (2, .int (nI k)), (3, .int h), (4, .int co), (5, .int di), (6, .int cr)] := hl
  refine lv_iload hx hb dX8_reach_0 (lv_at hl 4 rfl) ?_
  refine gg_callS F hG (As := [.int co]) (rest := []) (c_X8_width Z l co _) kY_X8_width kV_X8_width w4_195 rfl ⟨rfl, rfl⟩ ⟨(Nat.le_of_ble_eq_true rfl), (Nat.le_of_ble_eq_true rfl)⟩ rfl (Nat.le_of_ble_eq_true rfl) hl.1 ⟨Nat.zero_le _, Nat.zero_le _⟩ dX8_reach_2 rfl (fun H locs hG => ?_)
  refine lv_istore (lv' := [(7, .int (widF co)), (0, .ref (AD 0)), (1, .int (nI i)), (2, .int (nI k)), (3, .int h), (4, .int co), (5, .int di), (6, .int cr)]) hx hb dX8_reach_5 hl (by decide) rfl (fun ls hl => ?_)
  refine lv_aload_n hx hb dX8_reach_7 rfl (lv_at hl 1 rfl) ?_
  refine gg_get F hG (ci := 8) (v := .ref (AD 1)) 3 gcX8 rfl (gR_model hn) (by decide) w4_79 rfl dX8_reach_8 ?_
  refine lv_bipush (v := 6) hx hb dX8_reach_11 (by decide) ?_
  refine lv_iload_n hx hb dX8_reach_13 rfl (lv_at hl 3 rfl) ?_
  refine lv_imul hx hb dX8_reach_14 ?_
  rw [show (6 * (nI k) : Int32) = nI (6 * k) from pk_mul 6 k]
  refine gg_ialdN F hG (6 * k) (gR_air hn) rfl (by omega) (by omega) dX8_reach_15 ?_
  refine lv_iload hx hb dX8_reach_16 (lv_at hl 5 rfl) ?_
  refine lv_iload hx hb dX8_reach_18 (lv_at hl 6 rfl) ?_
  refine gg_callS F hG (As := [.int co, .int di]) (rest := [.int (M 0 0 (6 * k))]) (c_X8_tuned Z l co di hcd _) kY_X8_tuned kV_X8_tuned w4_191 rfl ⟨rfl, rfl⟩ ⟨(Nat.le_of_ble_eq_true rfl), (Nat.le_of_ble_eq_true rfl)⟩ rfl (Nat.le_of_ble_eq_true rfl) hl.1 ⟨Nat.zero_le _, Nat.zero_le _⟩ dX8_reach_20 rfl (fun H locs hG => ?_)
  refine lv_isub hx hb dX8_reach_23 ?_
  refine gg_abs F hl.1 w4_172 (Nat.le_of_ble_eq_true rfl) (Nat.le_of_ble_eq_true rfl) (Nat.zero_le _) (Nat.zero_le _) dX8_reach_24 ?_
  rw [show (if 0 ≤ ((M 0 0 (6 * k)) - (100000 / (co + di))) then (M 0 0 (6 * k)) - (100000 / (co + di)) else 0 - ((M 0 0 (6 * k)) - (100000 / (co + di))) : Int32) = absR (M 0 0 (6 * k) - 100000 / (co + di)) from rfl]
  refine lv_istore (lv' := [(8, .int (absR (M 0 0 (6 * k) - 100000 / (co + di)))), (7, .int (widF co)), (0, .ref (AD 0)), (1, .int (nI i)), (2, .int (nI k)), (3, .int h), (4, .int co), (5, .int di), (6, .int cr)]) hx hb dX8_reach_27 hl (by decide) rfl (fun ls hl => ?_)
  refine lv_iload hx hb dX8_reach_29 (lv_at hl 0 rfl) ?_
  refine lv_iload hx hb dX8_reach_31 (lv_at hl 1 rfl) ?_
  refine lv_icmp_lt (tgt := 38) hx hb dX8_reach_33 (by decide) (fun h33 => ?_) (fun h33 => ?_)
  · refine lv_aload_n hx hb dX8_reach_38 rfl (lv_at hl 2 rfl) ?_
    refine gg_get F hG (ci := 8) (v := .ref (AD 1)) 3 gcX8 rfl (gR_model hn) (by decide) w4_79 rfl dX8_reach_39 ?_
    refine lv_bipush (v := 6) hx hb dX8_reach_42 (by decide) ?_
    refine lv_iload_n hx hb dX8_reach_44 rfl (lv_at hl 4 rfl) ?_
    refine lv_imul hx hb dX8_reach_45 ?_
    rw [show (6 * (nI k) : Int32) = nI (6 * k) from pk_mul 6 k]
    refine lv_iconst (v := 1) hx hb dX8_reach_46 (by decide) ?_
    refine lv_iadd hx hb dX8_reach_47 ?_
    rw [show ((nI (6 * k)) + 1 : Int32) = nI (6 * k + 1) from nI_add _ _]
    refine gg_ialdN F hG (6 * k + 1) (gR_air hn) rfl (by omega) (by omega) dX8_reach_48 ?_
    refine lv_aload_n hx hb dX8_reach_49 rfl (lv_at hl 2 rfl) ?_
    refine lv_iload_n hx hb dX8_reach_50 rfl (lv_at hl 4 rfl) ?_
    refine lv_iload_n hx hb dX8_reach_51 rfl (lv_at hl 5 rfl) ?_
    refine gg_callV F hG (ci := 8) (As := [.int (nI k), .int h]) (rest := [.int (M 0 0 (6 * k + 1))]) (c_X8_fading Z l AD M _ hn k hk h) kY_X8_fading kV_X8_fading (gR_model hn) rfl rfl w4_168 rfl ⟨rfl, rfl⟩ ⟨(Nat.le_of_ble_eq_true rfl), (Nat.le_of_ble_eq_true rfl)⟩ rfl (Nat.le_of_ble_eq_true rfl) hl.1 ⟨Nat.zero_le _, Nat.zero_le _⟩ dX8_reach_52 rfl (fun H locs hG => ?_)
    refine lv_imul hx hb dX8_reach_55 ?_
    refine lv_aload_n hx hb dX8_reach_56 rfl (lv_at hl 2 rfl) ?_
    refine gg_get F hG (ci := 8) (v := .ref (AD 4)) 6 gcX8 rfl (gR_model hn) (by decide) w4_84 rfl dX8_reach_57 ?_
    refine lv_iload_n hx hb dX8_reach_60 rfl (lv_at hl 3 rfl) ?_
    refine gg_ialdN F hG i (gR_aerial hn) rfl (by omega) (by omega) dX8_reach_61 ?_
    refine lv_imul hx hb dX8_reach_62 ?_
    refine lv_bipush (v := 10) hx hb dX8_reach_63 (by decide) ?_
    refine lv_aload_n hx hb dX8_reach_65 rfl (lv_at hl 2 rfl) ?_
    refine gg_get F hG (ci := 8) (v := .ref (AD 1)) 3 gcX8 rfl (gR_model hn) (by decide) w4_79 rfl dX8_reach_66 ?_
    refine lv_bipush (v := 6) hx hb dX8_reach_69 (by decide) ?_
    refine lv_iload_n hx hb dX8_reach_71 rfl (lv_at hl 4 rfl) ?_
    refine lv_imul hx hb dX8_reach_72 ?_
    rw [show (6 * (nI k) : Int32) = nI (6 * k) from pk_mul 6 k]
    refine lv_iconst (v := 2) hx hb dX8_reach_73 (by decide) ?_
    refine lv_iadd hx hb dX8_reach_74 ?_
    rw [show ((nI (6 * k)) + 2 : Int32) = nI (6 * k + 2) from nI_add _ _]
    refine gg_ialdN F hG (6 * k + 2) (gR_air hn) rfl (by omega) (by omega) dX8_reach_75 ?_
    refine lv_imul hx hb dX8_reach_76 ?_
    refine lv_idiv hx hb dX8_reach_77 hf ?_
    refine lv_istore (lv' := [(9, .int ((((M 0 0 (6 * k + 1)) * (fadR M k h)) * (M 6 0 i)) / (10 * (M 0 0 (6 * k + 2))))), (8, .int (absR (M 0 0 (6 * k) - 100000 / (co + di)))), (7, .int (widF co)), (0, .ref (AD 0)), (1, .int (nI i)), (2, .int (nI k)), (3, .int h), (4, .int co), (5, .int di), (6, .int cr)]) hx hb dX8_reach_78 hl (by decide) rfl (fun ls hl => ?_)
    refine lv_iload hx hb dX8_reach_80 (lv_at hl 0 rfl) ?_
    refine lv_iload hx hb dX8_reach_82 (lv_at hl 2 rfl) ?_
    refine lv_iload hx hb dX8_reach_84 (lv_at hl 1 rfl) ?_
    refine lv_isub hx hb dX8_reach_86 ?_
    refine lv_imul hx hb dX8_reach_87 ?_
    refine lv_iload hx hb dX8_reach_88 (lv_at hl 2 rfl) ?_
    refine lv_idiv hx hb dX8_reach_90 widF_nz ?_
    refine lv_istore (lv' := [(9, .int ((((((M 0 0 (6 * k + 1)) * (fadR M k h)) * (M 6 0 i)) / (10 * (M 0 0 (6 * k + 2)))) * ((widF co) - (absR (M 0 0 (6 * k) - 100000 / (co + di))))) / (widF co))), (8, .int (absR (M 0 0 (6 * k) - 100000 / (co + di)))), (7, .int (widF co)), (0, .ref (AD 0)), (1, .int (nI i)), (2, .int (nI k)), (3, .int h), (4, .int co), (5, .int di), (6, .int cr)]) hx hb dX8_reach_91 hl (by decide) rfl (fun ls hl => ?_)
    refine lv_iload hx hb dX8_reach_93 (lv_at hl 0 rfl) ?_
    refine lv_iconst (v := 1) hx hb dX8_reach_95 (by decide) ?_
    refine lv_iload hx hb dX8_reach_96 (lv_at hl 9 rfl) ?_
    refine lv_iadd hx hb dX8_reach_98 ?_
    refine lv_imul hx hb dX8_reach_99 ?_
    refine lv_bipush (v := 10) hx hb dX8_reach_100 (by decide) ?_
    refine lv_idiv hx hb dX8_reach_102 (by decide) ?_
    exact gg_iret F hG rfl (Eq.symm (if_pos h33)) rfl dX8_reach_103
  · refine lv_iconst (v := 0) hx hb dX8_reach_36 (by decide) ?_
    exact gg_iret F hG rfl (Eq.symm (if_neg h33)) rfl dX8_reach_37
set_option maxRecDepth 100000 in
set_option maxHeartbeats 4000000 in
theorem c_X8_heard (Z : gZ) (l : Launch) (AD : Nat → Nat) (M : St) (n : Nat) (hn : 16 ≤ n) (ns nm i : Nat) (hN : okN M ns nm) (hi : i < 8) (h co di cr on : Int32) (hcd : ¬ co + di = 0) : gM Z l yX8_heard cX8_heard 13 (some .int) ({ frames := 3, cells := 0, slots := 0, locals := 75 } : Room) [.ref (AD 0), .int (nI i), .int h, .int co, .int di, .int cr, .int on] (wR Z AD M n) (some (.int (heR M i h co di cr on ns))) (wR Z AD M n) 0 0 := by
  refine gM_of (by decide +kernel) (Nat.le_of_ble_eq_true rfl) ?_
  intro pP eE sS mI aA bB mE cC A F hname hG ls hl
  have hx := F.1
  have hb := F.2.1
  have hl : lv_has ls 13 [(0, .ref (AD 0)), (1, .int (nI i)), (2, .int h), (3, .int co), (4, .int di), (5, .int cr), (6, .int on)] := hl
  have hns2 := hN.2.1
  have hnm2 := hN.2.2.2.1
  refine lv_iconst (v := (-1)) hx hb dX8_heard_0 (by decide) ?_
  refine lv_istore (lv' := [(7, .int (-1)), (0, .ref (AD 0)), (1, .int (nI i)), (2, .int h), (3, .int co), (4, .int di), (5, .int cr), (6, .int on)]) hx hb dX8_heard_1 hl (by decide) rfl (fun ls hl => ?_)
  refine lv_iconst (v := 0) hx hb dX8_heard_3 (by decide) ?_
  refine lv_istore (lv' := [(8, .int 0), (7, .int (-1)), (0, .ref (AD 0)), (1, .int (nI i)), (2, .int h), (3, .int co), (4, .int di), (5, .int cr), (6, .int on)]) hx hb dX8_heard_4 hl (by decide) rfl (fun ls hl => ?_)
  refine lv_iconst (v := 0) hx hb dX8_heard_6 (by decide) ?_
  refine lv_istore (lv' := [(9, .int 0), (8, .int 0), (7, .int (-1)), (0, .ref (AD 0)), (1, .int (nI i)), (2, .int h), (3, .int co), (4, .int di), (5, .int cr), (6, .int on)]) hx hb dX8_heard_7 hl (by decide) rfl (fun ls hl => ?_)
  refine lv_iconst (v := 0) hx hb dX8_heard_9 (by decide) ?_
  refine lv_istore (lv' := [(10, .int 0), (9, .int 0), (8, .int 0), (7, .int (-1)), (0, .ref (AD 0)), (1, .int (nI i)), (2, .int h), (3, .int co), (4, .int di), (5, .int cr), (6, .int on)]) hx hb dX8_heard_10 hl (by decide) rfl (fun ls hl => ?_)
  refine lv_iconst (v := nI 0) hx hb dX8_heard_12 rfl ?_
  refine lv_istore (lv' := [(11, .int (nI 0)), (10, .int 0), (9, .int 0), (8, .int 0), (7, .int (-1)), (0, .ref (AD 0)), (1, .int (nI i)), (2, .int h), (3, .int co), (4, .int di), (5, .int cr), (6, .int on)]) hx hb dX8_heard_13 hl (by decide) rfl (fun ls hl => ?_)
  have loop15 : ∀ (fuQ k : Nat), k ≤ ns → ns + 1 ≤ k + fuQ → ∀ (H : Heap) (locs : List Loc), gG Z A sS (wR Z AD M n) H locs → ∀ ls : Array Slot, lv_has ls 13 [(0, .ref (AD 0)), (1, .int (nI i)), (2, .int h), (3, .int co), (4, .int di), (5, .int cr), (6, .int on), (7, .int ((foR (offR M i h co di cr on) k).1)), (8, .int ((foR (offR M i h co di cr on) k).2.1)), (9, .int ((foR (offR M i h co di cr on) k).2.2.1)), (10, .int ((foR (offR M i h co di cr on) k).2.2.2)), (11, .int (nI k))] → W pP l eE ({ frames := 3, cells := 0, slots := 0, locals := 75 } : Room) sS mI aA bB mE cC H locs 0 0 (MQ bB (gQ Z A (some (.int (heR M i h co di cr on ns))) (wR Z AD M n)) aA sS 0 0 A) (F0 mI 15 ls []) := by
    intro fuQ
    induction fuQ with
    | zero =>
      intro k h1 h2
      exact absurd h2 (by omega)
    | succ fuQ ih15 =>
      intro k hleQ hfuQ H locs hG ls hl
      by_cases hlt : k < ns
      · refine lv_iload hx hb dX8_heard_15 (lv_at hl 11 rfl) ?_
        refine lv_aload_n hx hb dX8_heard_17 rfl (lv_at hl 0 rfl) ?_
        refine gg_get F hG (ci := 8) (v := .int (nI ns)) 1 gcX8 rfl (gR_model hn) (by decide) w4_76 (congrArg (fun z => some (Value.int z)) hN.1) dX8_heard_18 ?_
        refine lv_icmp_ge (tgt := 101) hx hb dX8_heard_21 (by decide) (fun h21 => absurd h21 (nI_ge hlt (by omega))) (fun h21 => ?_)
        refine lv_iload hx hb dX8_heard_24 (lv_at hl 6 rfl) ?_
        refine lv_iload hx hb dX8_heard_26 (lv_at hl 11 rfl) ?_
        refine lv_ishr hx hb dX8_heard_28 ?_
        refine lv_iconst (v := 1) hx hb dX8_heard_29 (by decide) ?_
        refine lv_iand hx hb dX8_heard_30 ?_
        rw [show ((on >>> ((nI k) &&& 31)) &&& 1 : Int32) = bitR on k from rfl]
        refine lv_if_ne (tgt := 38) hx hb dX8_heard_31 (by decide) (fun h31 => ?_) (fun h31 => ?_)
        · refine lv_aload_n hx hb dX8_heard_38 rfl (lv_at hl 0 rfl) ?_
          refine lv_iload_n hx hb dX8_heard_39 rfl (lv_at hl 1 rfl) ?_
          refine lv_iload hx hb dX8_heard_40 (lv_at hl 11 rfl) ?_
          refine lv_iload_n hx hb dX8_heard_42 rfl (lv_at hl 2 rfl) ?_
          refine lv_iload_n hx hb dX8_heard_43 rfl (lv_at hl 3 rfl) ?_
          refine lv_iload hx hb dX8_heard_44 (lv_at hl 4 rfl) ?_
          refine lv_iload hx hb dX8_heard_46 (lv_at hl 5 rfl) ?_
          refine gg_callV F hG (ci := 8) (As := [.int (nI i), .int (nI k), .int h, .int co, .int di, .int cr]) (rest := []) (c_X8_reach Z l AD M _ hn i k hi (by omega) (hN.2.2.2.2.1 k hlt) h co di cr hcd) kY_X8_reach kV_X8_reach (gR_model hn) rfl rfl w4_207 rfl ⟨rfl, rfl⟩ ⟨(Nat.le_of_ble_eq_true rfl), (Nat.le_of_ble_eq_true rfl)⟩ rfl (Nat.le_of_ble_eq_true rfl) hl.1 ⟨Nat.zero_le _, Nat.zero_le _⟩ dX8_heard_48 rfl (fun H locs hG => ?_)
          refine lv_istore (lv' := [(12, .int (rcR M i h co di cr k)), (0, .ref (AD 0)), (1, .int (nI i)), (2, .int h), (3, .int co), (4, .int di), (5, .int cr), (6, .int on), (7, .int ((foR (offR M i h co di cr on) k).1)), (8, .int ((foR (offR M i h co di cr on) k).2.1)), (9, .int ((foR (offR M i h co di cr on) k).2.2.1)), (10, .int ((foR (offR M i h co di cr on) k).2.2.2)), (11, .int (nI k))]) hx hb dX8_heard_51 hl (by decide) rfl (fun ls hl => ?_)
          refine lv_iload hx hb dX8_heard_53 (lv_at hl 0 rfl) ?_
          refine lv_if_ne (tgt := 61) hx hb dX8_heard_55 (by decide) (fun h55 => ?_) (fun h55 => ?_)
          · refine lv_iinc (v := ((foR (offR M i h co di cr on) k).2.2.2) + 1) (lv' := [(10, .int (((foR (offR M i h co di cr on) k).2.2.2) + 1)), (12, .int (rcR M i h co di cr k)), (0, .ref (AD 0)), (1, .int (nI i)), (2, .int h), (3, .int co), (4, .int di), (5, .int cr), (6, .int on), (7, .int ((foR (offR M i h co di cr on) k).1)), (8, .int ((foR (offR M i h co di cr on) k).2.1)), (9, .int ((foR (offR M i h co di cr on) k).2.2.1)), (11, .int (nI k))]) hx hb dX8_heard_61 hl (k := 11) rfl rfl (by decide) rfl (fun ls hl => ?_)
            refine lv_iload hx hb dX8_heard_64 (lv_at hl 1 rfl) ?_
            refine lv_iload hx hb dX8_heard_66 (lv_at hl 10 rfl) ?_
            refine lv_icmp_le (tgt := 86) hx hb dX8_heard_68 (by decide) (fun h68 => ?_) (fun h68 => ?_)
            · refine lv_iload hx hb dX8_heard_86 (lv_at hl 11 rfl) ?_
              refine lv_iload hx hb dX8_heard_88 (lv_at hl 1 rfl) ?_
              refine gg_max F hl.1 w4_198 (Nat.le_of_ble_eq_true rfl) (Nat.le_of_ble_eq_true rfl) (Nat.zero_le _) (Nat.zero_le _) dX8_heard_90 ?_
              refine lv_istore (lv' := [(9, .int (if (foR (offR M i h co di cr on) k).2.2.1 < rcR M i h co di cr k then rcR M i h co di cr k else (foR (offR M i h co di cr on) k).2.2.1)), (10, .int (((foR (offR M i h co di cr on) k).2.2.2) + 1)), (12, .int (rcR M i h co di cr k)), (0, .ref (AD 0)), (1, .int (nI i)), (2, .int h), (3, .int co), (4, .int di), (5, .int cr), (6, .int on), (7, .int ((foR (offR M i h co di cr on) k).1)), (8, .int ((foR (offR M i h co di cr on) k).2.1)), (11, .int (nI k))]) hx hb dX8_heard_93 hl (by decide) rfl (fun ls hl => ?_)
              refine lv_iinc (v := nI (k + 1)) (lv' := [(11, .int (nI (k + 1))), (9, .int (if (foR (offR M i h co di cr on) k).2.2.1 < rcR M i h co di cr k then rcR M i h co di cr k else (foR (offR M i h co di cr on) k).2.2.1)), (10, .int (((foR (offR M i h co di cr on) k).2.2.2) + 1)), (12, .int (rcR M i h co di cr k)), (0, .ref (AD 0)), (1, .int (nI i)), (2, .int h), (3, .int co), (4, .int di), (5, .int cr), (6, .int on), (7, .int ((foR (offR M i h co di cr on) k).1)), (8, .int ((foR (offR M i h co di cr on) k).2.1))]) hx hb dX8_heard_95 hl (k := 12) rfl (nI_1 _) (by decide) rfl (fun ls hl => ?_)
              refine lv_goto (tgt := 15) hx hb dX8_heard_98 (by decide) ?_
              have e7 : offR M i h co di cr on k = rcR M i h co di cr k := if_neg h31
              have e9 : foR (offR M i h co di cr on) (k + 1) = ((foR (offR M i h co di cr on) k).1, (foR (offR M i h co di cr on) k).2.1, (if (foR (offR M i h co di cr on) k).2.2.1 < rcR M i h co di cr k then rcR M i h co di cr k else (foR (offR M i h co di cr on) k).2.2.1), (foR (offR M i h co di cr on) k).2.2.2 + 1) := (congrArg (stR (foR (offR M i h co di cr on) k) (nI k)) e7).trans ((if_neg h55).trans (if_pos h68))
              exact ih15 (k + 1) (by omega) (by omega) _ _ hG ls (by rw [e9]; exact lv_sub hl [4, 5, 6, 7, 8, 9, 10, 11, 12, 1, 2, 0] rfl)
            · refine lv_iload hx hb dX8_heard_71 (lv_at hl 10 rfl) ?_
              refine lv_istore (lv' := [(9, .int ((foR (offR M i h co di cr on) k).2.1)), (10, .int (((foR (offR M i h co di cr on) k).2.2.2) + 1)), (12, .int (rcR M i h co di cr k)), (0, .ref (AD 0)), (1, .int (nI i)), (2, .int h), (3, .int co), (4, .int di), (5, .int cr), (6, .int on), (7, .int ((foR (offR M i h co di cr on) k).1)), (8, .int ((foR (offR M i h co di cr on) k).2.1)), (11, .int (nI k))]) hx hb dX8_heard_73 hl (by decide) rfl (fun ls hl => ?_)
              refine lv_iload hx hb dX8_heard_75 (lv_at hl 2 rfl) ?_
              refine lv_istore (lv' := [(8, .int (rcR M i h co di cr k)), (9, .int ((foR (offR M i h co di cr on) k).2.1)), (10, .int (((foR (offR M i h co di cr on) k).2.2.2) + 1)), (12, .int (rcR M i h co di cr k)), (0, .ref (AD 0)), (1, .int (nI i)), (2, .int h), (3, .int co), (4, .int di), (5, .int cr), (6, .int on), (7, .int ((foR (offR M i h co di cr on) k).1)), (11, .int (nI k))]) hx hb dX8_heard_77 hl (by decide) rfl (fun ls hl => ?_)
              refine lv_iload hx hb dX8_heard_79 (lv_at hl 12 rfl) ?_
              refine lv_istore (lv' := [(7, .int (nI k)), (8, .int (rcR M i h co di cr k)), (9, .int ((foR (offR M i h co di cr on) k).2.1)), (10, .int (((foR (offR M i h co di cr on) k).2.2.2) + 1)), (12, .int (rcR M i h co di cr k)), (0, .ref (AD 0)), (1, .int (nI i)), (2, .int h), (3, .int co), (4, .int di), (5, .int cr), (6, .int on), (11, .int (nI k))]) hx hb dX8_heard_81 hl (by decide) rfl (fun ls hl => ?_)
              refine lv_goto (tgt := 95) hx hb dX8_heard_83 (by decide) ?_
              refine lv_iinc (v := nI (k + 1)) (lv' := [(11, .int (nI (k + 1))), (7, .int (nI k)), (8, .int (rcR M i h co di cr k)), (9, .int ((foR (offR M i h co di cr on) k).2.1)), (10, .int (((foR (offR M i h co di cr on) k).2.2.2) + 1)), (12, .int (rcR M i h co di cr k)), (0, .ref (AD 0)), (1, .int (nI i)), (2, .int h), (3, .int co), (4, .int di), (5, .int cr), (6, .int on)]) hx hb dX8_heard_95 hl (k := 12) rfl (nI_1 _) (by decide) rfl (fun ls hl => ?_)
              refine lv_goto (tgt := 15) hx hb dX8_heard_98 (by decide) ?_
              have e7 : offR M i h co di cr on k = rcR M i h co di cr k := if_neg h31
              have e9 : foR (offR M i h co di cr on) (k + 1) = (nI k, rcR M i h co di cr k, (foR (offR M i h co di cr on) k).2.1, (foR (offR M i h co di cr on) k).2.2.2 + 1) := (congrArg (stR (foR (offR M i h co di cr on) k) (nI k)) e7).trans ((if_neg h55).trans (if_neg h68))
              exact ih15 (k + 1) (by omega) (by omega) _ _ hG ls (by rw [e9]; exact lv_sub hl [6, 7, 8, 9, 10, 11, 12, 1, 2, 3, 4, 0] rfl)
          · refine lv_goto (tgt := 95) hx hb dX8_heard_58 (by decide) ?_
            refine lv_iinc (v := nI (k + 1)) (lv' := [(11, .int (nI (k + 1))), (12, .int (rcR M i h co di cr k)), (0, .ref (AD 0)), (1, .int (nI i)), (2, .int h), (3, .int co), (4, .int di), (5, .int cr), (6, .int on), (7, .int ((foR (offR M i h co di cr on) k).1)), (8, .int ((foR (offR M i h co di cr on) k).2.1)), (9, .int ((foR (offR M i h co di cr on) k).2.2.1)), (10, .int ((foR (offR M i h co di cr on) k).2.2.2))]) hx hb dX8_heard_95 hl (k := 12) rfl (nI_1 _) (by decide) rfl (fun ls hl => ?_)
            refine lv_goto (tgt := 15) hx hb dX8_heard_98 (by decide) ?_
            have e7 : offR M i h co di cr on k = rcR M i h co di cr k := if_neg h31
            have e9 : foR (offR M i h co di cr on) (k + 1) = (foR (offR M i h co di cr on) k) := (congrArg (stR (foR (offR M i h co di cr on) k) (nI k)) e7).trans (if_pos h55)
            exact ih15 (k + 1) (by omega) (by omega) _ _ hG ls (by rw [e9]; exact lv_sub hl [2, 3, 4, 5, 6, 7, 8, 9, 10, 11, 12, 0] rfl)
        · refine lv_iconst (v := 0) hx hb dX8_heard_34 (by decide) ?_
          refine lv_goto (tgt := 51) hx hb dX8_heard_35 (by decide) ?_
          refine lv_istore (lv' := [(12, .int 0), (0, .ref (AD 0)), (1, .int (nI i)), (2, .int h), (3, .int co), (4, .int di), (5, .int cr), (6, .int on), (7, .int ((foR (offR M i h co di cr on) k).1)), (8, .int ((foR (offR M i h co di cr on) k).2.1)), (9, .int ((foR (offR M i h co di cr on) k).2.2.1)), (10, .int ((foR (offR M i h co di cr on) k).2.2.2)), (11, .int (nI k))]) hx hb dX8_heard_51 hl (by decide) rfl (fun ls hl => ?_)
          refine lv_iload hx hb dX8_heard_53 (lv_at hl 0 rfl) ?_
          refine lv_if_ne (tgt := 61) hx hb dX8_heard_55 (by decide) (fun h55 => absurd rfl h55) (fun h55 => ?_)
          refine lv_goto (tgt := 95) hx hb dX8_heard_58 (by decide) ?_
          refine lv_iinc (v := nI (k + 1)) (lv' := [(11, .int (nI (k + 1))), (12, .int 0), (0, .ref (AD 0)), (1, .int (nI i)), (2, .int h), (3, .int co), (4, .int di), (5, .int cr), (6, .int on), (7, .int ((foR (offR M i h co di cr on) k).1)), (8, .int ((foR (offR M i h co di cr on) k).2.1)), (9, .int ((foR (offR M i h co di cr on) k).2.2.1)), (10, .int ((foR (offR M i h co di cr on) k).2.2.2))]) hx hb dX8_heard_95 hl (k := 12) rfl (nI_1 _) (by decide) rfl (fun ls hl => ?_)
          refine lv_goto (tgt := 15) hx hb dX8_heard_98 (by decide) ?_
          have e7 : offR M i h co di cr on k = 0 := if_pos h31
          have e9 : foR (offR M i h co di cr on) (k + 1) = (foR (offR M i h co di cr on) k) := (congrArg (stR (foR (offR M i h co di cr on) k) (nI k)) e7).trans (if_pos rfl)
          exact ih15 (k + 1) (by omega) (by omega) _ _ hG ls (by rw [e9]; exact lv_sub hl [2, 3, 4, 5, 6, 7, 8, 9, 10, 11, 12, 0] rfl)
      · have hN : ns = k := by omega
        subst hN
        refine lv_iload hx hb dX8_heard_15 (lv_at hl 11 rfl) ?_
        refine lv_aload_n hx hb dX8_heard_17 rfl (lv_at hl 0 rfl) ?_
        refine gg_get F hG (ci := 8) (v := .int (nI ns)) 1 gcX8 rfl (gR_model hn) (by decide) w4_76 (congrArg (fun z => some (Value.int z)) hN.1) dX8_heard_18 ?_
        refine lv_icmp_ge (tgt := 101) hx hb dX8_heard_21 (by decide) (fun h21 => ?_) (fun h21 => absurd (nI_le (Nat.le_refl _) (by omega)) h21)
        refine lv_iload hx hb dX8_heard_101 (lv_at hl 8 rfl) ?_
        refine lv_iconst (v := 5) hx hb dX8_heard_103 (by decide) ?_
        refine lv_icmp_lt (tgt := 119) hx hb dX8_heard_104 (by decide) (fun h104 => ?_) (fun h104 => ?_)
        · refine lv_iload hx hb dX8_heard_119 (lv_at hl 10 rfl) ?_
          refine lv_iconst (v := 1) hx hb dX8_heard_121 (by decide) ?_
          refine lv_icmp_le (tgt := 130) hx hb dX8_heard_122 (by decide) (fun h122 => ?_) (fun h122 => ?_)
          · refine lv_iconst (v := (-1)) hx hb dX8_heard_130 (by decide) ?_
            exact gg_iret F hG rfl (Eq.symm ((if_pos h104).trans (if_pos h122))) rfl dX8_heard_131
          · refine lv_bipush (v := (-2)) hx hb dX8_heard_125 (by decide) ?_
            refine lv_goto (tgt := 131) hx hb dX8_heard_127 (by decide) ?_
            exact gg_iret F hG rfl (Eq.symm ((if_pos h104).trans (if_neg h122))) rfl dX8_heard_131
        · refine lv_iconst (v := 2) hx hb dX8_heard_107 (by decide) ?_
          refine lv_iload hx hb dX8_heard_108 (lv_at hl 9 rfl) ?_
          refine lv_imul hx hb dX8_heard_110 ?_
          refine lv_iload hx hb dX8_heard_111 (lv_at hl 8 rfl) ?_
          refine lv_icmp_gt (tgt := 119) hx hb dX8_heard_113 (by decide) (fun h113 => ?_) (fun h113 => ?_)
          · refine lv_iload hx hb dX8_heard_119 (lv_at hl 10 rfl) ?_
            refine lv_iconst (v := 1) hx hb dX8_heard_121 (by decide) ?_
            refine lv_icmp_le (tgt := 130) hx hb dX8_heard_122 (by decide) (fun h122 => ?_) (fun h122 => ?_)
            · refine lv_iconst (v := (-1)) hx hb dX8_heard_130 (by decide) ?_
              exact gg_iret F hG rfl (Eq.symm ((if_neg h104).trans ((if_pos h113).trans (if_pos h122)))) rfl dX8_heard_131
            · refine lv_bipush (v := (-2)) hx hb dX8_heard_125 (by decide) ?_
              refine lv_goto (tgt := 131) hx hb dX8_heard_127 (by decide) ?_
              exact gg_iret F hG rfl (Eq.symm ((if_neg h104).trans ((if_pos h113).trans (if_neg h122)))) rfl dX8_heard_131
          · refine lv_iload hx hb dX8_heard_116 (lv_at hl 7 rfl) ?_
            exact gg_iret F hG rfl (Eq.symm ((if_neg h104).trans (if_neg h113))) rfl dX8_heard_118
  exact loop15 (ns + 1) 0 (Nat.zero_le _) (by omega) _ _ hG ls (lv_sub hl [5, 6, 7, 8, 9, 10, 11, 4, 3, 2, 1, 0] rfl)
set_option maxRecDepth 100000 in
set_option maxHeartbeats 4000000 in
theorem c_X7_hasCard (Z : gZ) (l : Launch) (AD : Nat → Nat) (M : St) (n : Nat) (hn : 16 ≤ n) (c i L : Nat) (hc : c < 2) (hi : i < 8) (hL : M 13 c i = nI L) (hL2 : L ≤ 40) (st : Int32) : gM Z l yX7_hasCard cX7_hasCard 5 (some .boolean) ({ frames := 0, cells := 0, slots := 0, locals := 0 } : Room) [.ref (AD (6 + c)), .int (nI i), .int st] (wR Z AD M n) (some (.int (b2 (hcR M c i st L)))) (wR Z AD M n) 0 0 := by
  refine gM_of (by decide +kernel) (Nat.le_of_ble_eq_true rfl) ?_
  intro pP eE sS mI aA bB mE cC A F hname hG ls hl
  have hx := F.1
  have hb := F.2.1
  have hl : lv_has ls 5 [(0, .ref (AD (6 + c))), (1, .int (nI i)), (2, .int st)] := hl
  refine lv_iconst (v := nI 0) hx hb dX7_hasCard_0 rfl ?_
  refine lv_istore_n (lv' := [(3, .int (nI 0)), (0, .ref (AD (6 + c))), (1, .int (nI i)), (2, .int st)]) hx hb dX7_hasCard_1 rfl hl (by decide) rfl (fun ls hl => ?_)
  have loop2 : ∀ (fuQ k : Nat), k ≤ L → L + 1 ≤ k + fuQ → (∀ u, u < k → ¬ (M 14 c (4 * (40 * i + u) + 1) = st ∧ M 14 c (4 * (40 * i + u) + 3) = 1)) → ∀ (H : Heap) (locs : List Loc), gG Z A sS (wR Z AD M n) H locs → ∀ ls : Array Slot, lv_has ls 5 [(0, .ref (AD (6 + c))), (1, .int (nI i)), (2, .int st), (3, .int (nI k))] → W pP l eE ({ frames := 0, cells := 0, slots := 0, locals := 0 } : Room) sS mI aA bB mE cC H locs 0 0 (MQ bB (gQ Z A (some (.int (b2 (hcR M c i st L)))) (wR Z AD M n)) aA sS 0 0 A) (F0 mI 2 ls []) := by
    intro fuQ
    induction fuQ with
    | zero =>
      intro k h1 h2
      exact absurd h2 (by omega)
    | succ fuQ ih2 =>
      intro k hleQ hfuQ hno H locs hG ls hl
      by_cases hlt : k < L
      · refine lv_iload_n hx hb dX7_hasCard_2 rfl (lv_at hl 3 rfl) ?_
        refine lv_aload_n hx hb dX7_hasCard_3 rfl (lv_at hl 0 rfl) ?_
        refine gg_get F hG (ci := 7) (v := .ref (AD (10 + c))) 5 gcX7 rfl (gR_state hc hn) (by decide) w4_49 rfl dX7_hasCard_4 ?_
        refine lv_iload_n hx hb dX7_hasCard_7 rfl (lv_at hl 1 rfl) ?_
        refine gg_ialdN F hG i (gR_lines hc hn) rfl (by omega) (by omega) dX7_hasCard_8 ?_
        rw [show M 13 c i = nI L from hL]
        refine lv_icmp_ge (tgt := 56) hx hb dX7_hasCard_9 (by decide) (fun h9 => absurd h9 (nI_ge hlt (by omega))) (fun h9 => ?_)
        refine lv_iconst (v := 4) hx hb dX7_hasCard_12 (by decide) ?_
        refine lv_bipush (v := 40) hx hb dX7_hasCard_13 (by decide) ?_
        refine lv_iload_n hx hb dX7_hasCard_15 rfl (lv_at hl 1 rfl) ?_
        refine lv_imul hx hb dX7_hasCard_16 ?_
        rw [show (40 * (nI i) : Int32) = nI (40 * i) from pk_mul 40 i]
        refine lv_iload_n hx hb dX7_hasCard_17 rfl (lv_at hl 3 rfl) ?_
        refine lv_iadd hx hb dX7_hasCard_18 ?_
        rw [show ((nI (40 * i)) + (nI k) : Int32) = nI (40 * i + k) from nI_add _ _]
        refine lv_imul hx hb dX7_hasCard_19 ?_
        rw [show (4 * (nI (40 * i + k)) : Int32) = nI (4 * (40 * i + k)) from pk_mul 4 _]
        refine lv_istore (lv' := [(4, .int (nI (4 * (40 * i + k)))), (0, .ref (AD (6 + c))), (1, .int (nI i)), (2, .int st), (3, .int (nI k))]) hx hb dX7_hasCard_20 hl (by decide) rfl (fun ls hl => ?_)
        refine lv_aload_n hx hb dX7_hasCard_22 rfl (lv_at hl 1 rfl) ?_
        refine gg_get F hG (ci := 7) (v := .ref (AD (12 + c))) 6 gcX7 rfl (gR_state hc hn) (by decide) w4_51 rfl dX7_hasCard_23 ?_
        refine lv_iload hx hb dX7_hasCard_26 (lv_at hl 0 rfl) ?_
        refine lv_iconst (v := 1) hx hb dX7_hasCard_28 (by decide) ?_
        refine lv_iadd hx hb dX7_hasCard_29 ?_
        rw [show ((nI (4 * (40 * i + k))) + 1 : Int32) = nI (4 * (40 * i + k) + 1) from nI_add _ _]
        refine gg_ialdN F hG (4 * (40 * i + k) + 1) (gR_log hc hn) rfl (by omega) (by omega) dX7_hasCard_30 ?_
        refine lv_iload_n hx hb dX7_hasCard_31 rfl (lv_at hl 3 rfl) ?_
        refine lv_icmp_ne (tgt := 50) hx hb dX7_hasCard_32 (by decide) (fun h32 => ?_) (fun h32 => ?_)
        · refine lv_iinc (v := nI (k + 1)) (lv' := [(3, .int (nI (k + 1))), (4, .int (nI (4 * (40 * i + k)))), (0, .ref (AD (6 + c))), (1, .int (nI i)), (2, .int st)]) hx hb dX7_hasCard_50 hl (k := 4) rfl (nI_1 _) (by decide) rfl (fun ls hl => ?_)
          refine lv_goto (tgt := 2) hx hb dX7_hasCard_53 (by decide) ?_
          exact ih2 (k + 1) (by omega) (by omega) (lt_s hno (fun z => h32 z.1)) _ _ hG ls (lv_sub hl [2, 3, 4, 0] rfl)
        · refine lv_aload_n hx hb dX7_hasCard_35 rfl (lv_at hl 1 rfl) ?_
          refine gg_get F hG (ci := 7) (v := .ref (AD (12 + c))) 6 gcX7 rfl (gR_state hc hn) (by decide) w4_51 rfl dX7_hasCard_36 ?_
          refine lv_iload hx hb dX7_hasCard_39 (lv_at hl 0 rfl) ?_
          refine lv_iconst (v := 3) hx hb dX7_hasCard_41 (by decide) ?_
          refine lv_iadd hx hb dX7_hasCard_42 ?_
          rw [show ((nI (4 * (40 * i + k))) + 3 : Int32) = nI (4 * (40 * i + k) + 3) from nI_add _ _]
          refine gg_ialdN F hG (4 * (40 * i + k) + 3) (gR_log hc hn) rfl (by omega) (by omega) dX7_hasCard_43 ?_
          refine lv_iconst (v := 1) hx hb dX7_hasCard_44 (by decide) ?_
          refine lv_icmp_ne (tgt := 50) hx hb dX7_hasCard_45 (by decide) (fun h45 => ?_) (fun h45 => ?_)
          · refine lv_iinc (v := nI (k + 1)) (lv' := [(3, .int (nI (k + 1))), (4, .int (nI (4 * (40 * i + k)))), (0, .ref (AD (6 + c))), (1, .int (nI i)), (2, .int st)]) hx hb dX7_hasCard_50 hl (k := 4) rfl (nI_1 _) (by decide) rfl (fun ls hl => ?_)
            refine lv_goto (tgt := 2) hx hb dX7_hasCard_53 (by decide) ?_
            exact ih2 (k + 1) (by omega) (by omega) (lt_s hno (fun z => h45 z.2)) _ _ hG ls (lv_sub hl [2, 3, 4, 0] rfl)
          · refine lv_iconst (v := 1) hx hb dX7_hasCard_48 (by decide) ?_
            exact gg_iret F hG rfl ((b2_t ⟨k, hlt, h32, h45⟩).symm) rfl dX7_hasCard_49
      · have hN : L = k := by omega
        subst hN
        refine lv_iload_n hx hb dX7_hasCard_2 rfl (lv_at hl 3 rfl) ?_
        refine lv_aload_n hx hb dX7_hasCard_3 rfl (lv_at hl 0 rfl) ?_
        refine gg_get F hG (ci := 7) (v := .ref (AD (10 + c))) 5 gcX7 rfl (gR_state hc hn) (by decide) w4_49 rfl dX7_hasCard_4 ?_
        refine lv_iload_n hx hb dX7_hasCard_7 rfl (lv_at hl 1 rfl) ?_
        refine gg_ialdN F hG i (gR_lines hc hn) rfl (by omega) (by omega) dX7_hasCard_8 ?_
        rw [show M 13 c i = nI L from hL]
        refine lv_icmp_ge (tgt := 56) hx hb dX7_hasCard_9 (by decide) (fun h9 => ?_) (fun h9 => absurd (nI_le (Nat.le_refl _) (by omega)) h9)
        refine lv_iconst (v := 0) hx hb dX7_hasCard_56 (by decide) ?_
        exact gg_iret F hG rfl ((b2_f (fun ⟨k, hk, z1, z2⟩ => hno k hk ⟨z1, z2⟩)).symm) rfl dX7_hasCard_57
  exact loop2 (L + 1) 0 (Nat.zero_le _) (by omega) lt_0 _ _ hG ls (lv_sub hl [1, 2, 3, 0] rfl)
set_option maxRecDepth 100000 in
set_option maxHeartbeats 4000000 in
theorem c_X7_isInDay (Z : gZ) (l : Launch) (AD : Nat → Nat) (M : St) (n : Nat) (hn : 16 ≤ n) (c i L : Nat) (hc : c < 2) (hi : i < 8) (hL : M 13 c i = nI L) (hL2 : L ≤ 40) (st : Int32) : gM Z l yX7_isInDay cX7_isInDay 5 (some .boolean) ({ frames := 0, cells := 0, slots := 0, locals := 0 } : Room) [.ref (AD (6 + c)), .int (nI i), .int st] (wR Z AD M n) (some (.int (b2 (inR M c i st L)))) (wR Z AD M n) 0 0 := by
  refine gM_of (by decide +kernel) (Nat.le_of_ble_eq_true rfl) ?_
  intro pP eE sS mI aA bB mE cC A F hname hG ls hl
  have hx := F.1
  have hb := F.2.1
  have hl : lv_has ls 5 [(0, .ref (AD (6 + c))), (1, .int (nI i)), (2, .int st)] := hl
  refine lv_iconst (v := nI 0) hx hb dX7_isInDay_0 rfl ?_
  refine lv_istore_n (lv' := [(3, .int (nI 0)), (0, .ref (AD (6 + c))), (1, .int (nI i)), (2, .int st)]) hx hb dX7_isInDay_1 rfl hl (by decide) rfl (fun ls hl => ?_)
  have loop2 : ∀ (fuQ k : Nat), k ≤ L → L + 1 ≤ k + fuQ → (∀ u, u < k → ¬ (M 14 c (4 * (40 * i + u) + 1) = st ∧ M 14 c (4 * (40 * i + u)) / 24 = M 8 c 0 / 24)) → ∀ (H : Heap) (locs : List Loc), gG Z A sS (wR Z AD M n) H locs → ∀ ls : Array Slot, lv_has ls 5 [(0, .ref (AD (6 + c))), (1, .int (nI i)), (2, .int st), (3, .int (nI k))] → W pP l eE ({ frames := 0, cells := 0, slots := 0, locals := 0 } : Room) sS mI aA bB mE cC H locs 0 0 (MQ bB (gQ Z A (some (.int (b2 (inR M c i st L)))) (wR Z AD M n)) aA sS 0 0 A) (F0 mI 2 ls []) := by
    intro fuQ
    induction fuQ with
    | zero =>
      intro k h1 h2
      exact absurd h2 (by omega)
    | succ fuQ ih2 =>
      intro k hleQ hfuQ hno H locs hG ls hl
      by_cases hlt : k < L
      · refine lv_iload_n hx hb dX7_isInDay_2 rfl (lv_at hl 3 rfl) ?_
        refine lv_aload_n hx hb dX7_isInDay_3 rfl (lv_at hl 0 rfl) ?_
        refine gg_get F hG (ci := 7) (v := .ref (AD (10 + c))) 5 gcX7 rfl (gR_state hc hn) (by decide) w4_49 rfl dX7_isInDay_4 ?_
        refine lv_iload_n hx hb dX7_isInDay_7 rfl (lv_at hl 1 rfl) ?_
        refine gg_ialdN F hG i (gR_lines hc hn) rfl (by omega) (by omega) dX7_isInDay_8 ?_
        rw [show M 13 c i = nI L from hL]
        refine lv_icmp_ge (tgt := 63) hx hb dX7_isInDay_9 (by decide) (fun h9 => absurd h9 (nI_ge hlt (by omega))) (fun h9 => ?_)
        refine lv_iconst (v := 4) hx hb dX7_isInDay_12 (by decide) ?_
        refine lv_bipush (v := 40) hx hb dX7_isInDay_13 (by decide) ?_
        refine lv_iload_n hx hb dX7_isInDay_15 rfl (lv_at hl 1 rfl) ?_
        refine lv_imul hx hb dX7_isInDay_16 ?_
        rw [show (40 * (nI i) : Int32) = nI (40 * i) from pk_mul 40 i]
        refine lv_iload_n hx hb dX7_isInDay_17 rfl (lv_at hl 3 rfl) ?_
        refine lv_iadd hx hb dX7_isInDay_18 ?_
        rw [show ((nI (40 * i)) + (nI k) : Int32) = nI (40 * i + k) from nI_add _ _]
        refine lv_imul hx hb dX7_isInDay_19 ?_
        rw [show (4 * (nI (40 * i + k)) : Int32) = nI (4 * (40 * i + k)) from pk_mul 4 _]
        refine lv_istore (lv' := [(4, .int (nI (4 * (40 * i + k)))), (0, .ref (AD (6 + c))), (1, .int (nI i)), (2, .int st), (3, .int (nI k))]) hx hb dX7_isInDay_20 hl (by decide) rfl (fun ls hl => ?_)
        refine lv_aload_n hx hb dX7_isInDay_22 rfl (lv_at hl 1 rfl) ?_
        refine gg_get F hG (ci := 7) (v := .ref (AD (12 + c))) 6 gcX7 rfl (gR_state hc hn) (by decide) w4_51 rfl dX7_isInDay_23 ?_
        refine lv_iload hx hb dX7_isInDay_26 (lv_at hl 0 rfl) ?_
        refine lv_iconst (v := 1) hx hb dX7_isInDay_28 (by decide) ?_
        refine lv_iadd hx hb dX7_isInDay_29 ?_
        rw [show ((nI (4 * (40 * i + k))) + 1 : Int32) = nI (4 * (40 * i + k) + 1) from nI_add _ _]
        refine gg_ialdN F hG (4 * (40 * i + k) + 1) (gR_log hc hn) rfl (by omega) (by omega) dX7_isInDay_30 ?_
        refine lv_iload_n hx hb dX7_isInDay_31 rfl (lv_at hl 3 rfl) ?_
        refine lv_icmp_ne (tgt := 57) hx hb dX7_isInDay_32 (by decide) (fun h32 => ?_) (fun h32 => ?_)
        · refine lv_iinc (v := nI (k + 1)) (lv' := [(3, .int (nI (k + 1))), (4, .int (nI (4 * (40 * i + k)))), (0, .ref (AD (6 + c))), (1, .int (nI i)), (2, .int st)]) hx hb dX7_isInDay_57 hl (k := 4) rfl (nI_1 _) (by decide) rfl (fun ls hl => ?_)
          refine lv_goto (tgt := 2) hx hb dX7_isInDay_60 (by decide) ?_
          exact ih2 (k + 1) (by omega) (by omega) (lt_s hno (fun z => h32 z.1)) _ _ hG ls (lv_sub hl [2, 3, 4, 0] rfl)
        · refine lv_aload_n hx hb dX7_isInDay_35 rfl (lv_at hl 1 rfl) ?_
          refine gg_get F hG (ci := 7) (v := .ref (AD (12 + c))) 6 gcX7 rfl (gR_state hc hn) (by decide) w4_51 rfl dX7_isInDay_36 ?_
          refine lv_iload hx hb dX7_isInDay_39 (lv_at hl 0 rfl) ?_
          refine gg_ialdN F hG (4 * (40 * i + k)) (gR_log hc hn) rfl (by omega) (by omega) dX7_isInDay_41 ?_
          refine lv_bipush (v := 24) hx hb dX7_isInDay_42 (by decide) ?_
          refine lv_idiv hx hb dX7_isInDay_44 (by decide) ?_
          refine lv_aload_n hx hb dX7_isInDay_45 rfl (lv_at hl 1 rfl) ?_
          refine gg_get F hG (ci := 7) (v := .int (M 8 c 0)) 0 gcX7 rfl (gR_state hc hn) (by decide) w4_39 rfl dX7_isInDay_46 ?_
          refine lv_bipush (v := 24) hx hb dX7_isInDay_49 (by decide) ?_
          refine lv_idiv hx hb dX7_isInDay_51 (by decide) ?_
          refine lv_icmp_ne (tgt := 57) hx hb dX7_isInDay_52 (by decide) (fun h52 => ?_) (fun h52 => ?_)
          · refine lv_iinc (v := nI (k + 1)) (lv' := [(3, .int (nI (k + 1))), (4, .int (nI (4 * (40 * i + k)))), (0, .ref (AD (6 + c))), (1, .int (nI i)), (2, .int st)]) hx hb dX7_isInDay_57 hl (k := 4) rfl (nI_1 _) (by decide) rfl (fun ls hl => ?_)
            refine lv_goto (tgt := 2) hx hb dX7_isInDay_60 (by decide) ?_
            exact ih2 (k + 1) (by omega) (by omega) (lt_s hno (fun z => h52 z.2)) _ _ hG ls (lv_sub hl [2, 3, 4, 0] rfl)
          · refine lv_iconst (v := 1) hx hb dX7_isInDay_55 (by decide) ?_
            exact gg_iret F hG rfl ((b2_t ⟨k, hlt, h32, h52⟩).symm) rfl dX7_isInDay_56
      · have hN : L = k := by omega
        subst hN
        refine lv_iload_n hx hb dX7_isInDay_2 rfl (lv_at hl 3 rfl) ?_
        refine lv_aload_n hx hb dX7_isInDay_3 rfl (lv_at hl 0 rfl) ?_
        refine gg_get F hG (ci := 7) (v := .ref (AD (10 + c))) 5 gcX7 rfl (gR_state hc hn) (by decide) w4_49 rfl dX7_isInDay_4 ?_
        refine lv_iload_n hx hb dX7_isInDay_7 rfl (lv_at hl 1 rfl) ?_
        refine gg_ialdN F hG i (gR_lines hc hn) rfl (by omega) (by omega) dX7_isInDay_8 ?_
        rw [show M 13 c i = nI L from hL]
        refine lv_icmp_ge (tgt := 63) hx hb dX7_isInDay_9 (by decide) (fun h9 => ?_) (fun h9 => absurd (nI_le (Nat.le_refl _) (by omega)) h9)
        refine lv_iconst (v := 0) hx hb dX7_isInDay_63 (by decide) ?_
        exact gg_iret F hG rfl ((b2_f (fun ⟨k, hk, z1, z2⟩ => hno k hk ⟨z1, z2⟩)).symm) rfl dX7_isInDay_64
  exact loop2 (L + 1) 0 (Nat.zero_le _) (by omega) lt_0 _ _ hG ls (lv_sub hl [1, 2, 3, 0] rfl)
set_option maxRecDepth 100000 in
set_option maxHeartbeats 4000000 in
theorem c_X8_cards (Z : gZ) (l : Launch) (AD : Nat → Nat) (M : St) (n : Nat) (hn : 16 ≤ n) (ns nm k : Nat) (hN : okN M ns nm) (hX : okX M 0 nm) : gM Z l yX8_cards cX8_cards 4 (some .int) ({ frames := 1, cells := 0, slots := 0, locals := 24 } : Room) [.ref (AD 0), .int (nI k)] (wR Z AD M n) (some (.int (cdR M (nI k) nm))) (wR Z AD M n) 0 0 := by
  refine gM_of (by decide +kernel) (Nat.le_of_ble_eq_true rfl) ?_
  intro pP eE sS mI aA bB mE cC A F hname hG ls hl
  have hx := F.1
  have hb := F.2.1
  have hl : lv_has ls 4 [(0, .ref (AD 0)), (1, .int (nI k))] := hl
  have hns2 := hN.2.1
  have hnm2 := hN.2.2.2.1
  refine lv_iconst (v := 0) hx hb dX8_cards_0 (by decide) ?_
  refine lv_istore_n (lv' := [(2, .int 0), (0, .ref (AD 0)), (1, .int (nI k))]) hx hb dX8_cards_1 rfl hl (by decide) rfl (fun ls hl => ?_)
  refine lv_iconst (v := nI 0) hx hb dX8_cards_2 rfl ?_
  refine lv_istore_n (lv' := [(3, .int (nI 0)), (2, .int 0), (0, .ref (AD 0)), (1, .int (nI k))]) hx hb dX8_cards_3 rfl hl (by decide) rfl (fun ls hl => ?_)
  have loop4 : ∀ (fuQ i : Nat), i ≤ nm → nm + 1 ≤ i + fuQ → ∀ (H : Heap) (locs : List Loc), gG Z A sS (wR Z AD M n) H locs → ∀ ls : Array Slot, lv_has ls 4 [(0, .ref (AD 0)), (1, .int (nI k)), (2, .int (cdR M (nI k) i)), (3, .int (nI i))] → W pP l eE ({ frames := 1, cells := 0, slots := 0, locals := 24 } : Room) sS mI aA bB mE cC H locs 0 0 (MQ bB (gQ Z A (some (.int (cdR M (nI k) nm))) (wR Z AD M n)) aA sS 0 0 A) (F0 mI 4 ls []) := by
    intro fuQ
    induction fuQ with
    | zero =>
      intro i h1 h2
      exact absurd h2 (by omega)
    | succ fuQ ih4 =>
      intro i hleQ hfuQ H locs hG ls hl
      by_cases hlt : i < nm
      · refine lv_iload_n hx hb dX8_cards_4 rfl (lv_at hl 3 rfl) ?_
        refine lv_aload_n hx hb dX8_cards_5 rfl (lv_at hl 0 rfl) ?_
        refine gg_get F hG (ci := 8) (v := .int (nI nm)) 2 gcX8 rfl (gR_model hn) (by decide) w4_78 (congrArg (fun z => some (Value.int z)) hN.2.2.1) dX8_cards_6 ?_
        refine lv_icmp_ge (tgt := 38) hx hb dX8_cards_9 (by decide) (fun h9 => absurd h9 (nI_ge hlt (by omega))) (fun h9 => ?_)
        refine lv_iload_n hx hb dX8_cards_12 rfl (lv_at hl 2 rfl) ?_
        refine lv_aload_n hx hb dX8_cards_13 rfl (lv_at hl 0 rfl) ?_
        refine gg_get F hG (ci := 8) (v := .ref (AD (6 + 0))) 8 gcX8 rfl (gR_model hn) (by decide) w4_87 rfl dX8_cards_14 ?_
        refine lv_iload_n hx hb dX8_cards_17 rfl (lv_at hl 3 rfl) ?_
        refine lv_iload_n hx hb dX8_cards_18 rfl (lv_at hl 1 rfl) ?_
        refine gg_callV F hG (ci := 7) (As := [.int (nI i), .int (nI k)]) (rest := [.int (cdR M (nI k) i)]) (c_X7_hasCard Z l AD M _ hn 0 i (szR M 0 i) (by omega) (by omega) (hX i hlt).1 (hX i hlt).2 (nI k)) kY_X7_hasCard kV_X7_hasCard (gR_state (by omega) hn) rfl rfl w4_179 rfl ⟨rfl, rfl⟩ ⟨(Nat.le_of_ble_eq_true rfl), (Nat.le_of_ble_eq_true rfl)⟩ rfl (Nat.le_of_ble_eq_true rfl) hl.1 ⟨Nat.zero_le _, Nat.zero_le _⟩ dX8_cards_19 rfl (fun H locs hG => ?_)
        refine lv_if_eq (tgt := 29) hx hb dX8_cards_22 (by decide) (fun h22 => ?_) (fun h22 => ?_)
        · refine lv_iconst (v := 0) hx hb dX8_cards_29 (by decide) ?_
          refine lv_iadd hx hb dX8_cards_30 ?_
          refine lv_istore_n (lv' := [(2, .int ((cdR M (nI k) i) + 0)), (0, .ref (AD 0)), (1, .int (nI k)), (3, .int (nI i))]) hx hb dX8_cards_31 rfl hl (by decide) rfl (fun ls hl => ?_)
          refine lv_iinc (v := nI (i + 1)) (lv' := [(3, .int (nI (i + 1))), (2, .int ((cdR M (nI k) i) + 0)), (0, .ref (AD 0)), (1, .int (nI k))]) hx hb dX8_cards_32 hl (k := 3) rfl (nI_1 _) (by decide) rfl (fun ls hl => ?_)
          refine lv_goto (tgt := 4) hx hb dX8_cards_35 (by decide) ?_
          have e9 : cdR M (nI k) (i + 1) = cdR M (nI k) i + 0 := by
            show cdR M (nI k) i + b2 (hcR M 0 i (nI k) (szR M 0 i)) = _
            rw [h22]
          exact ih4 (i + 1) (by omega) (by omega) _ _ hG ls (by rw [e9]; exact lv_sub hl [2, 3, 1, 0] rfl)
        · refine lv_iconst (v := 1) hx hb dX8_cards_25 (by decide) ?_
          refine lv_goto (tgt := 30) hx hb dX8_cards_26 (by decide) ?_
          refine lv_iadd hx hb dX8_cards_30 ?_
          refine lv_istore_n (lv' := [(2, .int ((cdR M (nI k) i) + 1)), (0, .ref (AD 0)), (1, .int (nI k)), (3, .int (nI i))]) hx hb dX8_cards_31 rfl hl (by decide) rfl (fun ls hl => ?_)
          refine lv_iinc (v := nI (i + 1)) (lv' := [(3, .int (nI (i + 1))), (2, .int ((cdR M (nI k) i) + 1)), (0, .ref (AD 0)), (1, .int (nI k))]) hx hb dX8_cards_32 hl (k := 3) rfl (nI_1 _) (by decide) rfl (fun ls hl => ?_)
          refine lv_goto (tgt := 4) hx hb dX8_cards_35 (by decide) ?_
          have e9 : cdR M (nI k) (i + 1) = cdR M (nI k) i + 1 := by
            show cdR M (nI k) i + b2 (hcR M 0 i (nI k) (szR M 0 i)) = _
            rw [b2_t (b2_n h22)]
          exact ih4 (i + 1) (by omega) (by omega) _ _ hG ls (by rw [e9]; exact lv_sub hl [2, 3, 1, 0] rfl)
      · have hN : nm = i := by omega
        subst hN
        refine lv_iload_n hx hb dX8_cards_4 rfl (lv_at hl 3 rfl) ?_
        refine lv_aload_n hx hb dX8_cards_5 rfl (lv_at hl 0 rfl) ?_
        refine gg_get F hG (ci := 8) (v := .int (nI nm)) 2 gcX8 rfl (gR_model hn) (by decide) w4_78 (congrArg (fun z => some (Value.int z)) hN.2.2.1) dX8_cards_6 ?_
        refine lv_icmp_ge (tgt := 38) hx hb dX8_cards_9 (by decide) (fun h9 => ?_) (fun h9 => absurd (nI_le (Nat.le_refl _) (by omega)) h9)
        refine lv_iload_n hx hb dX8_cards_38 rfl (lv_at hl 2 rfl) ?_
        exact gg_iret F hG rfl rfl rfl dX8_cards_39
  exact loop4 (nm + 1) 0 (Nat.zero_le _) (by omega) _ _ hG ls (lv_sub hl [2, 3, 1, 0] rfl)
set_option maxRecDepth 100000 in
set_option maxHeartbeats 4000000 in
theorem c_X8_held (Z : gZ) (l : Launch) (AD : Nat → Nat) (M : St) (n : Nat) (hn : 16 ≤ n) (ns nm i : Nat) (hN : okN M ns nm) (hX : okX M 0 nm) (hi : i < nm) (sc : Int32) : gM Z l yX8_held cX8_held 5 (some .int) ({ frames := 1, cells := 0, slots := 0, locals := 24 } : Room) [.ref (AD 0), .int (nI i), .int sc] (wR Z AD M n) (some (.int (hdR M i sc ns))) (wR Z AD M n) 0 0 := by
  refine gM_of (by decide +kernel) (Nat.le_of_ble_eq_true rfl) ?_
  intro pP eE sS mI aA bB mE cC A F hname hG ls hl
  have hx := F.1
  have hb := F.2.1
  have hl : lv_has ls 5 [(0, .ref (AD 0)), (1, .int (nI i)), (2, .int sc)] := hl
  have hns2 := hN.2.1
  have hnm2 := hN.2.2.2.1
  refine lv_iconst (v := 0) hx hb dX8_held_0 (by decide) ?_
  refine lv_istore_n (lv' := [(3, .int 0), (0, .ref (AD 0)), (1, .int (nI i)), (2, .int sc)]) hx hb dX8_held_1 rfl hl (by decide) rfl (fun ls hl => ?_)
  refine lv_iconst (v := nI 0) hx hb dX8_held_2 rfl ?_
  refine lv_istore (lv' := [(4, .int (nI 0)), (3, .int 0), (0, .ref (AD 0)), (1, .int (nI i)), (2, .int sc)]) hx hb dX8_held_3 hl (by decide) rfl (fun ls hl => ?_)
  have loop5 : ∀ (fuQ k : Nat), k ≤ ns → ns + 1 ≤ k + fuQ → ∀ (H : Heap) (locs : List Loc), gG Z A sS (wR Z AD M n) H locs → ∀ ls : Array Slot, lv_has ls 5 [(0, .ref (AD 0)), (1, .int (nI i)), (2, .int sc), (3, .int (hdR M i sc k)), (4, .int (nI k))] → W pP l eE ({ frames := 1, cells := 0, slots := 0, locals := 24 } : Room) sS mI aA bB mE cC H locs 0 0 (MQ bB (gQ Z A (some (.int (hdR M i sc ns))) (wR Z AD M n)) aA sS 0 0 A) (F0 mI 5 ls []) := by
    intro fuQ
    induction fuQ with
    | zero =>
      intro k h1 h2
      exact absurd h2 (by omega)
    | succ fuQ ih5 =>
      intro k hleQ hfuQ H locs hG ls hl
      by_cases hlt : k < ns
      · refine lv_iload hx hb dX8_held_5 (lv_at hl 4 rfl) ?_
        refine lv_aload_n hx hb dX8_held_7 rfl (lv_at hl 0 rfl) ?_
        refine gg_get F hG (ci := 8) (v := .int (nI ns)) 1 gcX8 rfl (gR_model hn) (by decide) w4_76 (congrArg (fun z => some (Value.int z)) hN.1) dX8_held_8 ?_
        refine lv_icmp_ge (tgt := 56) hx hb dX8_held_11 (by decide) (fun h11 => absurd h11 (nI_ge hlt (by omega))) (fun h11 => ?_)
        refine lv_aload_n hx hb dX8_held_14 rfl (lv_at hl 0 rfl) ?_
        refine gg_get F hG (ci := 8) (v := .ref (AD (6 + 0))) 8 gcX8 rfl (gR_model hn) (by decide) w4_87 rfl dX8_held_15 ?_
        refine lv_iload_n hx hb dX8_held_18 rfl (lv_at hl 1 rfl) ?_
        refine lv_iload hx hb dX8_held_19 (lv_at hl 4 rfl) ?_
        refine gg_callV F hG (ci := 7) (As := [.int (nI i), .int (nI k)]) (rest := []) (c_X7_hasCard Z l AD M _ hn 0 i (szR M 0 i) (by omega) (by omega) (hX i hi).1 (hX i hi).2 (nI k)) kY_X7_hasCard kV_X7_hasCard (gR_state (by omega) hn) rfl rfl w4_179 rfl ⟨rfl, rfl⟩ ⟨(Nat.le_of_ble_eq_true rfl), (Nat.le_of_ble_eq_true rfl)⟩ rfl (Nat.le_of_ble_eq_true rfl) hl.1 ⟨Nat.zero_le _, Nat.zero_le _⟩ dX8_held_21 rfl (fun H locs hG => ?_)
        refine lv_if_eq (tgt := 50) hx hb dX8_held_24 (by decide) (fun h24 => ?_) (fun h24 => ?_)
        · refine lv_iinc (v := nI (k + 1)) (lv' := [(4, .int (nI (k + 1))), (0, .ref (AD 0)), (1, .int (nI i)), (2, .int sc), (3, .int (hdR M i sc k))]) hx hb dX8_held_50 hl (k := 4) rfl (nI_1 _) (by decide) rfl (fun ls hl => ?_)
          refine lv_goto (tgt := 5) hx hb dX8_held_53 (by decide) ?_
          have e9 : hdR M i sc (k + 1) = hdR M i sc k := if_pos h24
          exact ih5 (k + 1) (by omega) (by omega) _ _ hG ls (by rw [e9]; exact lv_sub hl [1, 2, 3, 4, 0] rfl)
        · refine lv_iload_n hx hb dX8_held_27 rfl (lv_at hl 3 rfl) ?_
          refine lv_iload_n hx hb dX8_held_28 rfl (lv_at hl 2 rfl) ?_
          refine lv_if_eq (tgt := 47) hx hb dX8_held_29 (by decide) (fun h29 => ?_) (fun h29 => ?_)
          · refine lv_iconst (v := 1) hx hb dX8_held_47 (by decide) ?_
            refine lv_iadd hx hb dX8_held_48 ?_
            refine lv_istore_n (lv' := [(3, .int ((hdR M i sc k) + 1)), (0, .ref (AD 0)), (1, .int (nI i)), (2, .int sc), (4, .int (nI k))]) hx hb dX8_held_49 rfl hl (by decide) rfl (fun ls hl => ?_)
            refine lv_iinc (v := nI (k + 1)) (lv' := [(4, .int (nI (k + 1))), (3, .int ((hdR M i sc k) + 1)), (0, .ref (AD 0)), (1, .int (nI i)), (2, .int sc)]) hx hb dX8_held_50 hl (k := 4) rfl (nI_1 _) (by decide) rfl (fun ls hl => ?_)
            refine lv_goto (tgt := 5) hx hb dX8_held_53 (by decide) ?_
            have e9 : hdR M i sc (k + 1) = hdR M i sc k + 1 := (if_neg h24).trans (congrArg (hdR M i sc k + ·) (if_pos h29))
            exact ih5 (k + 1) (by omega) (by omega) _ _ hG ls (by rw [e9]; exact lv_sub hl [2, 3, 4, 1, 0] rfl)
          · refine lv_aload_n hx hb dX8_held_32 rfl (lv_at hl 0 rfl) ?_
            refine gg_get F hG (ci := 8) (v := .ref (AD 1)) 3 gcX8 rfl (gR_model hn) (by decide) w4_79 rfl dX8_held_33 ?_
            refine lv_bipush (v := 6) hx hb dX8_held_36 (by decide) ?_
            refine lv_iload hx hb dX8_held_38 (lv_at hl 4 rfl) ?_
            refine lv_imul hx hb dX8_held_40 ?_
            rw [show (6 * (nI k) : Int32) = nI (6 * k) from pk_mul 6 k]
            refine lv_iconst (v := 2) hx hb dX8_held_41 (by decide) ?_
            refine lv_iadd hx hb dX8_held_42 ?_
            rw [show ((nI (6 * k)) + 2 : Int32) = nI (6 * k + 2) from nI_add _ _]
            refine gg_ialdN F hG (6 * k + 2) (gR_air hn) rfl (by omega) (by omega) dX8_held_43 ?_
            refine lv_goto (tgt := 48) hx hb dX8_held_44 (by decide) ?_
            refine lv_iadd hx hb dX8_held_48 ?_
            refine lv_istore_n (lv' := [(3, .int ((hdR M i sc k) + (M 0 0 (6 * k + 2)))), (0, .ref (AD 0)), (1, .int (nI i)), (2, .int sc), (4, .int (nI k))]) hx hb dX8_held_49 rfl hl (by decide) rfl (fun ls hl => ?_)
            refine lv_iinc (v := nI (k + 1)) (lv' := [(4, .int (nI (k + 1))), (3, .int ((hdR M i sc k) + (M 0 0 (6 * k + 2)))), (0, .ref (AD 0)), (1, .int (nI i)), (2, .int sc)]) hx hb dX8_held_50 hl (k := 4) rfl (nI_1 _) (by decide) rfl (fun ls hl => ?_)
            refine lv_goto (tgt := 5) hx hb dX8_held_53 (by decide) ?_
            have e9 : hdR M i sc (k + 1) = hdR M i sc k + M 0 0 (6 * k + 2) := (if_neg h24).trans (congrArg (hdR M i sc k + ·) (if_neg h29))
            exact ih5 (k + 1) (by omega) (by omega) _ _ hG ls (by rw [e9]; exact lv_sub hl [2, 3, 4, 1, 0] rfl)
      · have hN : ns = k := by omega
        subst hN
        refine lv_iload hx hb dX8_held_5 (lv_at hl 4 rfl) ?_
        refine lv_aload_n hx hb dX8_held_7 rfl (lv_at hl 0 rfl) ?_
        refine gg_get F hG (ci := 8) (v := .int (nI ns)) 1 gcX8 rfl (gR_model hn) (by decide) w4_76 (congrArg (fun z => some (Value.int z)) hN.1) dX8_held_8 ?_
        refine lv_icmp_ge (tgt := 56) hx hb dX8_held_11 (by decide) (fun h11 => ?_) (fun h11 => absurd (nI_le (Nat.le_refl _) (by omega)) h11)
        refine lv_iload_n hx hb dX8_held_56 rfl (lv_at hl 3 rfl) ?_
        exact gg_iret F hG rfl rfl rfl dX8_held_57
  exact loop5 (ns + 1) 0 (Nat.zero_le _) (by omega) _ _ hG ls (lv_sub hl [2, 3, 4, 1, 0] rfl)
